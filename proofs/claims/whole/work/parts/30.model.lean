/-! NumberGobletsModel (the reference): its helpers -/
abbrev gM (m0 ar : Nat) (sv rv tv : Int32) : Nat × va_E := (m0, .inr (2, [.ref ar, .int sv, .int rv, .int tv]))
abbrev gR (ar : Nat) (cI : ClassId) (row : Nat → Int32) : Nat × va_E := (ar, .inl (cI, 5002, .inl row))
/-- a world with the reference's object at place i and its row at place j -/
def wM (w : va_W) (i j m0 ar : Nat) (cI : ClassId) (sv rv tv : Int32) (row : Nat → Int32) : va_W := (w.set i (gM m0 ar sv rv tv)).set j (gR ar cI row)
section GM
variable {w : va_W} {i j m0 ar : Nat} {cI : ClassId} {sv rv tv : Int32} {row : Nat → Int32}
theorem gM_i (hi : i < w.length) (hij : i ≠ j) : (wM w i j m0 ar cI sv rv tv row)[i]? = some (gM m0 ar sv rv tv) := by
  unfold wM
  rw [List.getElem?_set_ne (Ne.symm hij), List.getElem?_set_self hi]
theorem gM_j (hj : j < w.length) : (wM w i j m0 ar cI sv rv tv row)[j]? = some (gR ar cI row) := by
  unfold wM
  rw [List.getElem?_set_self (by rw [List.length_set]; exact hj)]
theorem gM_si (hij : i ≠ j) (sv2 rv2 tv2 : Int32) : (wM w i j m0 ar cI sv rv tv row).set i (gM m0 ar sv2 rv2 tv2) = wM w i j m0 ar cI sv2 rv2 tv2 row := by
  unfold wM
  rw [List.set_comm _ _ (Ne.symm hij), List.set_set]
theorem gM_sj (row2 : Nat → Int32) : (wM w i j m0 ar cI sv rv tv row).set j (gR ar cI row2) = wM w i j m0 ar cI sv rv tv row2 := by
  unfold wM
  rw [List.set_set]
end GM
/-- the row tells P up to n -/
def gRow (P : Nat → Int32) (n : Nat) (row : Nat → Int32) : Prop := ∀ k, 1 ≤ k → k ≤ n → row k = P k
theorem i2_thrown : ∀ w ∈ u_ws RX2 TX2 4, w ∈ wsX2_thrown := by decide +kernel
theorem i2_howMany : ∀ w ∈ u_ws RX2 TX2 4, w ∈ wsX2_howMany := by decide +kernel
theorem i2_lowest : ∀ w ∈ u_ws RX2 TX2 4, w ∈ wsX2_lowest := by decide +kernel
theorem i2_moves : ∀ w ∈ u_ws RX2 TX2 4, w ∈ wsX2_moves := by decide +kernel
theorem i2_begins : ∀ w ∈ u_ws RX2 TX2 4, w ∈ wsX2_begins := by decide +kernel
theorem i2_ends : ∀ w ∈ u_ws RX2 TX2 4, w ∈ wsX2_ends := by decide +kernel
theorem i2_rangesIn : ∀ w ∈ u_ws RX2 TX2 4, w ∈ wsX2_rangesIn := by decide +kernel
theorem i2_enlarge : ∀ w ∈ u_ws RX2 TX2 4, w ∈ wsX2_enlarge := by decide +kernel
theorem i2_pour : ∀ w ∈ u_ws RX2 TX2 4, w ∈ wsX2_pour := by decide +kernel
theorem i2_drink : ∀ w ∈ u_ws RX2 TX2 4, w ∈ wsX2_drink := by decide +kernel
theorem i2_pourBack : ∀ w ∈ u_ws RX2 TX2 4, w ∈ wsX2_pourBack := by decide +kernel
theorem i2_share : ∀ w ∈ u_ws RX2 TX2 4, w ∈ wsX2_share := by decide +kernel
theorem i2_giveBack : ∀ w ∈ u_ws RX2 TX2 4, w ∈ wsX2_giveBack := by decide +kernel
theorem i2_spill : ∀ w ∈ u_ws RX2 TX2 4, w ∈ wsX2_spill := by decide +kernel
theorem i2_nextRound : ∀ w ∈ u_ws RX2 TX2 4, w ∈ wsX2_nextRound := by decide +kernel
theorem i2_size : ∀ w ∈ u_ws RX2 TX2 4, w ∈ wsX2_size := by decide +kernel
theorem i2_round : ∀ w ∈ u_ws RX2 TX2 4, w ∈ wsX2_round := by decide +kernel
theorem i2_inJug : ∀ w ∈ u_ws RX2 TX2 4, w ∈ wsX2_inJug := by decide +kernel
theorem i2_ranges : ∀ w ∈ u_ws RX2 TX2 4, w ∈ wsX2_ranges := by decide +kernel
theorem i2_rangeFrom : ∀ w ∈ u_ws RX2 TX2 4, w ∈ wsX2_rangeFrom := by decide +kernel
theorem i2_rangeTo : ∀ w ∈ u_ws RX2 TX2 4, w ∈ wsX2_rangeTo := by decide +kernel
theorem i2_longestRange : ∀ w ∈ u_ws RX2 TX2 4, w ∈ wsX2_longestRange := by decide +kernel
theorem i2_inGoblet : ∀ w ∈ u_ws RX2 TX2 4, w ∈ wsX2_inGoblet := by decide +kernel
theorem i2_rangesOf : ∀ w ∈ u_ws RX2 TX2 4, w ∈ wsX2_rangesOf := by decide +kernel
theorem i2_nextOf : ∀ w ∈ u_ws RX2 TX2 4, w ∈ wsX2_nextOf := by decide +kernel
theorem i2_placeOf : ∀ w ∈ u_ws RX2 TX2 4, w ∈ wsX2_placeOf := by decide +kernel
theorem i2_drunk : ∀ w ∈ u_ws RX2 TX2 4, w ∈ wsX2_drunk := by decide +kernel
theorem i2_spilt : ∀ w ∈ u_ws RX2 TX2 4, w ∈ wsX2_spilt := by decide +kernel
theorem i2_lowestLeft : ∀ w ∈ u_ws RX2 TX2 4, w ∈ wsX2_lowestLeft := by decide +kernel
theorem i2_init : ∀ w ∈ u_ws RX2 TX2 4, w ∈ wsX2_init := by decide +kernel
theorem i2_next : ∀ w ∈ u_ws RX2 TX2 4, w ∈ wsX2_next := by decide +kernel
set_option maxHeartbeats 4000000 in
set_option maxRecDepth 100000 in
/-- thrown() -/
theorem m_thrown (l : Launch) (D : va_G) (tys : List (ClassId × FieldType)) {cI : ClassId} {t : Nat} (ht : tys[t]? = some (cI, .int)) {w : va_W} {i j : Nat} (hi : i < w.length) (hj : j < w.length) (hij : i ≠ j) {m0 ar : Nat} {rv tv : Int32} {row : Nat → Int32} {P : Nat → Int32} {n : Nat} (hn : n ≤ 5000) (hrow : gRow P n row) (sz : Nat)  : Met l yX2_thrown wsX2_thrown ({ frames := 0, cells := 0, slots := 0, locals := 0 } : Room) (gP D tys [.ref m0] (wM w i j m0 ar cI (nI n) rv tv row) sz (fun _ => True)) (va_Qi (fun (r : Int32) (_ : Unit) => r = tv) (fun _ t => gWd D tys (va_A (wM w i j m0 ar cI (nI n) rv tv row) sz) (wM w i j m0 ar cI (nI n) rv tv row) t) (va_A (wM w i j m0 ar cI (nI n) rv tv row) sz)) 0 0 (va_A (wM w i j m0 ar cI (nI n) rv tv row) sz) := by
  refine g_ofW (cc := cX2_thrown) (maxL := 1) (ret := some .int) (by decide) rfl (Nat.le_of_ble_eq_true rfl) ?_
  intro p e s m below meth c hx hb hr hml hts hown hlocks hin hsz hP hK hD hA hS hG ls hl
  subst hsz
  have hown : s.vm.findClass RX2 = some m.cls := hown
  have hl : lv_has ls 1 [(0, .ref m0)] := hl
  have f_thrown := hts (.fieldLink RX2 20 "NumberGobletsModel" "thrown" "I") (by decide +kernel)
  refine lv_aload_n hx hb dX2_thrown_0 rfl (lv_at hl 0 rfl) ?_
  refine va_get (D := D) (ci := 2) (v := .int tv) (C := RX2) (T := TX2) (N := 4) hx hb hts i2_thrown hown hK hP i (gM_i hi hij) rfl 3 (by decide) f_thrown (fun _ h9 => h9) rfl dX2_thrown_1 ?_
  exact g_reti hx hb hr hlocks hK (tv) () hP hD hS (Nat.zero_le _) (Nat.zero_le _) (rfl) dX2_thrown_4
set_option maxHeartbeats 4000000 in
set_option maxRecDepth 100000 in
/-- isGoblet(goblet) -/
theorem m_isGoblet (l : Launch) (D : va_G) (tys : List (ClassId × FieldType)) (w : va_W) (sz : Nat) (v0 : Int32) : Met l yX2_isGoblet wsX2_isGoblet ({ frames := 0, cells := 0, slots := 0, locals := 0 } : Room) (gP D tys [.int v0] w sz (fun _ => True)) (va_Qi (fun (r : Int32) (_ : Unit) => (r = 1 ∧ gGob v0) ∨ (r = 0 ∧ ¬ gGob v0)) (fun _ t => gWd D tys (va_A w sz) w t) (va_A w sz)) 0 0 (va_A w sz) := by
  refine g_ofW (cc := cX2_isGoblet) (maxL := 1) (ret := some .boolean) (by decide) rfl (Nat.le_of_ble_eq_true rfl) ?_
  intro p e s m below meth c hx hb hr hml hts hown hlocks hin hsz hP hK hD hA hS hG ls hl
  subst hsz
  have hown : s.vm.findClass RX2 = some m.cls := hown
  have hl : lv_has ls 1 [(0, .int v0)] := hl
  refine lv_iload_n hx hb dX2_isGoblet_0 rfl (lv_at hl 0 rfl) ?_
  refine lv_if_lt (tgt := 14) hx hb dX2_isGoblet_1 (by decide) (fun c1 => ?_) (fun c1 => ?_)
  · have hno : ¬ gGob v0 := fun ⟨j, h1, h2⟩ => by rw [h2] at c1; exact nI_pos (by omega) c1
    refine lv_iconst (v := 0) hx hb dX2_isGoblet_14 (by decide) ?_
    exact g_retz hx hb hr hlocks hK 0 rfl () hP hD hS (Nat.zero_le _) (Nat.zero_le _) (Or.inr ⟨rfl, hno⟩) dX2_isGoblet_15
  · obtain ⟨j, hj, rfl⟩ := nI_of c1
    refine lv_iload_n hx hb dX2_isGoblet_4 rfl (lv_at hl 0 rfl) ?_
    refine lv_bipush (v := 8) hx hb dX2_isGoblet_5 (by decide) ?_
    refine lv_icmp_ge (tgt := 14) hx hb dX2_isGoblet_7 (by decide) (fun c2 => ?_) (fun c2 => ?_)
    · have hno : ¬ gGob (nI j) := fun ⟨i, h1, h2⟩ => by rw [h2] at c2; exact (nI_ge (a := i) (b := 8) h1 (by omega)) c2
      refine lv_iconst (v := 0) hx hb dX2_isGoblet_14 (by decide) ?_
      exact g_retz hx hb hr hlocks hK 0 rfl () hP hD hS (Nat.zero_le _) (Nat.zero_le _) (Or.inr ⟨rfl, hno⟩) dX2_isGoblet_15
    · have hj8 : j < 8 := by rcases Nat.lt_or_ge j 8 with q | q; exact q; exact absurd (show nI 8 ≤ nI j from nI_le q hj) c2
      refine lv_iconst (v := 1) hx hb dX2_isGoblet_10 (by decide) ?_
      refine lv_goto (tgt := 15) hx hb dX2_isGoblet_11 (by decide) ?_
      exact g_retz hx hb hr hlocks hK 1 rfl () hP hD hS (Nat.zero_le _) (Nat.zero_le _) (Or.inl ⟨rfl, j, hj8, rfl⟩) dX2_isGoblet_15
set_option maxHeartbeats 4000000 in
set_option maxRecDepth 100000 in
/-- begins(number, where) -/
theorem m_begins (l : Launch) (D : va_G) (tys : List (ClassId × FieldType)) {cI : ClassId} {t : Nat} (ht : tys[t]? = some (cI, .int)) {w : va_W} {i j : Nat} (hi : i < w.length) (hj : j < w.length) (hij : i ≠ j) {m0 ar : Nat} {rv tv : Int32} {row : Nat → Int32} {P : Nat → Int32} {n : Nat} (hn : n ≤ 5000) (hrow : gRow P n row) (sz : Nat) {k : Nat} (hk1 : 1 ≤ k) (hkn : k ≤ n) (p0 : Int32) (hp0 : ¬ P 0 = p0) : Met l yX2_begins wsX2_begins ({ frames := 0, cells := 0, slots := 0, locals := 0 } : Room) (gP D tys [.ref m0, .int (nI k), .int p0] (wM w i j m0 ar cI (nI n) rv tv row) sz (fun _ => True)) (va_Qi (fun (r : Int32) (_ : Unit) => (r = 1 ∧ P k = p0 ∧ ¬ P (k - 1) = p0) ∨ (r = 0 ∧ ¬ (P k = p0 ∧ ¬ P (k - 1) = p0))) (fun _ t => gWd D tys (va_A (wM w i j m0 ar cI (nI n) rv tv row) sz) (wM w i j m0 ar cI (nI n) rv tv row) t) (va_A (wM w i j m0 ar cI (nI n) rv tv row) sz)) 0 0 (va_A (wM w i j m0 ar cI (nI n) rv tv row) sz) := by
  refine g_ofW (cc := cX2_begins) (maxL := 3) (ret := some .boolean) (by decide) rfl (Nat.le_of_ble_eq_true rfl) ?_
  intro p e s m below meth c hx hb hr hml hts hown hlocks hin hsz hP hK hD hA hS hG ls hl
  subst hsz
  have hown : s.vm.findClass RX2 = some m.cls := hown
  have hl : lv_has ls 3 [(0, .ref m0), (1, .int (nI k)), (2, .int p0)] := hl
  have f_place := hts (.fieldLink RX2 7 "NumberGobletsModel" "place" "[I") (by decide +kernel)
  refine lv_aload_n hx hb dX2_begins_0 rfl (lv_at hl 0 rfl) ?_
  refine va_get (D := D) (ci := 2) (v := .ref ar) (C := RX2) (T := TX2) (N := 4) hx hb hts i2_begins hown hK hP i (gM_i hi hij) rfl 0 (by decide) f_place (fun _ h9 => h9) rfl dX2_begins_1 ?_
  refine lv_iload_n hx hb dX2_begins_4 rfl (lv_at hl 1 rfl) ?_
  refine va_iald hx hb hK hP j t (gM_j hj) ht (vp_in_nI (n := k) (by omega) (by omega)) dX2_begins_5 ?_
  refine g_top (y := P k) (by rw [nI_clamp (by omega)]; exact hrow k hk1 hkn) ?_
  refine lv_iload_n hx hb dX2_begins_6 rfl (lv_at hl 2 rfl) ?_
  refine lv_icmp_ne (tgt := 31) hx hb dX2_begins_7 (by decide) (fun c1 => ?_) (fun c1 => ?_)
  · skip
    refine lv_iconst (v := 0) hx hb dX2_begins_31 (by decide) ?_
    exact g_retz hx hb hr hlocks hK 0 rfl () hP hD hS (Nat.zero_le _) (Nat.zero_le _) (Or.inr ⟨rfl, fun z => c1 z.1⟩) dX2_begins_32
  · skip
    refine lv_iload_n hx hb dX2_begins_10 rfl (lv_at hl 1 rfl) ?_
    refine lv_iconst (v := 1) hx hb dX2_begins_11 (by decide) ?_
    refine lv_icmp_eq (tgt := 27) hx hb dX2_begins_12 (by decide) (fun c2 => ?_) (fun c2 => ?_)
    · have hk : k = 1 := (nI_eq (by omega) (by omega)).mp (show nI k = nI 1 from c2)
      refine lv_iconst (v := 1) hx hb dX2_begins_27 (by decide) ?_
      refine lv_goto (tgt := 32) hx hb dX2_begins_28 (by decide) ?_
      exact g_retz hx hb hr hlocks hK 1 rfl () hP hD hS (Nat.zero_le _) (Nat.zero_le _) (Or.inl ⟨rfl, c1, by rw [hk]; exact hp0⟩) dX2_begins_32
    · have hk : ¬ k = 1 := fun q => c2 (by rw [q]; rfl)
      refine lv_aload_n hx hb dX2_begins_15 rfl (lv_at hl 0 rfl) ?_
      refine va_get (D := D) (ci := 2) (v := .ref ar) (C := RX2) (T := TX2) (N := 4) hx hb hts i2_begins hown hK hP i (gM_i hi hij) rfl 0 (by decide) f_place (fun _ h9 => h9) rfl dX2_begins_16 ?_
      refine lv_iload_n hx hb dX2_begins_19 rfl (lv_at hl 1 rfl) ?_
      refine lv_iconst (v := 1) hx hb dX2_begins_20 (by decide) ?_
      refine lv_isub hx hb dX2_begins_21 ?_
      refine g_top (y := nI (k - 1)) (by rw [show (1 : Int32) = nI 1 from rfl]; exact pk_sub hk1) ?_
      refine va_iald hx hb hK hP j t (gM_j hj) ht (vp_in_nI (n := k - 1) (by omega) (by omega)) dX2_begins_22 ?_
      refine g_top (y := P (k - 1)) (by rw [nI_clamp (by omega)]; exact hrow (k - 1) (by omega) (by omega)) ?_
      refine lv_iload_n hx hb dX2_begins_23 rfl (lv_at hl 2 rfl) ?_
      refine lv_icmp_eq (tgt := 31) hx hb dX2_begins_24 (by decide) (fun c3 => ?_) (fun c3 => ?_)
      · skip
        refine lv_iconst (v := 0) hx hb dX2_begins_31 (by decide) ?_
        exact g_retz hx hb hr hlocks hK 0 rfl () hP hD hS (Nat.zero_le _) (Nat.zero_le _) (Or.inr ⟨rfl, fun q => q.2 c3⟩) dX2_begins_32
      · skip
        refine lv_iconst (v := 1) hx hb dX2_begins_27 (by decide) ?_
        refine lv_goto (tgt := 32) hx hb dX2_begins_28 (by decide) ?_
        exact g_retz hx hb hr hlocks hK 1 rfl () hP hD hS (Nat.zero_le _) (Nat.zero_le _) (Or.inl ⟨rfl, c1, c3⟩) dX2_begins_32
set_option maxHeartbeats 4000000 in
set_option maxRecDepth 100000 in
/-- ends(number, where) -/
theorem m_ends (l : Launch) (D : va_G) (tys : List (ClassId × FieldType)) {cI : ClassId} {t : Nat} (ht : tys[t]? = some (cI, .int)) {w : va_W} {i j : Nat} (hi : i < w.length) (hj : j < w.length) (hij : i ≠ j) {m0 ar : Nat} {rv tv : Int32} {row : Nat → Int32} {P : Nat → Int32} {n : Nat} (hn : n ≤ 5000) (hrow : gRow P n row) (sz : Nat) {k : Nat} (hk1 : 1 ≤ k) (hkn : k ≤ n) (p0 : Int32) (hpn : ¬ P (n + 1) = p0) : Met l yX2_ends wsX2_ends ({ frames := 0, cells := 0, slots := 0, locals := 0 } : Room) (gP D tys [.ref m0, .int (nI k), .int p0] (wM w i j m0 ar cI (nI n) rv tv row) sz (fun _ => True)) (va_Qi (fun (r : Int32) (_ : Unit) => (r = 1 ∧ P k = p0 ∧ ¬ P (k + 1) = p0) ∨ (r = 0 ∧ ¬ (P k = p0 ∧ ¬ P (k + 1) = p0))) (fun _ t => gWd D tys (va_A (wM w i j m0 ar cI (nI n) rv tv row) sz) (wM w i j m0 ar cI (nI n) rv tv row) t) (va_A (wM w i j m0 ar cI (nI n) rv tv row) sz)) 0 0 (va_A (wM w i j m0 ar cI (nI n) rv tv row) sz) := by
  refine g_ofW (cc := cX2_ends) (maxL := 3) (ret := some .boolean) (by decide) rfl (Nat.le_of_ble_eq_true rfl) ?_
  intro p e s m below meth c hx hb hr hml hts hown hlocks hin hsz hP hK hD hA hS hG ls hl
  subst hsz
  have hown : s.vm.findClass RX2 = some m.cls := hown
  have hl : lv_has ls 3 [(0, .ref m0), (1, .int (nI k)), (2, .int p0)] := hl
  have f_place := hts (.fieldLink RX2 7 "NumberGobletsModel" "place" "[I") (by decide +kernel)
  have f_size := hts (.fieldLink RX2 13 "NumberGobletsModel" "size" "I") (by decide +kernel)
  refine lv_aload_n hx hb dX2_ends_0 rfl (lv_at hl 0 rfl) ?_
  refine va_get (D := D) (ci := 2) (v := .ref ar) (C := RX2) (T := TX2) (N := 4) hx hb hts i2_ends hown hK hP i (gM_i hi hij) rfl 0 (by decide) f_place (fun _ h9 => h9) rfl dX2_ends_1 ?_
  refine lv_iload_n hx hb dX2_ends_4 rfl (lv_at hl 1 rfl) ?_
  refine va_iald hx hb hK hP j t (gM_j hj) ht (vp_in_nI (n := k) (by omega) (by omega)) dX2_ends_5 ?_
  refine g_top (y := P k) (by rw [nI_clamp (by omega)]; exact hrow k hk1 hkn) ?_
  refine lv_iload_n hx hb dX2_ends_6 rfl (lv_at hl 2 rfl) ?_
  refine lv_icmp_ne (tgt := 34) hx hb dX2_ends_7 (by decide) (fun c1 => ?_) (fun c1 => ?_)
  · skip
    refine lv_iconst (v := 0) hx hb dX2_ends_34 (by decide) ?_
    exact g_retz hx hb hr hlocks hK 0 rfl () hP hD hS (Nat.zero_le _) (Nat.zero_le _) (Or.inr ⟨rfl, fun z => c1 z.1⟩) dX2_ends_35
  · skip
    refine lv_iload_n hx hb dX2_ends_10 rfl (lv_at hl 1 rfl) ?_
    refine lv_aload_n hx hb dX2_ends_11 rfl (lv_at hl 0 rfl) ?_
    refine va_get (D := D) (ci := 2) (v := .int (nI n)) (C := RX2) (T := TX2) (N := 4) hx hb hts i2_ends hown hK hP i (gM_i hi hij) rfl 1 (by decide) f_size (fun _ h9 => h9) rfl dX2_ends_12 ?_
    refine lv_icmp_eq (tgt := 30) hx hb dX2_ends_15 (by decide) (fun c2 => ?_) (fun c2 => ?_)
    · have hk : k = n := (nI_eq (by omega) (by omega)).mp c2
      refine lv_iconst (v := 1) hx hb dX2_ends_30 (by decide) ?_
      refine lv_goto (tgt := 35) hx hb dX2_ends_31 (by decide) ?_
      exact g_retz hx hb hr hlocks hK 1 rfl () hP hD hS (Nat.zero_le _) (Nat.zero_le _) (Or.inl ⟨rfl, c1, by rw [hk]; exact hpn⟩) dX2_ends_35
    · have hk : ¬ k = n := fun q => c2 (by rw [q])
      refine lv_aload_n hx hb dX2_ends_18 rfl (lv_at hl 0 rfl) ?_
      refine va_get (D := D) (ci := 2) (v := .ref ar) (C := RX2) (T := TX2) (N := 4) hx hb hts i2_ends hown hK hP i (gM_i hi hij) rfl 0 (by decide) f_place (fun _ h9 => h9) rfl dX2_ends_19 ?_
      refine lv_iload_n hx hb dX2_ends_22 rfl (lv_at hl 1 rfl) ?_
      refine lv_iconst (v := 1) hx hb dX2_ends_23 (by decide) ?_
      refine lv_iadd hx hb dX2_ends_24 ?_
      refine g_top (y := nI (k + 1)) (nI_1 _) ?_
      refine va_iald hx hb hK hP j t (gM_j hj) ht (vp_in_nI (n := k + 1) (by omega) (by omega)) dX2_ends_25 ?_
      refine g_top (y := P (k + 1)) (by rw [nI_clamp (by omega)]; exact hrow (k + 1) (by omega) (by omega)) ?_
      refine lv_iload_n hx hb dX2_ends_26 rfl (lv_at hl 2 rfl) ?_
      refine lv_icmp_eq (tgt := 34) hx hb dX2_ends_27 (by decide) (fun c3 => ?_) (fun c3 => ?_)
      · skip
        refine lv_iconst (v := 0) hx hb dX2_ends_34 (by decide) ?_
        exact g_retz hx hb hr hlocks hK 0 rfl () hP hD hS (Nat.zero_le _) (Nat.zero_le _) (Or.inr ⟨rfl, fun q => q.2 c3⟩) dX2_ends_35
      · skip
        refine lv_iconst (v := 1) hx hb dX2_ends_30 (by decide) ?_
        refine lv_goto (tgt := 35) hx hb dX2_ends_31 (by decide) ?_
        exact g_retz hx hb hr hlocks hK 1 rfl () hP hD hS (Nat.zero_le _) (Nat.zero_le _) (Or.inl ⟨rfl, c1, c3⟩) dX2_ends_35
set_option maxHeartbeats 4000000 in
set_option maxRecDepth 100000 in
/-- howMany: its loop -/
theorem many_loop {p : Program} {l : Launch} {e : Env} {s : State} {m : MethodId} {args : Array Value} {below : List Frame} {meth : Method} {c : Code} {Q : State → Prop} {D : va_G} {tys : List (ClassId × FieldType)} {cI : ClassId} {t : Nat} (ht : tys[t]? = some (cI, .int)) {w w0 : va_W} {i j : Nat} (hi : i < w.length) (hj : j < w.length) (hij : i ≠ j) {m0 ar : Nat} {rv tv : Int32} {row0 : Nat → Int32} {P : Nat → Int32} {n : Nat} (hn : n ≤ 5000) (hrow : gRow P n row0) {p0 : Int32} (hx : p.tables.exec = Jvm.exec) (hb : c.code = cX2_howMany) (hml : c.maxLocals = 4) (hts : ∀ w ∈ wsX2_howMany, w.before args s = true) (hown : s.vm.findClass RX2 = some m.cls) (hK : va_K D vwCl tys s) (hA : ∀ q : Nat, s.heap.size ≤ q → va_A w0 s.heap.size q) :
    ∀ (f k : Nat) (acc : Int32) (H : Heap) (locs : List Loc) (ls : Array Slot), n + 1 - k < f → 1 ≤ k → k ≤ n + 1 → acc = nI (gct P p0 (k - 1)) → va_P D vwCl (wM w i j m0 ar cI (nI n) rv tv row0) H → va_D (va_A w0 s.heap.size) (wM w i j m0 ar cI (nI n) rv tv row0) → va_S (va_A w0 s.heap.size) s.heap H locs → lv_has ls 4 [(0, .ref m0), (1, .int p0), (2, .int acc), (3, .int (nI k))] →
    (∀  (H : Heap) (locs : List Loc) (ls : Array Slot), va_P D vwCl (wM w i j m0 ar cI (nI n) rv tv row0) H → va_D (va_A w0 s.heap.size) (wM w i j m0 ar cI (nI n) rv tv row0) → va_S (va_A w0 s.heap.size) s.heap H locs → lv_has ls 4 [(2, .int (nI (gct P p0 n)))] → W p l e ({ frames := 0, cells := 0, slots := 0, locals := 0 } : Room) s m args below meth c H locs 0 0 Q (F0 m 36 ls [])) →
    W p l e ({ frames := 0, cells := 0, slots := 0, locals := 0 } : Room) s m args below meth c H locs 0 0 Q (F0 m 4 ls []) := by
  have f_place := hts (.fieldLink RX2 7 "NumberGobletsModel" "place" "[I") (by decide +kernel)
  have f_size := hts (.fieldLink RX2 13 "NumberGobletsModel" "size" "I") (by decide +kernel)
  intro f
  induction f with
  | zero => intro k acc H locs ls hf; exact absurd hf (Nat.not_lt_zero _)
  | succ f ih =>
    intro k acc H locs ls hf hk1 hk2 hacc hP hD hS hl hend
    refine lv_iload_n hx hb dX2_howMany_4 rfl (lv_at hl 3 rfl) ?_
    refine lv_aload_n hx hb dX2_howMany_5 rfl (lv_at hl 0 rfl) ?_
    refine va_get (D := D) (ci := 2) (v := .int (nI n)) (C := RX2) (T := TX2) (N := 4) hx hb hts i2_howMany hown hK hP i (gM_i hi hij) rfl 1 (by decide) f_size (fun _ h9 => h9) rfl dX2_howMany_6 ?_
    refine lv_icmp_gt (tgt := 36) hx hb dX2_howMany_9 (by decide) (fun c1 => ?_) (fun c1 => ?_)
    · have hkn : n < k := (nI_ltI (by omega) (by omega)).mp c1
      have hk3 : k - 1 = n := by omega
      rw [hk3] at hacc
      subst hacc
      exact hend H locs ls hP hD hS (lv_sub hl [2] rfl)
    · have hkn : k ≤ n := Nat.le_of_not_lt (fun z => c1 (nI_lt z (by omega)))
      refine lv_iload_n hx hb dX2_howMany_12 rfl (lv_at hl 2 rfl) ?_
      refine lv_aload_n hx hb dX2_howMany_13 rfl (lv_at hl 0 rfl) ?_
      refine va_get (D := D) (ci := 2) (v := .ref ar) (C := RX2) (T := TX2) (N := 4) hx hb hts i2_howMany hown hK hP i (gM_i hi hij) rfl 0 (by decide) f_place (fun _ h9 => h9) rfl dX2_howMany_14 ?_
      refine lv_iload_n hx hb dX2_howMany_17 rfl (lv_at hl 3 rfl) ?_
      refine va_iald hx hb hK hP j t (gM_j hj) ht (vp_in_nI (n := k) (by omega) (by omega)) dX2_howMany_18 ?_
      refine g_top (y := P k) (by rw [nI_clamp (by omega)]; exact hrow k hk1 hkn) ?_
      refine lv_iload_n hx hb dX2_howMany_19 rfl (lv_at hl 1 rfl) ?_
      refine lv_icmp_ne (tgt := 27) hx hb dX2_howMany_20 (by decide) (fun c2 => ?_) (fun c2 => ?_)
      · have h9 : gct P p0 k = gct P p0 (k - 1) := gct_past (by omega) (fun q h1 h2 => by rw [show q = k by omega]; exact c2)
        refine lv_iconst (v := 0) hx hb dX2_howMany_27 (by decide) ?_
        refine lv_iadd hx hb dX2_howMany_28 ?_
        refine g_top (y := nI (gct P p0 k)) (by rw [hacc, h9, show (0 : Int32) = nI 0 from rfl, nI_add, Nat.add_zero]) ?_
        refine lv_istore_n (lv' := [(2, .int (nI (gct P p0 k))), (0, .ref m0), (1, .int p0), (3, .int (nI k))]) hx hb dX2_howMany_29 rfl hl (by decide) rfl (fun ls hl => ?_)
        refine lv_iinc (v := nI (k + 1)) (lv' := [(3, .int (nI (k + 1))), (2, .int (nI (gct P p0 k))), (0, .ref m0), (1, .int p0)]) hx hb dX2_howMany_30 hl (k := 3) rfl (by rw [← nI_1]; rfl) (by decide) rfl (fun ls hl => ?_)
        refine lv_goto (tgt := 4) hx hb dX2_howMany_33 (by decide) ?_
        exact ih (k + 1) _ H locs ls (by omega) (by omega) (by omega) rfl hP hD hS (lv_sub hl [2, 3, 1, 0] rfl) hend
      · have h9 : gct P p0 k = gct P p0 (k - 1) + 1 := by have := gct_to (P := P) (p := p0) (k := k) (m := k) hk1 (Nat.le_refl _) (fun q h1 h2 => by rw [show q = k by omega]; exact c2); omega
        refine lv_iconst (v := 1) hx hb dX2_howMany_23 (by decide) ?_
        refine lv_goto (tgt := 28) hx hb dX2_howMany_24 (by decide) ?_
        refine lv_iadd hx hb dX2_howMany_28 ?_
        refine g_top (y := nI (gct P p0 k)) (by rw [hacc, h9, nI_1]) ?_
        refine lv_istore_n (lv' := [(2, .int (nI (gct P p0 k))), (0, .ref m0), (1, .int p0), (3, .int (nI k))]) hx hb dX2_howMany_29 rfl hl (by decide) rfl (fun ls hl => ?_)
        refine lv_iinc (v := nI (k + 1)) (lv' := [(3, .int (nI (k + 1))), (2, .int (nI (gct P p0 k))), (0, .ref m0), (1, .int p0)]) hx hb dX2_howMany_30 hl (k := 3) rfl (by rw [← nI_1]; rfl) (by decide) rfl (fun ls hl => ?_)
        refine lv_goto (tgt := 4) hx hb dX2_howMany_33 (by decide) ?_
        exact ih (k + 1) _ H locs ls (by omega) (by omega) (by omega) rfl hP hD hS (lv_sub hl [2, 3, 1, 0] rfl) hend
set_option maxHeartbeats 4000000 in
set_option maxRecDepth 100000 in
/-- howMany(where) -/
theorem m_howMany (l : Launch) (D : va_G) (tys : List (ClassId × FieldType)) {cI : ClassId} {t : Nat} (ht : tys[t]? = some (cI, .int)) {w : va_W} {i j : Nat} (hi : i < w.length) (hj : j < w.length) (hij : i ≠ j) {m0 ar : Nat} {rv tv : Int32} {row : Nat → Int32} {P : Nat → Int32} {n : Nat} (hn : n ≤ 5000) (hrow : gRow P n row) (sz : Nat) (p0 : Int32) : Met l yX2_howMany wsX2_howMany ({ frames := 0, cells := 0, slots := 0, locals := 0 } : Room) (gP D tys [.ref m0, .int p0] (wM w i j m0 ar cI (nI n) rv tv row) sz (fun _ => True)) (va_Qi (fun (r : Int32) (_ : Unit) => r = nI (gct P p0 n)) (fun _ t => gWd D tys (va_A (wM w i j m0 ar cI (nI n) rv tv row) sz) (wM w i j m0 ar cI (nI n) rv tv row) t) (va_A (wM w i j m0 ar cI (nI n) rv tv row) sz)) 0 0 (va_A (wM w i j m0 ar cI (nI n) rv tv row) sz) := by
  refine g_ofW (cc := cX2_howMany) (maxL := 4) (ret := some .int) (by decide) rfl (Nat.le_of_ble_eq_true rfl) ?_
  intro p e s m below meth c hx hb hr hml hts hown hlocks hin hsz hP hK hD hA hS hG ls hl
  subst hsz
  have hown : s.vm.findClass RX2 = some m.cls := hown
  have hl : lv_has ls 4 [(0, .ref m0), (1, .int p0)] := hl
  refine lv_iconst (v := 0) hx hb dX2_howMany_0 (by decide) ?_
  refine lv_istore_n (lv' := [(2, .int 0), (0, .ref m0), (1, .int p0)]) hx hb dX2_howMany_1 rfl hl (by decide) rfl (fun ls hl => ?_)
  refine lv_iconst (v := 1) hx hb dX2_howMany_2 (by decide) ?_
  refine lv_istore_n (lv' := [(3, .int 1), (2, .int 0), (0, .ref m0), (1, .int p0)]) hx hb dX2_howMany_3 rfl hl (by decide) rfl (fun ls hl => ?_)
  refine many_loop ht hi hj hij hn hrow hx hb hml hts hown hK hA (n + 2) 1 0 _ _ ls (by omega) (Nat.le_refl _) (by omega) rfl hP hD hS (lv_sub hl [2, 3, 1, 0] rfl) (fun H locs ls hP hD hS hl => ?_)
  refine lv_iload_n hx hb dX2_howMany_36 rfl (lv_at hl 0 rfl) ?_
  exact g_reti hx hb hr hlocks hK (nI (gct P p0 n)) () hP hD hS (Nat.zero_le _) (Nat.zero_le _) (rfl) dX2_howMany_37
set_option maxHeartbeats 4000000 in
set_option maxRecDepth 100000 in
/-- rangesIn: its loop -/
theorem rin_loop {p : Program} {l : Launch} {e : Env} {s : State} {m : MethodId} {args : Array Value} {below : List Frame} {meth : Method} {c : Code} {Q : State → Prop} {D : va_G} {tys : List (ClassId × FieldType)} {cI : ClassId} {t : Nat} (ht : tys[t]? = some (cI, .int)) {w w0 : va_W} {i j : Nat} (hi : i < w.length) (hj : j < w.length) (hij : i ≠ j) {m0 ar : Nat} {rv tv : Int32} {row0 : Nat → Int32} {P : Nat → Int32} {n : Nat} (hn : n ≤ 5000) (hrow : gRow P n row0) {p0 : Int32} (hp0 : ¬ P 0 = p0) (hx : p.tables.exec = Jvm.exec) (hb : c.code = cX2_rangesIn) (hml : c.maxLocals = 4) (hts : ∀ w ∈ wsX2_rangesIn, w.before args s = true) (hown : s.vm.findClass RX2 = some m.cls) (hK : va_K D vwCl tys s) (hA : ∀ q : Nat, s.heap.size ≤ q → va_A w0 s.heap.size q) :
    ∀ (f k : Nat) (acc : Int32) (H : Heap) (locs : List Loc) (ls : Array Slot), n + 1 - k < f → 1 ≤ k → k ≤ n + 1 → acc = nI (gbg P p0 (k - 1)) → va_P D vwCl (wM w i j m0 ar cI (nI n) rv tv row0) H → va_D (va_A w0 s.heap.size) (wM w i j m0 ar cI (nI n) rv tv row0) → va_S (va_A w0 s.heap.size) s.heap H locs → lv_has ls 4 [(0, .ref m0), (1, .int p0), (2, .int acc), (3, .int (nI k))] →
    (∀  (H : Heap) (locs : List Loc) (ls : Array Slot), va_P D vwCl (wM w i j m0 ar cI (nI n) rv tv row0) H → va_D (va_A w0 s.heap.size) (wM w i j m0 ar cI (nI n) rv tv row0) → va_S (va_A w0 s.heap.size) s.heap H locs → lv_has ls 4 [(2, .int (nI (gbg P p0 n)))] → W p l e ({ frames := 1, cells := 0, slots := 0, locals := 22 } : Room) s m args below meth c H locs 0 0 Q (F0 m 35 ls [])) →
    W p l e ({ frames := 1, cells := 0, slots := 0, locals := 22 } : Room) s m args below meth c H locs 0 0 Q (F0 m 4 ls []) := by
  have f_size := hts (.fieldLink RX2 13 "NumberGobletsModel" "size" "I") (by decide +kernel)
  intro f
  induction f with
  | zero => intro k acc H locs ls hf; exact absurd hf (Nat.not_lt_zero _)
  | succ f ih =>
    intro k acc H locs ls hf hk1 hk2 hacc hP hD hS hl hend
    refine lv_iload_n hx hb dX2_rangesIn_4 rfl (lv_at hl 3 rfl) ?_
    refine lv_aload_n hx hb dX2_rangesIn_5 rfl (lv_at hl 0 rfl) ?_
    refine va_get (D := D) (ci := 2) (v := .int (nI n)) (C := RX2) (T := TX2) (N := 4) hx hb hts i2_rangesIn hown hK hP i (gM_i hi hij) rfl 1 (by decide) f_size (fun _ h9 => h9) rfl dX2_rangesIn_6 ?_
    refine lv_icmp_gt (tgt := 35) hx hb dX2_rangesIn_9 (by decide) (fun c1 => ?_) (fun c1 => ?_)
    · have hkn : n < k := (nI_ltI (by omega) (by omega)).mp c1
      have hk3 : k - 1 = n := by omega
      rw [hk3] at hacc
      subst hacc
      exact hend H locs ls hP hD hS (lv_sub hl [2] rfl)
    · have hkn : k ≤ n := Nat.le_of_not_lt (fun z => c1 (nI_lt z (by omega)))
      refine lv_iload_n hx hb dX2_rangesIn_12 rfl (lv_at hl 2 rfl) ?_
      refine lv_aload_n hx hb dX2_rangesIn_13 rfl (lv_at hl 0 rfl) ?_
      refine lv_iload_n hx hb dX2_rangesIn_14 rfl (lv_at hl 3 rfl) ?_
      refine lv_iload_n hx hb dX2_rangesIn_15 rfl (lv_at hl 1 rfl) ?_
      refine g_calli (va_runV (As := [.int (nI k), .int p0]) (rest := [.int acc]) ⟨hx, hb, hml, hown, hts⟩ (m_begins l D tys ht hi hj hij hn hrow H.size hk1 hkn p0 hp0) (cwV 2 hts gX2_rangesIn_X2_begins rfl rfl rfl (by decide +kernel) ⟨Nat.le_of_ble_eq_true rfl, Nat.le_of_ble_eq_true rfl⟩) (gP_V (va_recv hK hP (ci := 2) rfl (gM_i hi hij)) hP hK hD gBl_T (fun _ _ _ => trivial)) rfl rfl hl.1 rfl (lv_room (Nat.le_of_ble_eq_true rfl)) dX2_rangesIn_16 ⟨(Nat.zero_le _), (Nat.zero_le _)⟩) hD hS hA (fun r9 u9 H locs hr9 hP hD hS => ?_)
      rcases hr9 with ⟨rfl, h9⟩ | ⟨rfl, h9⟩
      · skip
        have h8 : gbg P p0 k = gbg P p0 (k - 1) + 1 := by have := gbg_yes (P := P) (p := p0) (n := k - 1) (by rw [show k - 1 + 1 = k by omega]; exact h9); rwa [show k - 1 + 1 = k by omega] at this
        refine lv_if_eq (tgt := 26) hx hb dX2_rangesIn_19 (by decide) (fun c2 => absurd c2 (by decide)) (fun _ => ?_)
        refine lv_iconst (v := 1) hx hb dX2_rangesIn_22 (by decide) ?_
        refine lv_goto (tgt := 27) hx hb dX2_rangesIn_23 (by decide) ?_
        refine lv_iadd hx hb dX2_rangesIn_27 ?_
        refine g_top (y := nI (gbg P p0 k)) (by rw [hacc, h8, nI_1]) ?_
        refine lv_istore_n (lv' := [(2, .int (nI (gbg P p0 k))), (0, .ref m0), (1, .int p0), (3, .int (nI k))]) hx hb dX2_rangesIn_28 rfl hl (by decide) rfl (fun ls hl => ?_)
        refine lv_iinc (v := nI (k + 1)) (lv' := [(3, .int (nI (k + 1))), (2, .int (nI (gbg P p0 k))), (0, .ref m0), (1, .int p0)]) hx hb dX2_rangesIn_29 hl (k := 3) rfl (by rw [← nI_1]; rfl) (by decide) rfl (fun ls hl => ?_)
        refine lv_goto (tgt := 4) hx hb dX2_rangesIn_32 (by decide) ?_
        exact ih (k + 1) _ H locs ls (by omega) (by omega) (by omega) rfl hP hD hS (lv_sub hl [2, 3, 1, 0] rfl) hend
      · skip
        have h8 : gbg P p0 k = gbg P p0 (k - 1) := by have := gbg_no (P := P) (p := p0) (n := k - 1) (by rw [show k - 1 + 1 = k by omega]; exact h9); rwa [show k - 1 + 1 = k by omega] at this
        refine lv_if_eq (tgt := 26) hx hb dX2_rangesIn_19 (by decide) (fun _ => ?_) (fun c2 => absurd rfl c2)
        refine lv_iconst (v := 0) hx hb dX2_rangesIn_26 (by decide) ?_
        refine lv_iadd hx hb dX2_rangesIn_27 ?_
        refine g_top (y := nI (gbg P p0 k)) (by rw [hacc, h8, show (0 : Int32) = nI 0 from rfl, nI_add, Nat.add_zero]) ?_
        refine lv_istore_n (lv' := [(2, .int (nI (gbg P p0 k))), (0, .ref m0), (1, .int p0), (3, .int (nI k))]) hx hb dX2_rangesIn_28 rfl hl (by decide) rfl (fun ls hl => ?_)
        refine lv_iinc (v := nI (k + 1)) (lv' := [(3, .int (nI (k + 1))), (2, .int (nI (gbg P p0 k))), (0, .ref m0), (1, .int p0)]) hx hb dX2_rangesIn_29 hl (k := 3) rfl (by rw [← nI_1]; rfl) (by decide) rfl (fun ls hl => ?_)
        refine lv_goto (tgt := 4) hx hb dX2_rangesIn_32 (by decide) ?_
        exact ih (k + 1) _ H locs ls (by omega) (by omega) (by omega) rfl hP hD hS (lv_sub hl [2, 3, 1, 0] rfl) hend
set_option maxHeartbeats 4000000 in
set_option maxRecDepth 100000 in
/-- rangesIn(where) -/
theorem m_rangesIn (l : Launch) (D : va_G) (tys : List (ClassId × FieldType)) {cI : ClassId} {t : Nat} (ht : tys[t]? = some (cI, .int)) {w : va_W} {i j : Nat} (hi : i < w.length) (hj : j < w.length) (hij : i ≠ j) {m0 ar : Nat} {rv tv : Int32} {row : Nat → Int32} {P : Nat → Int32} {n : Nat} (hn : n ≤ 5000) (hrow : gRow P n row) (sz : Nat) (p0 : Int32) (hp0 : ¬ P 0 = p0) : Met l yX2_rangesIn wsX2_rangesIn ({ frames := 1, cells := 0, slots := 0, locals := 22 } : Room) (gP D tys [.ref m0, .int p0] (wM w i j m0 ar cI (nI n) rv tv row) sz (fun _ => True)) (va_Qi (fun (r : Int32) (_ : Unit) => r = nI (gbg P p0 n)) (fun _ t => gWd D tys (va_A (wM w i j m0 ar cI (nI n) rv tv row) sz) (wM w i j m0 ar cI (nI n) rv tv row) t) (va_A (wM w i j m0 ar cI (nI n) rv tv row) sz)) 0 0 (va_A (wM w i j m0 ar cI (nI n) rv tv row) sz) := by
  refine g_ofW (cc := cX2_rangesIn) (maxL := 4) (ret := some .int) (by decide) rfl (Nat.le_of_ble_eq_true rfl) ?_
  intro p e s m below meth c hx hb hr hml hts hown hlocks hin hsz hP hK hD hA hS hG ls hl
  subst hsz
  have hown : s.vm.findClass RX2 = some m.cls := hown
  have hl : lv_has ls 4 [(0, .ref m0), (1, .int p0)] := hl
  refine lv_iconst (v := 0) hx hb dX2_rangesIn_0 (by decide) ?_
  refine lv_istore_n (lv' := [(2, .int 0), (0, .ref m0), (1, .int p0)]) hx hb dX2_rangesIn_1 rfl hl (by decide) rfl (fun ls hl => ?_)
  refine lv_iconst (v := 1) hx hb dX2_rangesIn_2 (by decide) ?_
  refine lv_istore_n (lv' := [(3, .int 1), (2, .int 0), (0, .ref m0), (1, .int p0)]) hx hb dX2_rangesIn_3 rfl hl (by decide) rfl (fun ls hl => ?_)
  refine rin_loop ht hi hj hij hn hrow hp0 hx hb hml hts hown hK hA (n + 2) 1 0 _ _ ls (by omega) (Nat.le_refl _) (by omega) rfl hP hD hS (lv_sub hl [2, 3, 1, 0] rfl) (fun H locs ls hP hD hS hl => ?_)
  refine lv_iload_n hx hb dX2_rangesIn_35 rfl (lv_at hl 0 rfl) ?_
  exact g_reti hx hb hr hlocks hK (nI (gbg P p0 n)) () hP hD hS (Nat.zero_le _) (Nat.zero_le _) (rfl) dX2_rangesIn_36
set_option maxHeartbeats 4000000 in
set_option maxRecDepth 100000 in
/-- lowest: its loop -/
theorem low_loop {p : Program} {l : Launch} {e : Env} {s : State} {m : MethodId} {args : Array Value} {below : List Frame} {meth : Method} {c : Code} {Q : State → Prop} {D : va_G} {tys : List (ClassId × FieldType)} {cI : ClassId} {t : Nat} (ht : tys[t]? = some (cI, .int)) {w w0 : va_W} {i j : Nat} (hi : i < w.length) (hj : j < w.length) (hij : i ≠ j) {m0 ar : Nat} {rv tv : Int32} {row0 : Nat → Int32} {P : Nat → Int32} {n : Nat} (hn : n ≤ 5000) (hrow : gRow P n row0) {p0 : Int32} (hx : p.tables.exec = Jvm.exec) (hb : c.code = cX2_lowest) (hml : c.maxLocals = 3) (hts : ∀ w ∈ wsX2_lowest, w.before args s = true) (hown : s.vm.findClass RX2 = some m.cls) (hK : va_K D vwCl tys s) (hA : ∀ q : Nat, s.heap.size ≤ q → va_A w0 s.heap.size q) :
    ∀ (f k : Nat)  (H : Heap) (locs : List Loc) (ls : Array Slot), n + 1 - k < f → 1 ≤ k → k ≤ n + 1 → (∀ q, 1 ≤ q → q < k → ¬ P q = p0) → va_P D vwCl (wM w i j m0 ar cI (nI n) rv tv row0) H → va_D (va_A w0 s.heap.size) (wM w i j m0 ar cI (nI n) rv tv row0) → va_S (va_A w0 s.heap.size) s.heap H locs → lv_has ls 3 [(0, .ref m0), (1, .int p0), (2, .int (nI k))] →
    (∀ (v : Nat) (H : Heap) (locs : List Loc) (ls : Array Slot), 1 ≤ v → (∀ q, 1 ≤ q → q < v → ¬ P q = p0) → (v = n + 1 ∨ (v ≤ n ∧ P v = p0)) → va_P D vwCl (wM w i j m0 ar cI (nI n) rv tv row0) H → va_D (va_A w0 s.heap.size) (wM w i j m0 ar cI (nI n) rv tv row0) → va_S (va_A w0 s.heap.size) s.heap H locs → lv_has ls 3 [(0, .ref m0), (2, .int (nI v))] → W p l e ({ frames := 0, cells := 0, slots := 0, locals := 0 } : Room) s m args below meth c H locs 0 0 Q (F0 m 26 ls [])) →
    W p l e ({ frames := 0, cells := 0, slots := 0, locals := 0 } : Room) s m args below meth c H locs 0 0 Q (F0 m 2 ls []) := by
  have f_place := hts (.fieldLink RX2 7 "NumberGobletsModel" "place" "[I") (by decide +kernel)
  have f_size := hts (.fieldLink RX2 13 "NumberGobletsModel" "size" "I") (by decide +kernel)
  intro f
  induction f with
  | zero => intro k  H locs ls hf; exact absurd hf (Nat.not_lt_zero _)
  | succ f ih =>
    intro k  H locs ls hf hk1 hk2 hno hP hD hS hl hend
    refine lv_iload_n hx hb dX2_lowest_2 rfl (lv_at hl 2 rfl) ?_
    refine lv_aload_n hx hb dX2_lowest_3 rfl (lv_at hl 0 rfl) ?_
    refine va_get (D := D) (ci := 2) (v := .int (nI n)) (C := RX2) (T := TX2) (N := 4) hx hb hts i2_lowest hown hK hP i (gM_i hi hij) rfl 1 (by decide) f_size (fun _ h9 => h9) rfl dX2_lowest_4 ?_
    refine lv_icmp_gt (tgt := 26) hx hb dX2_lowest_7 (by decide) (fun c1 => ?_) (fun c1 => ?_)
    · have hkn : n < k := (nI_ltI (by omega) (by omega)).mp c1
      exact hend k H locs ls hk1 hno (Or.inl (by omega)) hP hD hS (lv_sub hl [0, 2] rfl)
    · have hkn : k ≤ n := Nat.le_of_not_lt (fun z => c1 (nI_lt z (by omega)))
      refine lv_aload_n hx hb dX2_lowest_10 rfl (lv_at hl 0 rfl) ?_
      refine va_get (D := D) (ci := 2) (v := .ref ar) (C := RX2) (T := TX2) (N := 4) hx hb hts i2_lowest hown hK hP i (gM_i hi hij) rfl 0 (by decide) f_place (fun _ h9 => h9) rfl dX2_lowest_11 ?_
      refine lv_iload_n hx hb dX2_lowest_14 rfl (lv_at hl 2 rfl) ?_
      refine va_iald hx hb hK hP j t (gM_j hj) ht (vp_in_nI (n := k) (by omega) (by omega)) dX2_lowest_15 ?_
      refine g_top (y := P k) (by rw [nI_clamp (by omega)]; exact hrow k hk1 hkn) ?_
      refine lv_iload_n hx hb dX2_lowest_16 rfl (lv_at hl 1 rfl) ?_
      refine lv_icmp_eq (tgt := 26) hx hb dX2_lowest_17 (by decide) (fun c2 => ?_) (fun c2 => ?_)
      · exact hend k H locs ls hk1 hno (Or.inr ⟨hkn, c2⟩) hP hD hS (lv_sub hl [0, 2] rfl)
      · skip
        refine lv_iinc (v := nI (k + 1)) (lv' := [(2, .int (nI (k + 1))), (0, .ref m0), (1, .int p0)]) hx hb dX2_lowest_20 hl (k := 2) rfl (by rw [← nI_1]; rfl) (by decide) rfl (fun ls hl => ?_)
        refine lv_goto (tgt := 2) hx hb dX2_lowest_23 (by decide) ?_
        exact ih (k + 1) H locs ls (by omega) (by omega) (by omega) (fun q h1 h2 => by by_cases z : q < k; exact hno q h1 z; rw [show q = k by omega]; exact c2) hP hD hS (lv_sub hl [1, 2, 0] rfl) hend
set_option maxHeartbeats 4000000 in
set_option maxRecDepth 100000 in
/-- lowest(where) -/
theorem m_lowest (l : Launch) (D : va_G) (tys : List (ClassId × FieldType)) {cI : ClassId} {t : Nat} (ht : tys[t]? = some (cI, .int)) {w : va_W} {i j : Nat} (hi : i < w.length) (hj : j < w.length) (hij : i ≠ j) {m0 ar : Nat} {rv tv : Int32} {row : Nat → Int32} {P : Nat → Int32} {n : Nat} (hn : n ≤ 5000) (hrow : gRow P n row) (sz : Nat) (p0 : Int32) : Met l yX2_lowest wsX2_lowest ({ frames := 0, cells := 0, slots := 0, locals := 0 } : Room) (gP D tys [.ref m0, .int p0] (wM w i j m0 ar cI (nI n) rv tv row) sz (fun _ => True)) (va_Qi (fun (r : Int32) (_ : Unit) => ∃ v, r = nI v ∧ glow (fun q => P q = p0) n v) (fun _ t => gWd D tys (va_A (wM w i j m0 ar cI (nI n) rv tv row) sz) (wM w i j m0 ar cI (nI n) rv tv row) t) (va_A (wM w i j m0 ar cI (nI n) rv tv row) sz)) 0 0 (va_A (wM w i j m0 ar cI (nI n) rv tv row) sz) := by
  refine g_ofW (cc := cX2_lowest) (maxL := 3) (ret := some .int) (by decide) rfl (Nat.le_of_ble_eq_true rfl) ?_
  intro p e s m below meth c hx hb hr hml hts hown hlocks hin hsz hP hK hD hA hS hG ls hl
  subst hsz
  have hown : s.vm.findClass RX2 = some m.cls := hown
  have hl : lv_has ls 3 [(0, .ref m0), (1, .int p0)] := hl
  have f_size := hts (.fieldLink RX2 13 "NumberGobletsModel" "size" "I") (by decide +kernel)
  refine lv_iconst (v := 1) hx hb dX2_lowest_0 (by decide) ?_
  refine lv_istore_n (lv' := [(2, .int 1), (0, .ref m0), (1, .int p0)]) hx hb dX2_lowest_1 rfl hl (by decide) rfl (fun ls hl => ?_)
  refine low_loop ht hi hj hij hn hrow hx hb hml hts hown hK hA (n + 2) 1 _ _ ls (by omega) (Nat.le_refl _) (by omega) (fun q h1 h2 => absurd h2 (by omega)) hP hD hS (lv_sub hl [1, 2, 0] rfl) (fun v H locs ls hv1 hno hv hP hD hS hl => ?_)
  refine lv_iload_n hx hb dX2_lowest_26 rfl (lv_at hl 1 rfl) ?_
  refine lv_aload_n hx hb dX2_lowest_27 rfl (lv_at hl 0 rfl) ?_
  refine va_get (D := D) (ci := 2) (v := .int (nI n)) (C := RX2) (T := TX2) (N := 4) hx hb hts i2_lowest hown hK hP i (gM_i hi hij) rfl 1 (by decide) f_size (fun _ h9 => h9) rfl dX2_lowest_28 ?_
  refine lv_icmp_le (tgt := 38) hx hb dX2_lowest_31 (by decide) (fun c1 => ?_) (fun c1 => ?_)
  · have hvn : v ≤ n := (nI_leI (by omega) (by omega)).mp c1
    refine lv_iload_n hx hb dX2_lowest_38 rfl (lv_at hl 1 rfl) ?_
    exact g_reti hx hb hr hlocks hK (nI v) () hP hD hS (Nat.zero_le _) (Nat.zero_le _) (⟨v, rfl, Or.inr ⟨hv1, hvn, by rcases hv with z | z; omega; exact z.2, hno⟩⟩) dX2_lowest_39
  · have hvn : v = n + 1 := by rcases hv with z | z; exact z; exact absurd (nI_le z.1 (by omega)) c1
    refine lv_iconst (v := 0) hx hb dX2_lowest_34 (by decide) ?_
    refine lv_goto (tgt := 39) hx hb dX2_lowest_35 (by decide) ?_
    exact g_reti hx hb hr hlocks hK (0) () hP hD hS (Nat.zero_le _) (Nat.zero_le _) (⟨0, rfl, Or.inl ⟨rfl, fun q h1 h2 => hno q h1 (by omega)⟩⟩) dX2_lowest_39
set_option maxHeartbeats 4000000 in
set_option maxRecDepth 100000 in
/-- next(goblet) -/
theorem m_next (l : Launch) (D : va_G) (tys : List (ClassId × FieldType)) {cI : ClassId} {t : Nat} (ht : tys[t]? = some (cI, .int)) {w : va_W} {i j : Nat} (hi : i < w.length) (hj : j < w.length) (hij : i ≠ j) {m0 ar : Nat} {rv tv : Int32} {row : Nat → Int32} {P : Nat → Int32} {n : Nat} (hn : n ≤ 5000) (hrow : gRow P n row) (sz : Nat) (p0 : Int32) : Met l yX2_next wsX2_next ({ frames := 1, cells := 0, slots := 0, locals := 22 } : Room) (gP D tys [.ref m0, .int p0] (wM w i j m0 ar cI (nI n) rv tv row) sz (fun _ => True)) (va_Qi (fun (r : Int32) (_ : Unit) => ∃ v w, glow (fun q => P q = p0) n v ∧ glow (fun q => P q = 8) n w ∧ r = nI (if v = 0 then w else v)) (fun _ t => gWd D tys (va_A (wM w i j m0 ar cI (nI n) rv tv row) sz) (wM w i j m0 ar cI (nI n) rv tv row) t) (va_A (wM w i j m0 ar cI (nI n) rv tv row) sz)) 0 0 (va_A (wM w i j m0 ar cI (nI n) rv tv row) sz) := by
  refine g_ofW (cc := cX2_next) (maxL := 3) (ret := some .int) (by decide) rfl (Nat.le_of_ble_eq_true rfl) ?_
  intro p e s m below meth c hx hb hr hml hts hown hlocks hin hsz hP hK hD hA hS hG ls hl
  subst hsz
  have hown : s.vm.findClass RX2 = some m.cls := hown
  have hl : lv_has ls 3 [(0, .ref m0), (1, .int p0)] := hl
  refine lv_aload_n hx hb dX2_next_0 rfl (lv_at hl 0 rfl) ?_
  refine lv_iload_n hx hb dX2_next_1 rfl (lv_at hl 1 rfl) ?_
  refine g_calli (va_runV (As := [.int p0]) (rest := []) ⟨hx, hb, hml, hown, hts⟩ (m_lowest l D tys ht hi hj hij hn hrow s.heap.size p0) (cwV 1 hts gX2_next_X2_lowest rfl rfl rfl (by decide +kernel) ⟨Nat.le_of_ble_eq_true rfl, Nat.le_of_ble_eq_true rfl⟩) (gP_V (va_recv hK hP (ci := 2) rfl (gM_i hi hij)) hP hK hD gBl_T (fun _ _ _ => trivial)) rfl rfl hl.1 rfl (lv_room (Nat.le_of_ble_eq_true rfl)) dX2_next_2 ⟨(Nat.zero_le _), (Nat.zero_le _)⟩) hD hS hA (fun r9 u9 H locs hr9 hP hD hS => ?_)
  obtain ⟨v, rfl, hlv⟩ := hr9
  have hv5 := glow_le hlv
  refine lv_istore_n (lv' := [(2, .int (nI v)), (0, .ref m0), (1, .int p0)]) hx hb dX2_next_5 rfl hl (by decide) rfl (fun ls hl => ?_)
  refine lv_iload_n hx hb dX2_next_6 rfl (lv_at hl 0 rfl) ?_
  refine lv_if_ne (tgt := 19) hx hb dX2_next_7 (by decide) (fun c1 => ?_) (fun c1 => ?_)
  · have hv0 : ¬ v = 0 := fun z => c1 (by rw [z]; rfl)
    obtain ⟨w9, hlw⟩ := glow_ex (fun q => P q = 8) n
    refine lv_iload_n hx hb dX2_next_19 rfl (lv_at hl 0 rfl) ?_
    exact g_reti hx hb hr hlocks hK (nI v) () hP hD hS (Nat.zero_le _) (Nat.zero_le _) (⟨v, w9, hlv, hlw, by rw [if_neg hv0]⟩) dX2_next_20
  · have hv0 : v = 0 := (nI_eq (by omega) (by omega)).mp (show nI v = nI 0 from c1)
    refine lv_aload_n hx hb dX2_next_10 rfl (lv_at hl 1 rfl) ?_
    refine lv_bipush (v := 8) hx hb dX2_next_11 (by decide) ?_
    refine g_calli (va_runV (As := [.int 8]) (rest := []) ⟨hx, hb, hml, hown, hts⟩ (m_lowest l D tys ht hi hj hij hn hrow H.size 8) (cwV 1 hts gX2_next_X2_lowest rfl rfl rfl (by decide +kernel) ⟨Nat.le_of_ble_eq_true rfl, Nat.le_of_ble_eq_true rfl⟩) (gP_V (va_recv hK hP (ci := 2) rfl (gM_i hi hij)) hP hK hD gBl_T (fun _ _ _ => trivial)) rfl rfl hl.1 rfl (lv_room (Nat.le_of_ble_eq_true rfl)) dX2_next_13 ⟨(Nat.zero_le _), (Nat.zero_le _)⟩) hD hS hA (fun r9 u9 H locs hr9 hP hD hS => ?_)
    obtain ⟨w9, rfl, hlw⟩ := hr9
    refine lv_goto (tgt := 20) hx hb dX2_next_16 (by decide) ?_
    exact g_reti hx hb hr hlocks hK (nI w9) () hP hD hS (Nat.zero_le _) (Nat.zero_le _) (⟨v, w9, hlv, hlw, by rw [if_pos hv0]⟩) dX2_next_20
set_option maxHeartbeats 4000000 in
set_option maxRecDepth 100000 in
/-- moves: its loop -/
theorem moves_loop {p : Program} {l : Launch} {e : Env} {s : State} {m : MethodId} {args : Array Value} {below : List Frame} {meth : Method} {c : Code} {Q : State → Prop} {D : va_G} {tys : List (ClassId × FieldType)} {cI : ClassId} {t : Nat} (ht : tys[t]? = some (cI, .int)) {w w0 : va_W} {i j : Nat} (hi : i < w.length) (hj : j < w.length) (hij : i ≠ j) {m0 ar : Nat} {rv tv : Int32} {row0 : Nat → Int32} {P : Nat → Int32} {n : Nat} (hn : n ≤ 5000) {fr to : Int32} (hx : p.tables.exec = Jvm.exec) (hb : c.code = cX2_moves) (hml : c.maxLocals = 5) (hts : ∀ w ∈ wsX2_moves, w.before args s = true) (hown : s.vm.findClass RX2 = some m.cls) (hK : va_K D vwCl tys s) (hA : ∀ q : Nat, s.heap.size ≤ q → va_A w0 s.heap.size q) :
    ∀ (f k : Nat) (acc : Int32) (row : Nat → Int32) (H : Heap) (locs : List Loc) (ls : Array Slot), n + 1 - k < f → 1 ≤ k → k ≤ n + 1 → acc = nI (gct P fr (k - 1)) → (∀ q, 1 ≤ q → q < k → row q = gmv P fr to 0 5000 q) → (∀ q, k ≤ q → q ≤ n → row q = P q) → va_P D vwCl (wM w i j m0 ar cI (nI n) rv tv row) H → va_D (va_A w0 s.heap.size) (wM w i j m0 ar cI (nI n) rv tv row) → va_S (va_A w0 s.heap.size) s.heap H locs → lv_has ls 5 [(0, .ref m0), (1, .int fr), (2, .int to), (3, .int acc), (4, .int (nI k))] →
    (∀ (row : Nat → Int32) (H : Heap) (locs : List Loc) (ls : Array Slot), gRow (gmv P fr to 0 5000) n row → va_P D vwCl (wM w i j m0 ar cI (nI n) rv tv row) H → va_D (va_A w0 s.heap.size) (wM w i j m0 ar cI (nI n) rv tv row) → va_S (va_A w0 s.heap.size) s.heap H locs → lv_has ls 5 [(3, .int (nI (gct P fr n)))] → W p l e ({ frames := 0, cells := 0, slots := 0, locals := 0 } : Room) s m args below meth c H locs 0 0 Q (F0 m 42 ls [])) →
    W p l e ({ frames := 0, cells := 0, slots := 0, locals := 0 } : Room) s m args below meth c H locs 0 0 Q (F0 m 5 ls []) := by
  have f_place := hts (.fieldLink RX2 7 "NumberGobletsModel" "place" "[I") (by decide +kernel)
  have f_size := hts (.fieldLink RX2 13 "NumberGobletsModel" "size" "I") (by decide +kernel)
  intro f
  induction f with
  | zero => intro k acc row H locs ls hf; exact absurd hf (Nat.not_lt_zero _)
  | succ f ih =>
    intro k acc row H locs ls hf hk1 hk2 hacc hlo hhi hP hD hS hl hend
    refine lv_iload hx hb dX2_moves_5 (lv_at hl 4 rfl) ?_
    refine lv_aload_n hx hb dX2_moves_7 rfl (lv_at hl 0 rfl) ?_
    refine va_get (D := D) (ci := 2) (v := .int (nI n)) (C := RX2) (T := TX2) (N := 4) hx hb hts i2_moves hown hK hP i (gM_i hi hij) rfl 1 (by decide) f_size (fun _ h9 => h9) rfl dX2_moves_8 ?_
    refine lv_icmp_gt (tgt := 42) hx hb dX2_moves_11 (by decide) (fun c1 => ?_) (fun c1 => ?_)
    · have hkn : n < k := (nI_ltI (by omega) (by omega)).mp c1
      have hk3 : k - 1 = n := by omega
      rw [hk3] at hacc
      subst hacc
      exact hend row H locs ls (fun q h1 h2 => hlo q h1 (by omega)) hP hD hS (lv_sub hl [3] rfl)
    · have hkn : k ≤ n := Nat.le_of_not_lt (fun z => c1 (nI_lt z (by omega)))
      have hle := gct_le P fr k
      refine lv_aload_n hx hb dX2_moves_14 rfl (lv_at hl 0 rfl) ?_
      refine va_get (D := D) (ci := 2) (v := .ref ar) (C := RX2) (T := TX2) (N := 4) hx hb hts i2_moves hown hK hP i (gM_i hi hij) rfl 0 (by decide) f_place (fun _ h9 => h9) rfl dX2_moves_15 ?_
      refine lv_iload hx hb dX2_moves_18 (lv_at hl 4 rfl) ?_
      refine va_iald hx hb hK hP j t (gM_j hj) ht (vp_in_nI (n := k) (by omega) (by omega)) dX2_moves_20 ?_
      refine g_top (y := P k) (by rw [nI_clamp (by omega)]; exact hhi k (Nat.le_refl _) hkn) ?_
      refine lv_iload_n hx hb dX2_moves_21 rfl (lv_at hl 1 rfl) ?_
      refine lv_icmp_ne (tgt := 36) hx hb dX2_moves_22 (by decide) (fun c2 => ?_) (fun c2 => ?_)
      · have h9 : gct P fr k = gct P fr (k - 1) := gct_past (by omega) (fun q h1 h2 => by rw [show q = k by omega]; exact c2)
        refine lv_iinc (v := nI (k + 1)) (lv' := [(4, .int (nI (k + 1))), (0, .ref m0), (1, .int fr), (2, .int to), (3, .int acc)]) hx hb dX2_moves_36 hl (k := 4) rfl (by rw [← nI_1]; rfl) (by decide) rfl (fun ls hl => ?_)
        refine lv_goto (tgt := 5) hx hb dX2_moves_39 (by decide) ?_
        exact ih (k + 1) acc row H locs ls (by omega) (by omega) (by omega) (by rw [hacc, Nat.add_sub_cancel, h9]) (fun q h1 h2 => by by_cases z : q < k; exact hlo q h1 z; rw [show q = k by omega, gmv_out (Or.inl c2)]; exact hhi k (Nat.le_refl _) hkn) (fun q h1 h2 => hhi q (by omega) h2) hP hD hS (lv_sub hl [1, 2, 3, 4, 0] rfl) hend
      · have h9 : gct P fr k = gct P fr (k - 1) + 1 := by have := gct_to (P := P) (p := fr) (k := k) (m := k) hk1 (Nat.le_refl _) (fun q h1 h2 => by rw [show q = k by omega]; exact c2); omega
        refine lv_aload_n hx hb dX2_moves_25 rfl (lv_at hl 0 rfl) ?_
        refine va_get (D := D) (ci := 2) (v := .ref ar) (C := RX2) (T := TX2) (N := 4) hx hb hts i2_moves hown hK hP i (gM_i hi hij) rfl 0 (by decide) f_place (fun _ h9 => h9) rfl dX2_moves_26 ?_
        refine lv_iload hx hb dX2_moves_29 (lv_at hl 4 rfl) ?_
        refine lv_iload_n hx hb dX2_moves_31 rfl (lv_at hl 2 rfl) ?_
        refine va_iast hx hb hK hP hD hS j t (gM_j hj) ht (vp_in_nI (n := k) (by omega) (by omega)) dX2_moves_32 (fun H locs hP2 hD2 hS => ?_)
        rw [nI_clamp (by omega)] at hP2 hD2
        have hw := gM_sj (w := w) (i := i) (j := j) (m0 := m0) (ar := ar) (cI := cI) (sv := (nI n)) (rv := rv) (tv := tv) (row := row) (upd row k to)
        have hP := g_eqP hw hP2
        have hD := g_eqD hw hD2
        refine lv_iinc (v := nI (gct P fr k)) (lv' := [(3, .int (nI (gct P fr k))), (0, .ref m0), (1, .int fr), (2, .int to), (4, .int (nI k))]) hx hb dX2_moves_33 hl (k := 3) rfl (by rw [hacc, h9, ← nI_1]; rfl) (by decide) rfl (fun ls hl => ?_)
        refine lv_iinc (v := nI (k + 1)) (lv' := [(4, .int (nI (k + 1))), (3, .int (nI (gct P fr k))), (0, .ref m0), (1, .int fr), (2, .int to)]) hx hb dX2_moves_36 hl (k := 4) rfl (by rw [← nI_1]; rfl) (by decide) rfl (fun ls hl => ?_)
        refine lv_goto (tgt := 5) hx hb dX2_moves_39 (by decide) ?_
        refine ih (k + 1) _ (upd row k to) H locs ls (by omega) (by omega) (by omega) (by rw [Nat.add_sub_cancel]) (fun q h1 h2 => ?_) (fun q h1 h2 => ?_) hP hD hS (lv_sub hl [2, 3, 4, 1, 0] rfl) hend
        · by_cases z : q = k
          · subst z; rw [pk_us, gmv_in c2 (by omega) (by omega)]
          · rw [pk_un z]; exact hlo q h1 (by omega)
        · rw [pk_un (by omega)]; exact hhi q (by omega) h2
set_option maxHeartbeats 4000000 in
set_option maxRecDepth 100000 in
/-- moves(from, to) -/
theorem m_moves (l : Launch) (D : va_G) (tys : List (ClassId × FieldType)) {cI : ClassId} {t : Nat} (ht : tys[t]? = some (cI, .int)) {w : va_W} {i j : Nat} (hi : i < w.length) (hj : j < w.length) (hij : i ≠ j) {m0 ar : Nat} {rv tv : Int32} {row : Nat → Int32} {P : Nat → Int32} {n : Nat} (hn : n ≤ 5000) (hrow : gRow P n row) (sz : Nat) (fr to : Int32) : Met l yX2_moves wsX2_moves ({ frames := 0, cells := 0, slots := 0, locals := 0 } : Room) (gP D tys [.ref m0, .int fr, .int to] (wM w i j m0 ar cI (nI n) rv tv row) sz (fun _ => True)) (va_Qi (fun (r : Int32) (u : Nat → Int32) => r = nI (gct P fr n) ∧ gRow (gmv P fr to 0 5000) n u) (fun u t => gWd D tys (va_A (wM w i j m0 ar cI (nI n) rv tv row) sz) (wM w i j m0 ar cI (nI n) rv tv u) t) (va_A (wM w i j m0 ar cI (nI n) rv tv row) sz)) 0 0 (va_A (wM w i j m0 ar cI (nI n) rv tv row) sz) := by
  refine g_ofW (cc := cX2_moves) (maxL := 5) (ret := some .int) (by decide) rfl (Nat.le_of_ble_eq_true rfl) ?_
  intro p e s m below meth c hx hb hr hml hts hown hlocks hin hsz hP hK hD hA hS hG ls hl
  subst hsz
  have hown : s.vm.findClass RX2 = some m.cls := hown
  have hl : lv_has ls 5 [(0, .ref m0), (1, .int fr), (2, .int to)] := hl
  refine lv_iconst (v := 0) hx hb dX2_moves_0 (by decide) ?_
  refine lv_istore_n (lv' := [(3, .int 0), (0, .ref m0), (1, .int fr), (2, .int to)]) hx hb dX2_moves_1 rfl hl (by decide) rfl (fun ls hl => ?_)
  refine lv_iconst (v := 1) hx hb dX2_moves_2 (by decide) ?_
  refine lv_istore (lv' := [(4, .int 1), (3, .int 0), (0, .ref m0), (1, .int fr), (2, .int to)]) hx hb dX2_moves_3 hl (by decide) rfl (fun ls hl => ?_)
  refine moves_loop (row0 := row) ht hi hj hij hn hx hb hml hts hown hK hA (n + 2) 1 0 row _ _ ls (by omega) (Nat.le_refl _) (by omega) rfl (fun q h1 h2 => absurd h2 (by omega)) (fun q h1 h2 => hrow q h1 h2) hP hD hS (lv_sub hl [2, 3, 4, 1, 0] rfl) (fun row2 H locs ls hr2 hP hD hS hl => ?_)
  refine lv_iload_n hx hb dX2_moves_42 rfl (lv_at hl 0 rfl) ?_
  exact g_reti hx hb hr hlocks hK (nI (gct P fr n)) row2 hP hD hS (Nat.zero_le _) (Nat.zero_le _) (⟨rfl, hr2⟩) dX2_moves_43
