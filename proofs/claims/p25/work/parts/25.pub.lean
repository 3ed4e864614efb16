/-! NumberGoblets: the public methods -/
/-- the chain from lo tells P -/
def gCh (P : Nat → Int32) (lo : Nat) (u : List Nat × gS) : Prop := ∃ g, gch u.1 u.2 (some lo) g ∧ gwf P 1 g ∧ gmx P g
/-- nothing is anywhere outside 1 to 5000 -/
def gOut (P : Nat → Int32) : Prop := ∀ j, j = 0 ∨ 5000 < j → P j = -1
theorem gmv_one {P : Nat → Int32} {fr to : Int32} {v : Nat} (hf : ¬ fr = -1) (ho : gOut P) (hv : 1 ≤ v) (hlow : glow (fun j => P j = fr) 5000 v) : gmv P fr to 0 1 = va_up P v to := by
  rcases hlow with ⟨h, -⟩ | ⟨-, h2, h3, h4⟩
  · omega
  · have h5 : gct P fr (v - 1) = 0 := by
      have := gct_past (P := P) (p := fr) (k := 1) (m := v - 1) (by omega) (fun j a b => h4 j a (by omega))
      exact this
    have h6 : gct P fr v = 1 := by
      have := gct_yes (P := P) (p := fr) (n := v - 1) (by rw [show v - 1 + 1 = v by omega]; exact h3)
      rw [show v - 1 + 1 = v by omega] at this
      omega
    funext j
    by_cases hj : j = v
    · subst hj
      rw [va_up_self]
      exact gmv_in h3 (by omega) (by omega)
    · rw [va_up_ne _ _ hj]
      apply gmv_out
      by_cases z : P j = fr
      · have h1 : 1 ≤ j ∧ j ≤ 5000 := by
          by_cases y : j = 0 ∨ 5000 < j
          · exact absurd (z.symm.trans (ho j y)) hf
          · omega
        have h7 : v < j := by
          rcases Nat.lt_or_ge j v with y | y
          · exact absurd z (h4 j h1.1 y)
          · omega
        have h8 := gct_step (P := P) (p := fr) (k := v + 1) (j := j) (by omega) (by omega) z
        rw [Nat.add_sub_cancel] at h8
        exact Or.inr (Or.inr (by omega))
      · exact Or.inl z
theorem gmv_back {P : Nat → Int32} {fr to : Int32} {v : Nat} (hf : ¬ fr = -1) (ho : gOut P) (hv : P v = fr) : gmv P fr to (gct P fr (v - 1)) 1 = va_up P v to := by
  have hv1 : 1 ≤ v := by
    rcases Nat.eq_zero_or_pos v with z | z
    · exact absurd (hv.symm.trans (ho v (Or.inl z))) hf
    · exact z
  have h6 : gct P fr v = gct P fr (v - 1) + 1 := by
    have := gct_yes (P := P) (p := fr) (n := v - 1) (by rw [show v - 1 + 1 = v by omega]; exact hv)
    rwa [show v - 1 + 1 = v by omega] at this
  funext j
  by_cases hj : j = v
  · subst hj
    rw [va_up_self]
    exact gmv_in hv (by omega) (by omega)
  · rw [va_up_ne _ _ hj]
    apply gmv_out
    by_cases z : P j = fr
    · have hj1 : 1 ≤ j := by
        rcases Nat.eq_zero_or_pos j with y | y
        · exact absurd (z.symm.trans (ho j (Or.inl y))) hf
        · exact y
      rcases Nat.lt_or_ge v j with y | y
      · have h8 := gct_step (P := P) (p := fr) (k := v + 1) (j := j) (by omega) (by omega) z
        rw [Nat.add_sub_cancel] at h8
        exact Or.inr (Or.inr (by omega))
      · have h8 := gct_mono' P fr (m := j) (n := v - 1) (by omega)
        exact Or.inr (Or.inl h8)
    · exact Or.inl z
theorem gmv_none {P : Nat → Int32} {fr to : Int32} {a b : Nat} (hf : ¬ fr = -1) (ho : gOut P) (h : ∀ j, 1 ≤ j → j ≤ 5000 → ¬ P j = fr) : gmv P fr to a b = P := by
  funext j
  apply gmv_out
  refine Or.inl (fun z => ?_)
  by_cases y : j = 0 ∨ 5000 < j
  · exact hf (z.symm.trans (ho j y))
  · exact h j (by omega) (by omega) z
theorem g_setX {X Y : va_W} {i : Nat} {q v : Nat × va_E} (h : X[i]? = some q) : (X ++ Y).set i v = X.set i v ++ Y := List.set_append_left _ _ (List.getElem?_eq_some_iff.mp h).1
theorem g_setX2 {X : va_W} {i : Nat} {q v : Nat × va_E} (h : X[i]? = some q) : (X.set i v)[i]? = some v := by rw [List.getElem?_set_self (List.getElem?_eq_some_iff.mp h).1]
theorem g_max0 {a b : Nat} (ha : a ≤ 5000) (hb : b ≤ 200) : (if (0 : Int32) < nI a - nI b then nI a - nI b else 0) = nI (a - b) := by
  rcases Nat.lt_or_ge a b with z | z
  · have h1 := pk_sneg (a := a) (b := b) (by omega) z
    rw [if_neg (by rw [Int32.lt_iff_toInt_lt] at h1 ⊢; have z0 : (0 : Int32).toInt = 0 := rfl; omega), show a - b = 0 by omega]
    rfl
  · rw [pk_sub z]
    by_cases y : a - b = 0
    · rw [y]; rfl
    · rw [if_pos (show (0 : Int32) < nI (a - b) from nI_lt (a := 0) (by omega) (by omega))]
theorem glow_ex (q : Nat → Prop) : ∀ n : Nat, ∃ v, glow q n v
  | 0 => ⟨0, Or.inl ⟨rfl, fun j h1 h2 => absurd h1 (by omega)⟩⟩
  | n + 1 => by
    obtain ⟨v, hv⟩ := glow_ex q n
    rcases hv with ⟨h1, h2⟩ | ⟨h1, h2, h3, h4⟩
    · by_cases z : q (n + 1)
      · exact ⟨n + 1, Or.inr ⟨by omega, Nat.le_refl _, z, fun j a b => h2 j a (by omega)⟩⟩
      · refine ⟨0, Or.inl ⟨rfl, fun j a b => ?_⟩⟩
        by_cases y : j = n + 1
        · rw [y]; exact z
        · exact h2 j a (by omega)
    · exact ⟨v, Or.inr ⟨h1, by omega, h3, h4⟩⟩
theorem g_neg (j : Nat) (hj : j < 8) : ¬ (-1 : Int32) = nI j := by
  intro h
  have : (nI j).toInt = -1 := by rw [← h]; rfl
  rw [nI_toInt (by omega)] at this
  omega
theorem i1_enlarge : ∀ w ∈ u_ws RX1 TX1 3, w ∈ wsX1_enlarge := by decide +kernel
theorem i1_nextRound : ∀ w ∈ u_ws RX1 TX1 3, w ∈ wsX1_nextRound := by decide +kernel
theorem i1_size : ∀ w ∈ u_ws RX1 TX1 3, w ∈ wsX1_size := by decide +kernel
theorem i1_round : ∀ w ∈ u_ws RX1 TX1 3, w ∈ wsX1_round := by decide +kernel
theorem i0_rangeFrom : ∀ w ∈ u_ws RX0 TX0 4, w ∈ wsX1_rangeFrom := by decide +kernel
theorem i0_rangeTo : ∀ w ∈ u_ws RX0 TX0 4, w ∈ wsX1_rangeTo := by decide +kernel
set_option maxHeartbeats 4000000 in
set_option maxRecDepth 100000 in
/-- size() -/
theorem c_size (l : Launch) (D : va_G) (tys : List (ClassId × FieldType)) (X : va_W) (L : List Nat) (S : gS) (sz : Nat) {P : Nat → Int32} {i h0 lo : Nat} {sv rv : Int32} (hX : X[i]? = some (gO h0 lo sv rv)) (hC : gCh P lo (L, S))  : Met l yX1_size wsX1_size ({ frames := 0, cells := 0, slots := 0, locals := 0 } : Room) (gP D tys [.ref h0] (X ++ va_pl L (gE S)) sz gN) (va_Qi (fun (r : Int32) (_ : Unit) => r = sv) (fun _ t => gWd D tys (va_A (X ++ va_pl L (gE S)) sz) (X ++ va_pl L (gE S)) t) (va_A (X ++ va_pl L (gE S)) sz)) 0 0 (va_A (X ++ va_pl L (gE S)) sz) := by
  refine g_ofW (cc := cX1_size) (maxL := 1) (ret := some .int) (by decide) rfl (Nat.le_of_ble_eq_true rfl) ?_
  intro p e s m below meth c hx hb hr hml hts hown hlocks hin hsz hP hK hD hA hS hG ls hl
  subst hsz
  have hown : s.vm.findClass RX1 = some m.cls := hown
  have hl : lv_has ls 1 [(0, .ref h0)] := hl
  refine lv_aload_n hx hb dX1_size_0 rfl (lv_at hl 0 rfl) ?_
  refine va_get (D := D) (ci := 1) (v := .int sv) (C := RX1) (T := TX1) (N := 3) hx hb hts i1_size hown hK hP i (g_inX hX) rfl 1 (by decide) (hts (.fieldLink RX1 18 "NumberGoblets" "size" "I") (by decide +kernel)) (fun _ h9 => h9) rfl dX1_size_1 ?_
  exact g_reti hx hb hr hlocks hK sv () hP hD hS (Nat.le_refl _) (Nat.le_refl _) rfl dX1_size_4
set_option maxHeartbeats 4000000 in
set_option maxRecDepth 100000 in
/-- round() -/
theorem c_round (l : Launch) (D : va_G) (tys : List (ClassId × FieldType)) (X : va_W) (L : List Nat) (S : gS) (sz : Nat) {P : Nat → Int32} {i h0 lo : Nat} {sv rv : Int32} (hX : X[i]? = some (gO h0 lo sv rv)) (hC : gCh P lo (L, S))  : Met l yX1_round wsX1_round ({ frames := 0, cells := 0, slots := 0, locals := 0 } : Room) (gP D tys [.ref h0] (X ++ va_pl L (gE S)) sz gN) (va_Qi (fun (r : Int32) (_ : Unit) => r = rv) (fun _ t => gWd D tys (va_A (X ++ va_pl L (gE S)) sz) (X ++ va_pl L (gE S)) t) (va_A (X ++ va_pl L (gE S)) sz)) 0 0 (va_A (X ++ va_pl L (gE S)) sz) := by
  refine g_ofW (cc := cX1_round) (maxL := 1) (ret := some .int) (by decide) rfl (Nat.le_of_ble_eq_true rfl) ?_
  intro p e s m below meth c hx hb hr hml hts hown hlocks hin hsz hP hK hD hA hS hG ls hl
  subst hsz
  have hown : s.vm.findClass RX1 = some m.cls := hown
  have hl : lv_has ls 1 [(0, .ref h0)] := hl
  refine lv_aload_n hx hb dX1_round_0 rfl (lv_at hl 0 rfl) ?_
  refine va_get (D := D) (ci := 1) (v := .int rv) (C := RX1) (T := TX1) (N := 3) hx hb hts i1_round hown hK hP i (g_inX hX) rfl 2 (by decide) (hts (.fieldLink RX1 22 "NumberGoblets" "round" "I") (by decide +kernel)) (fun _ h9 => h9) rfl dX1_round_1 ?_
  exact g_reti hx hb hr hlocks hK rv () hP hD hS (Nat.le_refl _) (Nat.le_refl _) rfl dX1_round_4
set_option maxHeartbeats 4000000 in
set_option maxRecDepth 100000 in
/-- inJug() -/
theorem c_inJug (l : Launch) (D : va_G) (tys : List (ClassId × FieldType)) (X : va_W) (L : List Nat) (S : gS) (sz : Nat) {P : Nat → Int32} {i h0 lo : Nat} {sv rv : Int32} (hX : X[i]? = some (gO h0 lo sv rv)) (hC : gCh P lo (L, S))  : Met l yX1_inJug wsX1_inJug ({ frames := 3, cells := 0, slots := 0, locals := 61 } : Room) (gP D tys [.ref h0] (X ++ va_pl L (gE S)) sz gN) (va_Qi (fun (r : Int32) (_ : Unit) => r = nI (gct P 8 5000)) (fun _ t => gWd D tys (va_A (X ++ va_pl L (gE S)) sz) (X ++ va_pl L (gE S)) t) (va_A (X ++ va_pl L (gE S)) sz)) 0 0 (va_A (X ++ va_pl L (gE S)) sz) := by
  refine g_ofW (cc := cX1_inJug) (maxL := 1) (ret := some .int) (by decide) rfl (Nat.le_of_ble_eq_true rfl) ?_
  intro p e s m below meth c hx hb hr hml hts hown hlocks hin hsz hP hK hD hA hS hG ls hl
  subst hsz
  have hown : s.vm.findClass RX1 = some m.cls := hown
  have hl : lv_has ls 1 [(0, .ref h0)] := hl
  obtain ⟨g, hch, hwf, hmx⟩ := id hC
  refine lv_aload_n hx hb dX1_inJug_0 rfl (lv_at hl 0 rfl) ?_
  refine lv_bipush (v := 8) hx hb dX1_inJug_1 (by decide) ?_
  refine g_calli (va_runV (As := [.int 8]) (rest := []) ⟨hx, hb, hml, hown, hts⟩ (c_numbers l D tys X L S s.heap.size hX hwf hmx hch 8) (cwV 1 hts gX1_inJug_X1_numbersAt rfl rfl rfl (by decide +kernel) ⟨Nat.le_of_ble_eq_true rfl, Nat.le_of_ble_eq_true rfl⟩) (gP_V (va_recv hK hP (ci := 1) rfl (g_inX hX)) hP hK hD gBl_N (fun U _ hW => hG.warm hW)) rfl rfl hl.1 rfl (lv_room (Nat.le_of_ble_eq_true rfl)) dX1_inJug_3 ⟨(Nat.zero_le _), (Nat.zero_le _)⟩) hD hS hA (fun r9 u9 H locs hr9 hP hD hS => ?_)
  exact g_reti hx hb hr hlocks hK r9 () hP hD hS (Nat.le_refl _) (Nat.le_refl _) hr9 dX1_inJug_6
set_option maxHeartbeats 4000000 in
set_option maxRecDepth 100000 in
/-- drunk() -/
theorem c_drunk (l : Launch) (D : va_G) (tys : List (ClassId × FieldType)) (X : va_W) (L : List Nat) (S : gS) (sz : Nat) {P : Nat → Int32} {i h0 lo : Nat} {sv rv : Int32} (hX : X[i]? = some (gO h0 lo sv rv)) (hC : gCh P lo (L, S))  : Met l yX1_drunk wsX1_drunk ({ frames := 3, cells := 0, slots := 0, locals := 61 } : Room) (gP D tys [.ref h0] (X ++ va_pl L (gE S)) sz gN) (va_Qi (fun (r : Int32) (_ : Unit) => r = nI (gct P 9 5000)) (fun _ t => gWd D tys (va_A (X ++ va_pl L (gE S)) sz) (X ++ va_pl L (gE S)) t) (va_A (X ++ va_pl L (gE S)) sz)) 0 0 (va_A (X ++ va_pl L (gE S)) sz) := by
  refine g_ofW (cc := cX1_drunk) (maxL := 1) (ret := some .int) (by decide) rfl (Nat.le_of_ble_eq_true rfl) ?_
  intro p e s m below meth c hx hb hr hml hts hown hlocks hin hsz hP hK hD hA hS hG ls hl
  subst hsz
  have hown : s.vm.findClass RX1 = some m.cls := hown
  have hl : lv_has ls 1 [(0, .ref h0)] := hl
  obtain ⟨g, hch, hwf, hmx⟩ := id hC
  refine lv_aload_n hx hb dX1_drunk_0 rfl (lv_at hl 0 rfl) ?_
  refine lv_bipush (v := 9) hx hb dX1_drunk_1 (by decide) ?_
  refine g_calli (va_runV (As := [.int 9]) (rest := []) ⟨hx, hb, hml, hown, hts⟩ (c_numbers l D tys X L S s.heap.size hX hwf hmx hch 9) (cwV 1 hts gX1_drunk_X1_numbersAt rfl rfl rfl (by decide +kernel) ⟨Nat.le_of_ble_eq_true rfl, Nat.le_of_ble_eq_true rfl⟩) (gP_V (va_recv hK hP (ci := 1) rfl (g_inX hX)) hP hK hD gBl_N (fun U _ hW => hG.warm hW)) rfl rfl hl.1 rfl (lv_room (Nat.le_of_ble_eq_true rfl)) dX1_drunk_3 ⟨(Nat.zero_le _), (Nat.zero_le _)⟩) hD hS hA (fun r9 u9 H locs hr9 hP hD hS => ?_)
  exact g_reti hx hb hr hlocks hK r9 () hP hD hS (Nat.le_refl _) (Nat.le_refl _) hr9 dX1_drunk_6
set_option maxHeartbeats 4000000 in
set_option maxRecDepth 100000 in
/-- spilt() -/
theorem c_spilt (l : Launch) (D : va_G) (tys : List (ClassId × FieldType)) (X : va_W) (L : List Nat) (S : gS) (sz : Nat) {P : Nat → Int32} {i h0 lo : Nat} {sv rv : Int32} (hX : X[i]? = some (gO h0 lo sv rv)) (hC : gCh P lo (L, S))  : Met l yX1_spilt wsX1_spilt ({ frames := 3, cells := 0, slots := 0, locals := 61 } : Room) (gP D tys [.ref h0] (X ++ va_pl L (gE S)) sz gN) (va_Qi (fun (r : Int32) (_ : Unit) => r = nI (gct P 10 5000)) (fun _ t => gWd D tys (va_A (X ++ va_pl L (gE S)) sz) (X ++ va_pl L (gE S)) t) (va_A (X ++ va_pl L (gE S)) sz)) 0 0 (va_A (X ++ va_pl L (gE S)) sz) := by
  refine g_ofW (cc := cX1_spilt) (maxL := 1) (ret := some .int) (by decide) rfl (Nat.le_of_ble_eq_true rfl) ?_
  intro p e s m below meth c hx hb hr hml hts hown hlocks hin hsz hP hK hD hA hS hG ls hl
  subst hsz
  have hown : s.vm.findClass RX1 = some m.cls := hown
  have hl : lv_has ls 1 [(0, .ref h0)] := hl
  obtain ⟨g, hch, hwf, hmx⟩ := id hC
  refine lv_aload_n hx hb dX1_spilt_0 rfl (lv_at hl 0 rfl) ?_
  refine lv_bipush (v := 10) hx hb dX1_spilt_1 (by decide) ?_
  refine g_calli (va_runV (As := [.int 10]) (rest := []) ⟨hx, hb, hml, hown, hts⟩ (c_numbers l D tys X L S s.heap.size hX hwf hmx hch 10) (cwV 1 hts gX1_spilt_X1_numbersAt rfl rfl rfl (by decide +kernel) ⟨Nat.le_of_ble_eq_true rfl, Nat.le_of_ble_eq_true rfl⟩) (gP_V (va_recv hK hP (ci := 1) rfl (g_inX hX)) hP hK hD gBl_N (fun U _ hW => hG.warm hW)) rfl rfl hl.1 rfl (lv_room (Nat.le_of_ble_eq_true rfl)) dX1_spilt_3 ⟨(Nat.zero_le _), (Nat.zero_le _)⟩) hD hS hA (fun r9 u9 H locs hr9 hP hD hS => ?_)
  exact g_reti hx hb hr hlocks hK r9 () hP hD hS (Nat.le_refl _) (Nat.le_refl _) hr9 dX1_spilt_6
set_option maxHeartbeats 4000000 in
set_option maxRecDepth 100000 in
/-- ranges() -/
theorem c_rangesP (l : Launch) (D : va_G) (tys : List (ClassId × FieldType)) (X : va_W) (L : List Nat) (S : gS) (sz : Nat) {P : Nat → Int32} {i h0 lo : Nat} {sv rv : Int32} (hX : X[i]? = some (gO h0 lo sv rv)) (hC : gCh P lo (L, S)) (h00 : P 0 = -1) : Met l yX1_ranges wsX1_ranges ({ frames := 1, cells := 0, slots := 0, locals := 23 } : Room) (gP D tys [.ref h0] (X ++ va_pl L (gE S)) sz gN) (va_Qi (fun (r : Int32) (_ : Unit) => r = nI (gbg P 8 5000)) (fun _ t => gWd D tys (va_A (X ++ va_pl L (gE S)) sz) (X ++ va_pl L (gE S)) t) (va_A (X ++ va_pl L (gE S)) sz)) 0 0 (va_A (X ++ va_pl L (gE S)) sz) := by
  refine g_ofW (cc := cX1_ranges) (maxL := 1) (ret := some .int) (by decide) rfl (Nat.le_of_ble_eq_true rfl) ?_
  intro p e s m below meth c hx hb hr hml hts hown hlocks hin hsz hP hK hD hA hS hG ls hl
  subst hsz
  have hown : s.vm.findClass RX1 = some m.cls := hown
  have hl : lv_has ls 1 [(0, .ref h0)] := hl
  obtain ⟨g, hch, hwf, hmx⟩ := id hC
  refine lv_aload_n hx hb dX1_ranges_0 rfl (lv_at hl 0 rfl) ?_
  refine lv_bipush (v := 8) hx hb dX1_ranges_1 (by decide) ?_
  refine g_calli (va_runV (As := [.int 8]) (rest := []) ⟨hx, hb, hml, hown, hts⟩ (c_ranges l D tys X L S s.heap.size hX hwf hmx hch 8 (by rw [h00]; decide)) (cwV 1 hts gX1_ranges_X1_rangesAt rfl rfl rfl (by decide +kernel) ⟨Nat.le_of_ble_eq_true rfl, Nat.le_of_ble_eq_true rfl⟩) (gP_V (va_recv hK hP (ci := 1) rfl (g_inX hX)) hP hK hD gBl_N (fun U _ hW => hG.warm hW)) rfl rfl hl.1 rfl (lv_room (Nat.le_of_ble_eq_true rfl)) dX1_ranges_3 ⟨(Nat.zero_le _), (Nat.zero_le _)⟩) hD hS hA (fun r9 u9 H locs hr9 hP hD hS => ?_)
  exact g_reti hx hb hr hlocks hK r9 () hP hD hS (Nat.le_refl _) (Nat.le_refl _) hr9 dX1_ranges_6
set_option maxHeartbeats 4000000 in
set_option maxRecDepth 100000 in
/-- inGoblet(goblet) -/
theorem c_inGoblet (l : Launch) (hl9 : l.stackTraces = false) (D : va_G) (tys : List (ClassId × FieldType)) (X : va_W) (L : List Nat) (S : gS) (sz : Nat) {P : Nat → Int32} {i h0 lo : Nat} {sv rv : Int32} (hX : X[i]? = some (gO h0 lo sv rv)) (hC : gCh P lo (L, S)) (v0 : Int32) : vx_Met l yX1_inGoblet wsX1_inGoblet ({ frames := 7, cells := 1, slots := 6, locals := 102 } : Room) (gP D tys [.ref h0, .int v0] (X ++ va_pl L (gE S)) sz (gG (va_A (X ++ va_pl L (gE S)) sz))) (va_Qi (fun (r : Int32) (u : List Nat × gS) => (gGob v0 ∧ r = nI (gct P v0 5000)) ∧ gCh P lo u) (fun u t => gWd D tys (va_A (X ++ va_pl L (gE S)) sz) (X ++ va_pl u.1 (gE u.2)) t) (va_A (X ++ va_pl L (gE S)) sz)) (gX (fun E (u : List Nat × gS) => (E = xIOB ∧ ¬ gGob v0) ∧ gCh P lo u) (fun u => X ++ va_pl u.1 (gE u.2)) D tys (va_A (X ++ va_pl L (gE S)) sz)) 1 6 (va_A (X ++ va_pl L (gE S)) sz) := by
  refine g_ofX (cc := cX1_inGoblet) (maxL := 2) (ret := some .int) (by decide) rfl (Nat.le_of_ble_eq_true rfl) ?_
  intro p e s m below meth c hx hb hr hml hts hown hlocks hout hsz hP hK hD hA hS hGG ls hl
  subst hsz
  have hown : s.vm.findClass RX1 = some m.cls := hown
  have hl : lv_has ls 2 [(0, .ref h0), (1, .int v0)] := hl
  have hG : gN s := hGG.1
  obtain ⟨g, hch, hwf, hmx⟩ := id hC
  refine lv_iload_n hx hb dX1_inGoblet_0 rfl (lv_at hl 1 rfl) ?_
  refine g_xcallv (vx_runS (As := [.int v0]) (rest := []) ⟨hx, hb, hml, hown, hts⟩ (c_chkG l hl9 D tys (X ++ va_pl L (gE S)) s.heap.size v0) (va_cwS 1 hts gX1_inGoblet_X1_checkGoblet rfl rfl rfl (by decide +kernel) ⟨Nat.le_of_ble_eq_true rfl, Nat.le_of_ble_eq_true rfl⟩) (gP_S hP hK hD gBl_G (fun U hU hW => gG.call hGG hS (gA_sub hD hS hA) U hU hW)) rfl rfl hl.1 rfl (lv_room (Nat.le_of_ble_eq_true rfl)) dX1_inGoblet_1 ⟨Nat.le_of_ble_eq_true rfl, Nat.le_of_ble_eq_true rfl⟩) hD hS hA (fun E ce q9 u H locs hc hP hD hS e1 e2 e3 => g_out hout hlocks hK e1 e2 e3 (Nat.le_of_ble_eq_true rfl) (Nat.le_of_ble_eq_true rfl) (L, S) ⟨hc, hC⟩ hP hD hS) (fun _ H locs hg hP hD hS => ?_)
  refine lv_aload_n hx hb dX1_inGoblet_4 rfl (lv_at hl 0 rfl) ?_
  refine lv_iload_n hx hb dX1_inGoblet_5 rfl (lv_at hl 1 rfl) ?_
  refine g_calli (va_runV (As := [.int v0]) (rest := []) ⟨hx, hb, hml, hown, hts⟩ (c_numbers l D tys X L S H.size hX hwf hmx hch v0) (cwV 1 hts gX1_inGoblet_X1_numbersAt rfl rfl rfl (by decide +kernel) ⟨Nat.le_of_ble_eq_true rfl, Nat.le_of_ble_eq_true rfl⟩) (gP_V (va_recv hK hP (ci := 1) rfl (g_inX hX)) hP hK hD gBl_N (fun U _ hW => hG.warm hW)) rfl rfl hl.1 rfl (lv_room (Nat.le_of_ble_eq_true rfl)) dX1_inGoblet_6 ⟨Nat.le_of_ble_eq_true rfl, Nat.le_of_ble_eq_true rfl⟩) hD hS hA (fun r9 u9 H locs hr9 hP hD hS => ?_)
  exact vx_ret (g_reti hx hb hr hlocks hK (r9) (L, S) hP hD hS (Nat.le_of_ble_eq_true rfl) (Nat.le_of_ble_eq_true rfl) (⟨⟨hg, hr9⟩, hC⟩) dX1_inGoblet_9)
set_option maxHeartbeats 4000000 in
set_option maxRecDepth 100000 in
/-- rangesOf(goblet) -/
theorem c_rangesOf (l : Launch) (hl9 : l.stackTraces = false) (D : va_G) (tys : List (ClassId × FieldType)) (X : va_W) (L : List Nat) (S : gS) (sz : Nat) {P : Nat → Int32} {i h0 lo : Nat} {sv rv : Int32} (hX : X[i]? = some (gO h0 lo sv rv)) (hC : gCh P lo (L, S)) (v0 : Int32) (h00 : P 0 = -1) : vx_Met l yX1_rangesOf wsX1_rangesOf ({ frames := 7, cells := 1, slots := 6, locals := 102 } : Room) (gP D tys [.ref h0, .int v0] (X ++ va_pl L (gE S)) sz (gG (va_A (X ++ va_pl L (gE S)) sz))) (va_Qi (fun (r : Int32) (u : List Nat × gS) => (gGob v0 ∧ r = nI (gbg P v0 5000)) ∧ gCh P lo u) (fun u t => gWd D tys (va_A (X ++ va_pl L (gE S)) sz) (X ++ va_pl u.1 (gE u.2)) t) (va_A (X ++ va_pl L (gE S)) sz)) (gX (fun E (u : List Nat × gS) => (E = xIOB ∧ ¬ gGob v0) ∧ gCh P lo u) (fun u => X ++ va_pl u.1 (gE u.2)) D tys (va_A (X ++ va_pl L (gE S)) sz)) 1 6 (va_A (X ++ va_pl L (gE S)) sz) := by
  refine g_ofX (cc := cX1_rangesOf) (maxL := 2) (ret := some .int) (by decide) rfl (Nat.le_of_ble_eq_true rfl) ?_
  intro p e s m below meth c hx hb hr hml hts hown hlocks hout hsz hP hK hD hA hS hGG ls hl
  subst hsz
  have hown : s.vm.findClass RX1 = some m.cls := hown
  have hl : lv_has ls 2 [(0, .ref h0), (1, .int v0)] := hl
  have hG : gN s := hGG.1
  obtain ⟨g, hch, hwf, hmx⟩ := id hC
  refine lv_iload_n hx hb dX1_rangesOf_0 rfl (lv_at hl 1 rfl) ?_
  refine g_xcallv (vx_runS (As := [.int v0]) (rest := []) ⟨hx, hb, hml, hown, hts⟩ (c_chkG l hl9 D tys (X ++ va_pl L (gE S)) s.heap.size v0) (va_cwS 1 hts gX1_rangesOf_X1_checkGoblet rfl rfl rfl (by decide +kernel) ⟨Nat.le_of_ble_eq_true rfl, Nat.le_of_ble_eq_true rfl⟩) (gP_S hP hK hD gBl_G (fun U hU hW => gG.call hGG hS (gA_sub hD hS hA) U hU hW)) rfl rfl hl.1 rfl (lv_room (Nat.le_of_ble_eq_true rfl)) dX1_rangesOf_1 ⟨Nat.le_of_ble_eq_true rfl, Nat.le_of_ble_eq_true rfl⟩) hD hS hA (fun E ce q9 u H locs hc hP hD hS e1 e2 e3 => g_out hout hlocks hK e1 e2 e3 (Nat.le_of_ble_eq_true rfl) (Nat.le_of_ble_eq_true rfl) (L, S) ⟨hc, hC⟩ hP hD hS) (fun _ H locs hg hP hD hS => ?_)
  refine lv_aload_n hx hb dX1_rangesOf_4 rfl (lv_at hl 0 rfl) ?_
  refine lv_iload_n hx hb dX1_rangesOf_5 rfl (lv_at hl 1 rfl) ?_
  have hne : ¬ P 0 = v0 := by obtain ⟨j, hj, rfl⟩ := hg; rw [h00]; exact g_neg j hj
  refine g_calli (va_runV (As := [.int v0]) (rest := []) ⟨hx, hb, hml, hown, hts⟩ (c_ranges l D tys X L S H.size hX hwf hmx hch v0 hne) (cwV 1 hts gX1_rangesOf_X1_rangesAt rfl rfl rfl (by decide +kernel) ⟨Nat.le_of_ble_eq_true rfl, Nat.le_of_ble_eq_true rfl⟩) (gP_V (va_recv hK hP (ci := 1) rfl (g_inX hX)) hP hK hD gBl_N (fun U _ hW => hG.warm hW)) rfl rfl hl.1 rfl (lv_room (Nat.le_of_ble_eq_true rfl)) dX1_rangesOf_6 ⟨Nat.le_of_ble_eq_true rfl, Nat.le_of_ble_eq_true rfl⟩) hD hS hA (fun r9 u9 H locs hr9 hP hD hS => ?_)
  exact vx_ret (g_reti hx hb hr hlocks hK (r9) (L, S) hP hD hS (Nat.le_of_ble_eq_true rfl) (Nat.le_of_ble_eq_true rfl) (⟨⟨hg, hr9⟩, hC⟩) dX1_rangesOf_9)
set_option maxHeartbeats 4000000 in
set_option maxRecDepth 100000 in
/-- nextOf(goblet) -/
theorem c_nextOf (l : Launch) (hl9 : l.stackTraces = false) (D : va_G) (tys : List (ClassId × FieldType)) (X : va_W) (L : List Nat) (S : gS) (sz : Nat) {P : Nat → Int32} {i h0 lo : Nat} {sv rv : Int32} (hX : X[i]? = some (gO h0 lo sv rv)) (hC : gCh P lo (L, S)) (v0 : Int32) : vx_Met l yX1_nextOf wsX1_nextOf ({ frames := 7, cells := 1, slots := 6, locals := 102 } : Room) (gP D tys [.ref h0, .int v0] (X ++ va_pl L (gE S)) sz (gG (va_A (X ++ va_pl L (gE S)) sz))) (va_Qi (fun (r : Int32) (u : List Nat × gS) => (gGob v0 ∧ ∃ v w, glow (fun j => P j = v0) 5000 v ∧ glow (fun j => P j = 8) 5000 w ∧ r = nI (if v = 0 then w else v)) ∧ gCh P lo u) (fun u t => gWd D tys (va_A (X ++ va_pl L (gE S)) sz) (X ++ va_pl u.1 (gE u.2)) t) (va_A (X ++ va_pl L (gE S)) sz)) (gX (fun E (u : List Nat × gS) => (E = xIOB ∧ ¬ gGob v0) ∧ gCh P lo u) (fun u => X ++ va_pl u.1 (gE u.2)) D tys (va_A (X ++ va_pl L (gE S)) sz)) 1 6 (va_A (X ++ va_pl L (gE S)) sz) := by
  refine g_ofX (cc := cX1_nextOf) (maxL := 3) (ret := some .int) (by decide) rfl (Nat.le_of_ble_eq_true rfl) ?_
  intro p e s m below meth c hx hb hr hml hts hown hlocks hout hsz hP hK hD hA hS hGG ls hl
  subst hsz
  have hown : s.vm.findClass RX1 = some m.cls := hown
  have hl : lv_has ls 3 [(0, .ref h0), (1, .int v0)] := hl
  have hG : gN s := hGG.1
  obtain ⟨g, hch, hwf, hmx⟩ := id hC
  refine lv_iload_n hx hb dX1_nextOf_0 rfl (lv_at hl 1 rfl) ?_
  refine g_xcallv (vx_runS (As := [.int v0]) (rest := []) ⟨hx, hb, hml, hown, hts⟩ (c_chkG l hl9 D tys (X ++ va_pl L (gE S)) s.heap.size v0) (va_cwS 1 hts gX1_nextOf_X1_checkGoblet rfl rfl rfl (by decide +kernel) ⟨Nat.le_of_ble_eq_true rfl, Nat.le_of_ble_eq_true rfl⟩) (gP_S hP hK hD gBl_G (fun U hU hW => gG.call hGG hS (gA_sub hD hS hA) U hU hW)) rfl rfl hl.1 rfl (lv_room (Nat.le_of_ble_eq_true rfl)) dX1_nextOf_1 ⟨Nat.le_of_ble_eq_true rfl, Nat.le_of_ble_eq_true rfl⟩) hD hS hA (fun E ce q9 u H locs hc hP hD hS e1 e2 e3 => g_out hout hlocks hK e1 e2 e3 (Nat.le_of_ble_eq_true rfl) (Nat.le_of_ble_eq_true rfl) (L, S) ⟨hc, hC⟩ hP hD hS) (fun _ H locs hg hP hD hS => ?_)
  refine lv_aload_n hx hb dX1_nextOf_4 rfl (lv_at hl 0 rfl) ?_
  refine lv_iload_n hx hb dX1_nextOf_5 rfl (lv_at hl 1 rfl) ?_
  refine g_calli (va_runV (As := [.int v0]) (rest := []) ⟨hx, hb, hml, hown, hts⟩ (c_lowest l D tys X L S H.size hX hwf hmx hch v0) (cwV 1 hts gX1_nextOf_X1_lowestAt rfl rfl rfl (by decide +kernel) ⟨Nat.le_of_ble_eq_true rfl, Nat.le_of_ble_eq_true rfl⟩) (gP_V (va_recv hK hP (ci := 1) rfl (g_inX hX)) hP hK hD gBl_N (fun U _ hW => hG.warm hW)) rfl rfl hl.1 rfl (lv_room (Nat.le_of_ble_eq_true rfl)) dX1_nextOf_6 ⟨Nat.le_of_ble_eq_true rfl, Nat.le_of_ble_eq_true rfl⟩) hD hS hA (fun r9 u9 H locs hr9 hP hD hS => ?_)
  obtain ⟨v, rfl, hlv⟩ := hr9
  have hv5 := glow_le hlv
  refine lv_istore_n (lv' := [(2, .int (nI v)), (0, .ref h0), (1, .int v0)]) hx hb dX1_nextOf_9 rfl hl (by decide) rfl (fun ls hl => ?_)
  refine lv_iload_n hx hb dX1_nextOf_10 rfl (lv_at hl 0 rfl) ?_
  refine lv_if_eq (tgt := 18) hx hb dX1_nextOf_11 (by decide) (fun c1 => ?_) (fun c1 => ?_)
  · have hv0 : v = 0 := (nI_eq (by omega) (by omega)).mp (show nI v = nI 0 from c1)
    refine lv_aload_n hx hb dX1_nextOf_18 rfl (lv_at hl 1 rfl) ?_
    refine lv_bipush (v := 8) hx hb dX1_nextOf_19 (by decide) ?_
    refine g_calli (va_runV (As := [.int 8]) (rest := []) ⟨hx, hb, hml, hown, hts⟩ (c_lowest l D tys X L S H.size hX hwf hmx hch 8) (cwV 1 hts gX1_nextOf_X1_lowestAt rfl rfl rfl (by decide +kernel) ⟨Nat.le_of_ble_eq_true rfl, Nat.le_of_ble_eq_true rfl⟩) (gP_V (va_recv hK hP (ci := 1) rfl (g_inX hX)) hP hK hD gBl_N (fun U _ hW => hG.warm hW)) rfl rfl hl.1 rfl (lv_room (Nat.le_of_ble_eq_true rfl)) dX1_nextOf_21 ⟨Nat.le_of_ble_eq_true rfl, Nat.le_of_ble_eq_true rfl⟩) hD hS hA (fun r9 u9 H locs hr9 hP hD hS => ?_)
    obtain ⟨w, rfl, hlw⟩ := hr9
    exact vx_ret (g_reti hx hb hr hlocks hK (nI w) (L, S) hP hD hS (Nat.le_of_ble_eq_true rfl) (Nat.le_of_ble_eq_true rfl) (⟨⟨hg, v, w, hlv, hlw, by rw [if_pos hv0]⟩, hC⟩) dX1_nextOf_24)
  · have hv0 : ¬ v = 0 := fun z => c1 (by rw [z]; rfl)
    obtain ⟨w, hlw⟩ := glow_ex (fun j => P j = 8) 5000
    refine lv_iload_n hx hb dX1_nextOf_14 rfl (lv_at hl 0 rfl) ?_
    refine lv_goto (tgt := 24) hx hb dX1_nextOf_15 (by decide) ?_
    exact vx_ret (g_reti hx hb hr hlocks hK (nI v) (L, S) hP hD hS (Nat.le_of_ble_eq_true rfl) (Nat.le_of_ble_eq_true rfl) (⟨⟨hg, v, w, hlv, hlw, by rw [if_neg hv0]⟩, hC⟩) dX1_nextOf_24)
set_option maxHeartbeats 4000000 in
set_option maxRecDepth 100000 in
/-- pourBack(goblet) -/
theorem c_pourBack (l : Launch) (hl9 : l.stackTraces = false) (D : va_G) (tys : List (ClassId × FieldType)) (X : va_W) (L : List Nat) (S : gS) (sz : Nat) {P : Nat → Int32} {i h0 lo : Nat} {sv rv : Int32} (hX : X[i]? = some (gO h0 lo sv rv)) (hC : gCh P lo (L, S)) (v0 : Int32) : vx_Met l yX1_pourBack wsX1_pourBack ({ frames := 7, cells := 3, slots := 14, locals := 108 } : Room) (gP D tys [.ref h0, .int v0] (X ++ va_pl L (gE S)) sz (gG (va_A (X ++ va_pl L (gE S)) sz))) (va_Qi (fun (r : Int32) (u : List Nat × gS) => (gGob v0 ∧ r = nI (gct P v0 5000)) ∧ gCh (gmv P v0 8 0 5000) lo u) (fun u t => gWd D tys (va_A (X ++ va_pl L (gE S)) sz) (X ++ va_pl u.1 (gE u.2)) t) (va_A (X ++ va_pl L (gE S)) sz)) (gX (fun E (u : List Nat × gS) => (E = xIOB ∧ ¬ gGob v0) ∧ gCh P lo u) (fun u => X ++ va_pl u.1 (gE u.2)) D tys (va_A (X ++ va_pl L (gE S)) sz)) 3 14 (va_A (X ++ va_pl L (gE S)) sz) := by
  refine g_ofX (cc := cX1_pourBack) (maxL := 2) (ret := some .int) (by decide) rfl (Nat.le_of_ble_eq_true rfl) ?_
  intro p e s m below meth c hx hb hr hml hts hown hlocks hout hsz hP hK hD hA hS hGG ls hl
  subst hsz
  have hown : s.vm.findClass RX1 = some m.cls := hown
  have hl : lv_has ls 2 [(0, .ref h0), (1, .int v0)] := hl
  have hG : gN s := hGG.1
  obtain ⟨g, hch, hwf, hmx⟩ := id hC
  refine lv_iload_n hx hb dX1_pourBack_0 rfl (lv_at hl 1 rfl) ?_
  refine g_xcallv (vx_runS (As := [.int v0]) (rest := []) ⟨hx, hb, hml, hown, hts⟩ (c_chkG l hl9 D tys (X ++ va_pl L (gE S)) s.heap.size v0) (va_cwS 1 hts gX1_pourBack_X1_checkGoblet rfl rfl rfl (by decide +kernel) ⟨Nat.le_of_ble_eq_true rfl, Nat.le_of_ble_eq_true rfl⟩) (gP_S hP hK hD gBl_G (fun U hU hW => gG.call hGG hS (gA_sub hD hS hA) U hU hW)) rfl rfl hl.1 rfl (lv_room (Nat.le_of_ble_eq_true rfl)) dX1_pourBack_1 ⟨Nat.le_of_ble_eq_true rfl, Nat.le_of_ble_eq_true rfl⟩) hD hS hA (fun E ce q9 u H locs hc hP hD hS e1 e2 e3 => g_out hout hlocks hK e1 e2 e3 (Nat.le_of_ble_eq_true rfl) (Nat.le_of_ble_eq_true rfl) (L, S) ⟨hc, hC⟩ hP hD hS) (fun _ H locs hg hP hD hS => ?_)
  refine lv_aload_n hx hb dX1_pourBack_4 rfl (lv_at hl 0 rfl) ?_
  refine lv_iload_n hx hb dX1_pourBack_5 rfl (lv_at hl 1 rfl) ?_
  refine lv_bipush (v := 8) hx hb dX1_pourBack_6 (by decide) ?_
  refine g_calli (va_runV (As := [.int v0, .int 8]) (rest := []) ⟨hx, hb, hml, hown, hts⟩ (c_moveAll l D tys X L S H.size hX hwf hmx hch v0 8) (cwV 2 hts gX1_pourBack_X1_moveAll rfl rfl rfl (by decide +kernel) ⟨Nat.le_of_ble_eq_true rfl, Nat.le_of_ble_eq_true rfl⟩) (gP_V (va_recv hK hP (ci := 1) rfl (g_inX hX)) hP hK hD gBl_N (fun U _ hW => hG.warm hW)) rfl rfl hl.1 rfl (lv_room (Nat.le_of_ble_eq_true rfl)) dX1_pourBack_8 ⟨Nat.le_of_ble_eq_true rfl, Nat.le_of_ble_eq_true rfl⟩) hD hS hA (fun r9 u9 H locs hr9 hP hD hS => ?_)
  exact vx_ret (g_reti hx hb hr hlocks hK (r9) u9 hP hD hS (Nat.le_of_ble_eq_true rfl) (Nat.le_of_ble_eq_true rfl) (⟨⟨hg, hr9.1⟩, hr9.2⟩) dX1_pourBack_11)
set_option maxHeartbeats 4000000 in
set_option maxRecDepth 100000 in
/-- spill(goblet) -/
theorem c_spill (l : Launch) (hl9 : l.stackTraces = false) (D : va_G) (tys : List (ClassId × FieldType)) (X : va_W) (L : List Nat) (S : gS) (sz : Nat) {P : Nat → Int32} {i h0 lo : Nat} {sv rv : Int32} (hX : X[i]? = some (gO h0 lo sv rv)) (hC : gCh P lo (L, S)) (v0 : Int32) : vx_Met l yX1_spill wsX1_spill ({ frames := 7, cells := 3, slots := 14, locals := 108 } : Room) (gP D tys [.ref h0, .int v0] (X ++ va_pl L (gE S)) sz (gG (va_A (X ++ va_pl L (gE S)) sz))) (va_Qi (fun (r : Int32) (u : List Nat × gS) => (gGob v0 ∧ r = nI (gct P v0 5000)) ∧ gCh (gmv P v0 10 0 5000) lo u) (fun u t => gWd D tys (va_A (X ++ va_pl L (gE S)) sz) (X ++ va_pl u.1 (gE u.2)) t) (va_A (X ++ va_pl L (gE S)) sz)) (gX (fun E (u : List Nat × gS) => (E = xIOB ∧ ¬ gGob v0) ∧ gCh P lo u) (fun u => X ++ va_pl u.1 (gE u.2)) D tys (va_A (X ++ va_pl L (gE S)) sz)) 3 14 (va_A (X ++ va_pl L (gE S)) sz) := by
  refine g_ofX (cc := cX1_spill) (maxL := 2) (ret := some .int) (by decide) rfl (Nat.le_of_ble_eq_true rfl) ?_
  intro p e s m below meth c hx hb hr hml hts hown hlocks hout hsz hP hK hD hA hS hGG ls hl
  subst hsz
  have hown : s.vm.findClass RX1 = some m.cls := hown
  have hl : lv_has ls 2 [(0, .ref h0), (1, .int v0)] := hl
  have hG : gN s := hGG.1
  obtain ⟨g, hch, hwf, hmx⟩ := id hC
  refine lv_iload_n hx hb dX1_spill_0 rfl (lv_at hl 1 rfl) ?_
  refine g_xcallv (vx_runS (As := [.int v0]) (rest := []) ⟨hx, hb, hml, hown, hts⟩ (c_chkG l hl9 D tys (X ++ va_pl L (gE S)) s.heap.size v0) (va_cwS 1 hts gX1_spill_X1_checkGoblet rfl rfl rfl (by decide +kernel) ⟨Nat.le_of_ble_eq_true rfl, Nat.le_of_ble_eq_true rfl⟩) (gP_S hP hK hD gBl_G (fun U hU hW => gG.call hGG hS (gA_sub hD hS hA) U hU hW)) rfl rfl hl.1 rfl (lv_room (Nat.le_of_ble_eq_true rfl)) dX1_spill_1 ⟨Nat.le_of_ble_eq_true rfl, Nat.le_of_ble_eq_true rfl⟩) hD hS hA (fun E ce q9 u H locs hc hP hD hS e1 e2 e3 => g_out hout hlocks hK e1 e2 e3 (Nat.le_of_ble_eq_true rfl) (Nat.le_of_ble_eq_true rfl) (L, S) ⟨hc, hC⟩ hP hD hS) (fun _ H locs hg hP hD hS => ?_)
  refine lv_aload_n hx hb dX1_spill_4 rfl (lv_at hl 0 rfl) ?_
  refine lv_iload_n hx hb dX1_spill_5 rfl (lv_at hl 1 rfl) ?_
  refine lv_bipush (v := 10) hx hb dX1_spill_6 (by decide) ?_
  refine g_calli (va_runV (As := [.int v0, .int 10]) (rest := []) ⟨hx, hb, hml, hown, hts⟩ (c_moveAll l D tys X L S H.size hX hwf hmx hch v0 10) (cwV 2 hts gX1_spill_X1_moveAll rfl rfl rfl (by decide +kernel) ⟨Nat.le_of_ble_eq_true rfl, Nat.le_of_ble_eq_true rfl⟩) (gP_V (va_recv hK hP (ci := 1) rfl (g_inX hX)) hP hK hD gBl_N (fun U _ hW => hG.warm hW)) rfl rfl hl.1 rfl (lv_room (Nat.le_of_ble_eq_true rfl)) dX1_spill_8 ⟨Nat.le_of_ble_eq_true rfl, Nat.le_of_ble_eq_true rfl⟩) hD hS hA (fun r9 u9 H locs hr9 hP hD hS => ?_)
  exact vx_ret (g_reti hx hb hr hlocks hK (r9) u9 hP hD hS (Nat.le_of_ble_eq_true rfl) (Nat.le_of_ble_eq_true rfl) (⟨⟨hg, hr9.1⟩, hr9.2⟩) dX1_spill_11)
set_option maxHeartbeats 4000000 in
set_option maxRecDepth 100000 in
/-- pour(goblet, count) -/
theorem c_pour (l : Launch) (hl9 : l.stackTraces = false) (D : va_G) (tys : List (ClassId × FieldType)) (X : va_W) (L : List Nat) (S : gS) (sz : Nat) {P : Nat → Int32} {i h0 lo : Nat} {sv rv : Int32} (hX : X[i]? = some (gO h0 lo sv rv)) (hC : gCh P lo (L, S)) (v0 v1 : Int32) : vx_Met l yX1_pour wsX1_pour ({ frames := 7, cells := 4, slots := 20, locals := 102 } : Room) (gP D tys [.ref h0, .int v0, .int v1] (X ++ va_pl L (gE S)) sz (gG (va_A (X ++ va_pl L (gE S)) sz))) (va_Qi (fun (r : Int32) (u : List Nat × gS) => (gGob v0 ∧ ∃ cn : Nat, 1 ≤ cn ∧ cn ≤ 200 ∧ v1 = nI cn ∧ ¬ glow (fun j => P j = 8) 5000 0 ∧ r = nI (min cn (gct P 8 5000)) ∧ gCh (gmv P 8 v0 0 cn) lo u)) (fun u t => gWd D tys (va_A (X ++ va_pl L (gE S)) sz) (X ++ va_pl u.1 (gE u.2)) t) (va_A (X ++ va_pl L (gE S)) sz)) (gX (fun E (u : List Nat × gS) => ((E = xIOB ∧ ¬ gGob v0) ∨ (E = xIAE ∧ gGob v0 ∧ ¬ gCnt v1) ∨ (E = xISE ∧ gGob v0 ∧ gCnt v1 ∧ glow (fun j => P j = 8) 5000 0)) ∧ gCh P lo u) (fun u => X ++ va_pl u.1 (gE u.2)) D tys (va_A (X ++ va_pl L (gE S)) sz)) 4 20 (va_A (X ++ va_pl L (gE S)) sz) := by
  refine g_ofX (cc := cX1_pour) (maxL := 3) (ret := some .int) (by decide) rfl (Nat.le_of_ble_eq_true rfl) ?_
  intro p e s m below meth c hx hb hr hml hts hown hlocks hout hsz hP hK hD hA hS hGG ls hl
  subst hsz
  have hown : s.vm.findClass RX1 = some m.cls := hown
  have hl : lv_has ls 3 [(0, .ref h0), (1, .int v0), (2, .int v1)] := hl
  have hG : gN s := hGG.1
  obtain ⟨g, hch, hwf, hmx⟩ := id hC
  refine lv_iload_n hx hb dX1_pour_0 rfl (lv_at hl 1 rfl) ?_
  refine g_xcallv (vx_runS (As := [.int v0]) (rest := []) ⟨hx, hb, hml, hown, hts⟩ (c_chkG l hl9 D tys (X ++ va_pl L (gE S)) s.heap.size v0) (va_cwS 1 hts gX1_pour_X1_checkGoblet rfl rfl rfl (by decide +kernel) ⟨Nat.le_of_ble_eq_true rfl, Nat.le_of_ble_eq_true rfl⟩) (gP_S hP hK hD gBl_G (fun U hU hW => gG.call hGG hS (gA_sub hD hS hA) U hU hW)) rfl rfl hl.1 rfl (lv_room (Nat.le_of_ble_eq_true rfl)) dX1_pour_1 ⟨Nat.le_of_ble_eq_true rfl, Nat.le_of_ble_eq_true rfl⟩) hD hS hA (fun E ce q9 u H locs hc hP hD hS e1 e2 e3 => g_out hout hlocks hK e1 e2 e3 (Nat.le_of_ble_eq_true rfl) (Nat.le_of_ble_eq_true rfl) (L, S) ⟨Or.inl hc, hC⟩ hP hD hS) (fun _ H locs hg hP hD hS => ?_)
  refine lv_iload_n hx hb dX1_pour_4 rfl (lv_at hl 2 rfl) ?_
  refine g_xcallv (vx_runS (As := [.int v1]) (rest := []) ⟨hx, hb, hml, hown, hts⟩ (c_chkC l hl9 D tys (X ++ va_pl L (gE S)) H.size v1) (va_cwS 1 hts gX1_pour_X1_checkCount rfl rfl rfl (by decide +kernel) ⟨Nat.le_of_ble_eq_true rfl, Nat.le_of_ble_eq_true rfl⟩) (gP_S hP hK hD gBl_G (fun U hU hW => gG.call hGG hS (gA_sub hD hS hA) U hU hW)) rfl rfl hl.1 rfl (lv_room (Nat.le_of_ble_eq_true rfl)) dX1_pour_5 ⟨Nat.le_of_ble_eq_true rfl, Nat.le_of_ble_eq_true rfl⟩) hD hS hA (fun E ce q9 u H locs hc hP hD hS e1 e2 e3 => g_out hout hlocks hK e1 e2 e3 (Nat.le_of_ble_eq_true rfl) (Nat.le_of_ble_eq_true rfl) (L, S) ⟨Or.inr (Or.inl ⟨hc.1, hg, hc.2⟩), hC⟩ hP hD hS) (fun _ H locs hn hP hD hS => ?_)
  refine lv_aload_n hx hb dX1_pour_8 rfl (lv_at hl 0 rfl) ?_
  refine lv_bipush (v := 8) hx hb dX1_pour_9 (by decide) ?_
  refine g_calli (va_runV (As := [.int 8]) (rest := []) ⟨hx, hb, hml, hown, hts⟩ (c_lowest l D tys X L S H.size hX hwf hmx hch 8) (cwV 1 hts gX1_pour_X1_lowestAt rfl rfl rfl (by decide +kernel) ⟨Nat.le_of_ble_eq_true rfl, Nat.le_of_ble_eq_true rfl⟩) (gP_V (va_recv hK hP (ci := 1) rfl (g_inX hX)) hP hK hD gBl_N (fun U _ hW => hG.warm hW)) rfl rfl hl.1 rfl (lv_room (Nat.le_of_ble_eq_true rfl)) dX1_pour_11 ⟨Nat.le_of_ble_eq_true rfl, Nat.le_of_ble_eq_true rfl⟩) hD hS hA (fun r9 u9 H locs hr9 hP hD hS => ?_)
  obtain ⟨v, rfl, hlv⟩ := hr9
  have hv5 := glow_le hlv
  refine lv_if_ne (tgt := 27) hx hb dX1_pour_14 (by decide) (fun c1 => ?_) (fun c1 => ?_)
  · have hv0 : ¬ v = 0 := fun z => c1 (by rw [z]; rfl)
    obtain ⟨cn, n1, n2, rfl⟩ := hn
    refine lv_aload_n hx hb dX1_pour_27 rfl (lv_at hl 0 rfl) ?_
    refine lv_bipush (v := 8) hx hb dX1_pour_28 (by decide) ?_
    refine lv_iload_n hx hb dX1_pour_30 rfl (lv_at hl 1 rfl) ?_
    refine lv_iconst (v := 0) hx hb dX1_pour_31 (by decide) ?_
    refine lv_iload_n hx hb dX1_pour_32 rfl (lv_at hl 2 rfl) ?_
    refine g_calli (va_runV (As := [.int 8, .int v0, .int 0, .int (nI cn)]) (rest := []) ⟨hx, hb, hml, hown, hts⟩ (c_move l D tys X L S H.size hX hwf hmx hch 8 v0 (stay := 0) (cnt := cn) (by omega) n1 (by omega)) (cwV 4 hts gX1_pour_X1_move rfl rfl rfl (by decide +kernel) ⟨Nat.le_of_ble_eq_true rfl, Nat.le_of_ble_eq_true rfl⟩) (gP_V (va_recv hK hP (ci := 1) rfl (g_inX hX)) hP hK hD gBl_N (fun U _ hW => hG.warm hW)) rfl rfl hl.1 rfl (lv_room (Nat.le_of_ble_eq_true rfl)) dX1_pour_33 ⟨Nat.le_of_ble_eq_true rfl, Nat.le_of_ble_eq_true rfl⟩) hD hS hA (fun r9 u9 H locs hr9 hP hD hS => ?_)
    exact vx_ret (g_reti hx hb hr hlocks hK (r9) u9 hP hD hS (Nat.le_of_ble_eq_true rfl) (Nat.le_of_ble_eq_true rfl) (⟨hg, cn, n1, n2, rfl, fun z => hv0 (glow_one hlv z), hr9.1, hr9.2⟩) dX1_pour_36)
  · skip
    have hv0 : v = 0 := (nI_eq (by omega) (by omega)).mp (show nI v = nI 0 from c1)
    subst hv0
    exact g_throw (cls := xISE) (text := "the jug is empty") (pc := 17) hx hb hl9 hts hown hlocks hK hGG (hl.1.trans hml.symm) hout (by decide +kernel) xk_pour xi_pour (by decide +kernel) xin_pour xbad_ISE xgood_ISE dX1_pour_17 dX1_pour_20 dX1_pour_21 dX1_pour_23 dX1_pour_26 ⟨Nat.le_of_ble_eq_true rfl, Nat.le_of_ble_eq_true rfl, Nat.le_of_ble_eq_true rfl, Nat.le_of_ble_eq_true rfl⟩ (Nat.le_of_ble_eq_true rfl) (Nat.le_of_ble_eq_true rfl) (L, S) (⟨Or.inr (Or.inr ⟨rfl, hg, hn, hlv⟩), hC⟩) hP hD hS
set_option maxHeartbeats 4000000 in
set_option maxRecDepth 100000 in
/-- drink(goblet) -/
theorem c_drink (l : Launch) (hl9 : l.stackTraces = false) (D : va_G) (tys : List (ClassId × FieldType)) (X : va_W) (L : List Nat) (S : gS) (sz : Nat) {P : Nat → Int32} {i h0 lo : Nat} {sv rv : Int32} (hX : X[i]? = some (gO h0 lo sv rv)) (hC : gCh P lo (L, S)) (v0 : Int32) (ho : gOut P) : vx_Met l yX1_drink wsX1_drink ({ frames := 7, cells := 5, slots := 22, locals := 102 } : Room) (gP D tys [.ref h0, .int v0] (X ++ va_pl L (gE S)) sz (gG (va_A (X ++ va_pl L (gE S)) sz))) (va_Qi (fun (r : Int32) (u : List Nat × gS) => (gGob v0 ∧ ∃ v : Nat, 1 ≤ v ∧ v ≤ 5000 ∧ r = nI v ∧ (glow (fun j => P j = v0) 5000 v ∨ (glow (fun j => P j = v0) 5000 0 ∧ glow (fun j => P j = 8) 5000 v)) ∧ gCh (va_up P v 9) lo u)) (fun u t => gWd D tys (va_A (X ++ va_pl L (gE S)) sz) (X ++ va_pl u.1 (gE u.2)) t) (va_A (X ++ va_pl L (gE S)) sz)) (gX (fun E (u : List Nat × gS) => ((E = xIOB ∧ ¬ gGob v0) ∨ (E = xISE ∧ gGob v0 ∧ glow (fun j => P j = v0) 5000 0 ∧ glow (fun j => P j = 8) 5000 0)) ∧ gCh P lo u) (fun u => X ++ va_pl u.1 (gE u.2)) D tys (va_A (X ++ va_pl L (gE S)) sz)) 5 22 (va_A (X ++ va_pl L (gE S)) sz) := by
  refine g_ofX (cc := cX1_drink) (maxL := 3) (ret := some .int) (by decide) rfl (Nat.le_of_ble_eq_true rfl) ?_
  intro p e s m below meth c hx hb hr hml hts hown hlocks hout hsz hP hK hD hA hS hGG ls hl
  subst hsz
  have hown : s.vm.findClass RX1 = some m.cls := hown
  have hl : lv_has ls 3 [(0, .ref h0), (1, .int v0)] := hl
  have hG : gN s := hGG.1
  obtain ⟨g, hch, hwf, hmx⟩ := id hC
  refine lv_iload_n hx hb dX1_drink_0 rfl (lv_at hl 1 rfl) ?_
  refine g_xcallv (vx_runS (As := [.int v0]) (rest := []) ⟨hx, hb, hml, hown, hts⟩ (c_chkG l hl9 D tys (X ++ va_pl L (gE S)) s.heap.size v0) (va_cwS 1 hts gX1_drink_X1_checkGoblet rfl rfl rfl (by decide +kernel) ⟨Nat.le_of_ble_eq_true rfl, Nat.le_of_ble_eq_true rfl⟩) (gP_S hP hK hD gBl_G (fun U hU hW => gG.call hGG hS (gA_sub hD hS hA) U hU hW)) rfl rfl hl.1 rfl (lv_room (Nat.le_of_ble_eq_true rfl)) dX1_drink_1 ⟨Nat.le_of_ble_eq_true rfl, Nat.le_of_ble_eq_true rfl⟩) hD hS hA (fun E ce q9 u H locs hc hP hD hS e1 e2 e3 => g_out hout hlocks hK e1 e2 e3 (Nat.le_of_ble_eq_true rfl) (Nat.le_of_ble_eq_true rfl) (L, S) ⟨Or.inl hc, hC⟩ hP hD hS) (fun _ H locs hg hP hD hS => ?_)
  have hv1 : ¬ v0 = -1 := by obtain ⟨j, hj, rfl⟩ := hg; exact fun z => g_neg j hj z.symm
  have hv8 : ¬ v0 = 8 := by obtain ⟨j, hj, rfl⟩ := hg; intro z; have := (nI_eq (by omega) (by omega)).mp (show nI j = nI 8 from z); omega
  refine lv_aload_n hx hb dX1_drink_4 rfl (lv_at hl 0 rfl) ?_
  refine lv_iload_n hx hb dX1_drink_5 rfl (lv_at hl 1 rfl) ?_
  refine g_calli (va_runV (As := [.int v0]) (rest := []) ⟨hx, hb, hml, hown, hts⟩ (c_lowest l D tys X L S H.size hX hwf hmx hch v0) (cwV 1 hts gX1_drink_X1_lowestAt rfl rfl rfl (by decide +kernel) ⟨Nat.le_of_ble_eq_true rfl, Nat.le_of_ble_eq_true rfl⟩) (gP_V (va_recv hK hP (ci := 1) rfl (g_inX hX)) hP hK hD gBl_N (fun U _ hW => hG.warm hW)) rfl rfl hl.1 rfl (lv_room (Nat.le_of_ble_eq_true rfl)) dX1_drink_6 ⟨Nat.le_of_ble_eq_true rfl, Nat.le_of_ble_eq_true rfl⟩) hD hS hA (fun r9 u9 H locs hr9 hP hD hS => ?_)
  obtain ⟨v, rfl, hlv⟩ := hr9
  have hv5 := glow_le hlv
  have tail : ∀ (P1 : Nat → Int32) (u1 : List Nat × gS) (v2 : Nat) (H : Heap) (locs : List Loc) (ls : Array Slot), gCh P1 lo u1 → gOut P1 → glow (fun j => P1 j = v0) 5000 v2 → (v2 = 0 → P1 = P ∧ glow (fun j => P j = v0) 5000 0 ∧ glow (fun j => P j = 8) 5000 0) → (1 ≤ v2 → (glow (fun j => P j = v0) 5000 v2 ∨ (glow (fun j => P j = v0) 5000 0 ∧ glow (fun j => P j = 8) 5000 v2)) ∧ va_up P1 v2 9 = va_up P v2 9) → va_P D vwCl (X ++ va_pl u1.1 (gE u1.2)) H → va_D (va_A (X ++ va_pl L (gE S)) s.heap.size) (X ++ va_pl u1.1 (gE u1.2)) → va_S (va_A (X ++ va_pl L (gE S)) s.heap.size) s.heap H locs → lv_has ls 3 [(0, .ref h0), (1, .int v0)] → W p l e (({ frames := 7, cells := 5, slots := 22, locals := 102 } : Room)) s m ([.ref h0, .int v0] : List Value).toArray below meth c H locs 3 14 (vx_MQ below (va_Qi (fun (r : Int32) (u : List Nat × gS) => (gGob v0 ∧ ∃ v : Nat, 1 ≤ v ∧ v ≤ 5000 ∧ r = nI v ∧ (glow (fun j => P j = v0) 5000 v ∨ (glow (fun j => P j = v0) 5000 0 ∧ glow (fun j => P j = 8) 5000 v)) ∧ gCh (va_up P v 9) lo u)) (fun u t => gWd D tys (va_A (X ++ va_pl L (gE S)) s.heap.size) (X ++ va_pl u.1 (gE u.2)) t) (va_A (X ++ va_pl L (gE S)) s.heap.size)) (gX (fun E (u : List Nat × gS) => ((E = xIOB ∧ ¬ gGob v0) ∨ (E = xISE ∧ gGob v0 ∧ glow (fun j => P j = v0) 5000 0 ∧ glow (fun j => P j = 8) 5000 0)) ∧ gCh P lo u) (fun u => X ++ va_pl u.1 (gE u.2)) D tys (va_A (X ++ va_pl L (gE S)) s.heap.size)) ([.ref h0, .int v0] : List Value).toArray s 5 22 (va_A (X ++ va_pl L (gE S)) s.heap.size)) (F0 m 22 ls []) := by
    intro P1 u1 v2 H locs ls hC1 ho1 hl2 hz hp hP hD hS hl
    obtain ⟨L1, S1⟩ := u1
    obtain ⟨g1, hch1, hwf1, hmx1⟩ := id hC1
    have hv25 := glow_le hl2
    refine lv_aload_n hx hb dX1_drink_22 rfl (lv_at hl 0 rfl) ?_
    refine lv_iload_n hx hb dX1_drink_23 rfl (lv_at hl 1 rfl) ?_
    refine g_calli (va_runV (As := [.int v0]) (rest := []) ⟨hx, hb, hml, hown, hts⟩ (c_lowest l D tys X L1 S1 H.size hX hwf1 hmx1 hch1 v0) (cwV 1 hts gX1_drink_X1_lowestAt rfl rfl rfl (by decide +kernel) ⟨Nat.le_of_ble_eq_true rfl, Nat.le_of_ble_eq_true rfl⟩) (gP_V (va_recv hK hP (ci := 1) rfl (g_inX hX)) hP hK hD gBl_N (fun U _ hW => hG.warm hW)) rfl rfl hl.1 rfl (lv_room (Nat.le_of_ble_eq_true rfl)) dX1_drink_24 ⟨Nat.le_of_ble_eq_true rfl, Nat.le_of_ble_eq_true rfl⟩) hD hS hA (fun r9 u9 H locs hr9 hP hD hS => ?_)
    obtain ⟨v3, rfl, hl3⟩ := hr9
    obtain rfl : v3 = v2 := glow_one hl3 hl2
    refine lv_istore_n (lv' := [(2, .int (nI v3)), (0, .ref h0), (1, .int v0)]) hx hb dX1_drink_27 rfl hl (by decide) rfl (fun ls hl => ?_)
    refine lv_iload_n hx hb dX1_drink_28 rfl (lv_at hl 0 rfl) ?_
    refine lv_if_ne (tgt := 42) hx hb dX1_drink_29 (by decide) (fun c1 => ?_) (fun c1 => ?_)
    · have hv0 : ¬ v3 = 0 := fun z => c1 (by rw [z]; rfl)
      refine lv_aload_n hx hb dX1_drink_42 rfl (lv_at hl 1 rfl) ?_
      refine lv_iload_n hx hb dX1_drink_43 rfl (lv_at hl 2 rfl) ?_
      refine lv_bipush (v := 9) hx hb dX1_drink_44 (by decide) ?_
      refine lv_iconst (v := 0) hx hb dX1_drink_46 (by decide) ?_
      refine lv_iconst (v := 1) hx hb dX1_drink_47 (by decide) ?_
      refine g_calli (va_runV (As := [.int v0, .int 9, .int 0, .int 1]) (rest := []) ⟨hx, hb, hml, hown, hts⟩ (c_move l D tys X L1 S1 H.size hX hwf1 hmx1 hch1 v0 9 (stay := 0) (cnt := 1) (by omega) (Nat.le_refl _) (by omega)) (cwV 4 hts gX1_drink_X1_move rfl rfl rfl (by decide +kernel) ⟨Nat.le_of_ble_eq_true rfl, Nat.le_of_ble_eq_true rfl⟩) (gP_V (va_recv hK hP (ci := 1) rfl (g_inX hX)) hP hK hD gBl_N (fun U _ hW => hG.warm hW)) rfl rfl hl.1 rfl (lv_room (Nat.le_of_ble_eq_true rfl)) dX1_drink_48 ⟨Nat.le_of_ble_eq_true rfl, Nat.le_of_ble_eq_true rfl⟩) hD hS hA (fun r9 u9 H locs hr9 hP hD hS => ?_)
      have hcu := hr9.2
      rw [gmv_one hv1 ho1 (by omega) hl2, (hp (by omega)).2] at hcu
      refine lv_pop hx hb dX1_drink_51 rfl ?_
      refine lv_iload_n hx hb dX1_drink_52 rfl (lv_at hl 0 rfl) ?_
      exact vx_ret (g_reti hx hb hr hlocks hK (nI v3) u9 hP hD hS (Nat.le_of_ble_eq_true rfl) (Nat.le_of_ble_eq_true rfl) (⟨hg, v3, by omega, hv25, rfl, (hp (by omega)).1, hcu⟩) dX1_drink_53)
    · skip
      have hv0 : v3 = 0 := (nI_eq (by omega) (by omega)).mp (show nI v3 = nI 0 from c1)
      obtain ⟨z1, z2, z3⟩ := hz hv0
      subst z1
      exact g_throw (cls := xISE) (text := "the goblet and the jug are empty") (pc := 32) hx hb hl9 hts hown hlocks hK hGG (hl.1.trans hml.symm) hout (by decide +kernel) xk_drink xi_drink (by decide +kernel) xin_drink xbad_ISE xgood_ISE dX1_drink_32 dX1_drink_35 dX1_drink_36 dX1_drink_38 dX1_drink_41 ⟨Nat.le_of_ble_eq_true rfl, Nat.le_of_ble_eq_true rfl, Nat.le_of_ble_eq_true rfl, Nat.le_of_ble_eq_true rfl⟩ (Nat.le_of_ble_eq_true rfl) (Nat.le_of_ble_eq_true rfl) (L1, S1) (⟨Or.inr ⟨rfl, hg, z2, z3⟩, hC1⟩) hP hD hS
  refine lv_if_ne (tgt := 22) hx hb dX1_drink_9 (by decide) (fun c1 => ?_) (fun c1 => ?_)
  · have hv0 : ¬ v = 0 := fun z => c1 (by rw [z]; rfl)
    refine W.widen (k := 3) (n := 14) (Nat.le_of_ble_eq_true rfl) (Nat.le_of_ble_eq_true rfl) ?_
    exact tail P (L, S) v H locs ls hC ho hlv (fun z => absurd z hv0) (fun _ => ⟨Or.inl hlv, rfl⟩) hP hD hS hl
  · skip
    have hv0 : v = 0 := (nI_eq (by omega) (by omega)).mp (show nI v = nI 0 from c1)
    subst hv0
    refine lv_aload_n hx hb dX1_drink_12 rfl (lv_at hl 0 rfl) ?_
    refine lv_bipush (v := 8) hx hb dX1_drink_13 (by decide) ?_
    refine lv_iload_n hx hb dX1_drink_15 rfl (lv_at hl 1 rfl) ?_
    refine lv_iconst (v := 0) hx hb dX1_drink_16 (by decide) ?_
    refine lv_iconst (v := 1) hx hb dX1_drink_17 (by decide) ?_
    refine g_calli (va_runV (As := [.int 8, .int v0, .int 0, .int 1]) (rest := []) ⟨hx, hb, hml, hown, hts⟩ (c_move l D tys X L S H.size hX hwf hmx hch 8 v0 (stay := 0) (cnt := 1) (by omega) (Nat.le_refl _) (by omega)) (cwV 4 hts gX1_drink_X1_move rfl rfl rfl (by decide +kernel) ⟨Nat.le_of_ble_eq_true rfl, Nat.le_of_ble_eq_true rfl⟩) (gP_V (va_recv hK hP (ci := 1) rfl (g_inX hX)) hP hK hD gBl_N (fun U _ hW => hG.warm hW)) rfl rfl hl.1 rfl (lv_room (Nat.le_of_ble_eq_true rfl)) dX1_drink_18 ⟨Nat.le_of_ble_eq_true rfl, Nat.le_of_ble_eq_true rfl⟩) hD hS hA (fun r9 u9 H locs hr9 hP hD hS => ?_)
    obtain ⟨w, hlw⟩ := glow_ex (fun j => P j = 8) 5000
    have hcu := hr9.2
    refine lv_pop hx hb dX1_drink_21 rfl ?_
    have hno : ∀ j, 1 ≤ j → j ≤ 5000 → ¬ P j = v0 := by rcases hlv with ⟨-, z⟩ | ⟨z, -⟩; exact z; exact absurd z (by omega)
    rcases Nat.eq_zero_or_pos w with z | z
    · subst z
      have hno8 : ∀ j, 1 ≤ j → j ≤ 5000 → ¬ P j = 8 := by rcases hlw with ⟨-, z⟩ | ⟨z, -⟩; exact z; exact absurd z (by omega)
      have he : gmv P 8 v0 0 1 = P := gmv_none (by decide) ho hno8
      exact tail (gmv P 8 v0 0 1) u9 0 H locs ls hcu (by rw [he]; exact ho) (by rw [he]; exact hlv) (fun _ => ⟨he, hlv, hlw⟩) (fun z => absurd z (by omega)) hP hD hS hl
    · have he : gmv P 8 v0 0 1 = va_up P w v0 := gmv_one (by decide) ho z hlw
      have hw5 := glow_le hlw
      refine tail (gmv P 8 v0 0 1) u9 w H locs ls hcu (by rw [he]; exact fun j hj => by rw [va_up_ne _ _ (by omega)]; exact ho j hj) (by rw [he]; exact Or.inr ⟨z, hw5, va_up_self _ _ _, fun j h1 h2 => by show ¬ va_up P w v0 j = v0; rw [va_up_ne _ _ (by omega)]; exact hno j h1 (by omega)⟩) (fun y => absurd y (by omega)) (fun _ => ⟨Or.inr ⟨hlv, hlw⟩, by rw [he, bx_uu]⟩) hP hD hS hl
set_option maxHeartbeats 4000000 in
set_option maxRecDepth 100000 in
/-- share(from, to, count) -/
theorem c_share (l : Launch) (hl9 : l.stackTraces = false) (D : va_G) (tys : List (ClassId × FieldType)) (X : va_W) (L : List Nat) (S : gS) (sz : Nat) {P : Nat → Int32} {i h0 lo : Nat} {sv rv : Int32} (hX : X[i]? = some (gO h0 lo sv rv)) (hC : gCh P lo (L, S)) (v0 v1 v2 : Int32) : vx_Met l yX1_share wsX1_share ({ frames := 7, cells := 5, slots := 26, locals := 102 } : Room) (gP D tys [.ref h0, .int v0, .int v1, .int v2] (X ++ va_pl L (gE S)) sz (gG (va_A (X ++ va_pl L (gE S)) sz))) (va_Qi (fun (r : Int32) (u : List Nat × gS) => (gGob v0 ∧ gGob v1 ∧ ¬ v0 = v1 ∧ ∃ cn : Nat, 1 ≤ cn ∧ cn ≤ 200 ∧ v2 = nI cn ∧ r = nI (min cn (gct P v0 5000)) ∧ gCh (gmv P v0 v1 (gct P v0 5000 - cn) cn) lo u)) (fun u t => gWd D tys (va_A (X ++ va_pl L (gE S)) sz) (X ++ va_pl u.1 (gE u.2)) t) (va_A (X ++ va_pl L (gE S)) sz)) (gX (fun E (u : List Nat × gS) => ((E = xIOB ∧ ¬ (gGob v0 ∧ gGob v1)) ∨ (E = xIAE ∧ gGob v0 ∧ gGob v1 ∧ (v0 = v1 ∨ ¬ gCnt v2))) ∧ gCh P lo u) (fun u => X ++ va_pl u.1 (gE u.2)) D tys (va_A (X ++ va_pl L (gE S)) sz)) 5 26 (va_A (X ++ va_pl L (gE S)) sz) := by
  refine g_ofX (cc := cX1_share) (maxL := 5) (ret := some .int) (by decide) rfl (Nat.le_of_ble_eq_true rfl) ?_
  intro p e s m below meth c hx hb hr hml hts hown hlocks hout hsz hP hK hD hA hS hGG ls hl
  subst hsz
  have hown : s.vm.findClass RX1 = some m.cls := hown
  have hl : lv_has ls 5 [(0, .ref h0), (1, .int v0), (2, .int v1), (3, .int v2)] := hl
  have hG : gN s := hGG.1
  obtain ⟨g, hch, hwf, hmx⟩ := id hC
  refine lv_iload_n hx hb dX1_share_0 rfl (lv_at hl 1 rfl) ?_
  refine g_xcallv (vx_runS (As := [.int v0]) (rest := []) ⟨hx, hb, hml, hown, hts⟩ (c_chkG l hl9 D tys (X ++ va_pl L (gE S)) s.heap.size v0) (va_cwS 1 hts gX1_share_X1_checkGoblet rfl rfl rfl (by decide +kernel) ⟨Nat.le_of_ble_eq_true rfl, Nat.le_of_ble_eq_true rfl⟩) (gP_S hP hK hD gBl_G (fun U hU hW => gG.call hGG hS (gA_sub hD hS hA) U hU hW)) rfl rfl hl.1 rfl (lv_room (Nat.le_of_ble_eq_true rfl)) dX1_share_1 ⟨Nat.le_of_ble_eq_true rfl, Nat.le_of_ble_eq_true rfl⟩) hD hS hA (fun E ce q9 u H locs hc hP hD hS e1 e2 e3 => g_out hout hlocks hK e1 e2 e3 (Nat.le_of_ble_eq_true rfl) (Nat.le_of_ble_eq_true rfl) (L, S) ⟨Or.inl ⟨hc.1, fun z => hc.2 z.1⟩, hC⟩ hP hD hS) (fun _ H locs hg hP hD hS => ?_)
  refine lv_iload_n hx hb dX1_share_4 rfl (lv_at hl 2 rfl) ?_
  refine g_xcallv (vx_runS (As := [.int v1]) (rest := []) ⟨hx, hb, hml, hown, hts⟩ (c_chkG l hl9 D tys (X ++ va_pl L (gE S)) H.size v1) (va_cwS 1 hts gX1_share_X1_checkGoblet rfl rfl rfl (by decide +kernel) ⟨Nat.le_of_ble_eq_true rfl, Nat.le_of_ble_eq_true rfl⟩) (gP_S hP hK hD gBl_G (fun U hU hW => gG.call hGG hS (gA_sub hD hS hA) U hU hW)) rfl rfl hl.1 rfl (lv_room (Nat.le_of_ble_eq_true rfl)) dX1_share_5 ⟨Nat.le_of_ble_eq_true rfl, Nat.le_of_ble_eq_true rfl⟩) hD hS hA (fun E ce q9 u H locs hc hP hD hS e1 e2 e3 => g_out hout hlocks hK e1 e2 e3 (Nat.le_of_ble_eq_true rfl) (Nat.le_of_ble_eq_true rfl) (L, S) ⟨Or.inl ⟨hc.1, fun z => hc.2 z.2⟩, hC⟩ hP hD hS) (fun _ H locs hg2 hP hD hS => ?_)
  refine lv_iload_n hx hb dX1_share_8 rfl (lv_at hl 1 rfl) ?_
  refine lv_iload_n hx hb dX1_share_9 rfl (lv_at hl 2 rfl) ?_
  refine lv_icmp_ne (tgt := 23) hx hb dX1_share_10 (by decide) (fun c1 => ?_) (fun c1 => ?_)
  · skip
    refine lv_iload_n hx hb dX1_share_23 rfl (lv_at hl 3 rfl) ?_
    refine g_xcallv (vx_runS (As := [.int v2]) (rest := []) ⟨hx, hb, hml, hown, hts⟩ (c_chkC l hl9 D tys (X ++ va_pl L (gE S)) H.size v2) (va_cwS 1 hts gX1_share_X1_checkCount rfl rfl rfl (by decide +kernel) ⟨Nat.le_of_ble_eq_true rfl, Nat.le_of_ble_eq_true rfl⟩) (gP_S hP hK hD gBl_G (fun U hU hW => gG.call hGG hS (gA_sub hD hS hA) U hU hW)) rfl rfl hl.1 rfl (lv_room (Nat.le_of_ble_eq_true rfl)) dX1_share_24 ⟨Nat.le_of_ble_eq_true rfl, Nat.le_of_ble_eq_true rfl⟩) hD hS hA (fun E ce q9 u H locs hc hP hD hS e1 e2 e3 => g_out hout hlocks hK e1 e2 e3 (Nat.le_of_ble_eq_true rfl) (Nat.le_of_ble_eq_true rfl) (L, S) ⟨Or.inr ⟨hc.1, hg, hg2, Or.inr hc.2⟩, hC⟩ hP hD hS) (fun _ H locs hn hP hD hS => ?_)
    obtain ⟨cn, n1, n2, rfl⟩ := hn
    refine lv_iconst (v := 0) hx hb dX1_share_27 (by decide) ?_
    refine lv_aload_n hx hb dX1_share_28 rfl (lv_at hl 0 rfl) ?_
    refine lv_iload_n hx hb dX1_share_29 rfl (lv_at hl 1 rfl) ?_
    refine g_calli (va_runV (As := [.int v0]) (rest := [.int 0]) ⟨hx, hb, hml, hown, hts⟩ (c_numbers l D tys X L S H.size hX hwf hmx hch v0) (cwV 1 hts gX1_share_X1_numbersAt rfl rfl rfl (by decide +kernel) ⟨Nat.le_of_ble_eq_true rfl, Nat.le_of_ble_eq_true rfl⟩) (gP_V (va_recv hK hP (ci := 1) rfl (g_inX hX)) hP hK hD gBl_N (fun U _ hW => hG.warm hW)) rfl rfl hl.1 rfl (lv_room (Nat.le_of_ble_eq_true rfl)) dX1_share_30 ⟨Nat.le_of_ble_eq_true rfl, Nat.le_of_ble_eq_true rfl⟩) hD hS hA (fun r9 u9 H locs hr9 hP hD hS => ?_)
    subst hr9
    have htot := gct_le P v0 5000
    refine lv_iload_n hx hb dX1_share_33 rfl (lv_at hl 3 rfl) ?_
    refine lv_isub hx hb dX1_share_34 ?_
    refine va_mmax hx hb (hml.trans hl.1.symm) hown (hts (.methodLink RX1 63 Lib.Math.max.name) (by decide +kernel)) (hts (.static Lib.Math.max.name) (by decide +kernel)) (hts (.initialized "java/lang/Math") (by decide +kernel)) (hts (.code Lib.Math.max.name Lib.Math.max.code 2 (some .int)) (by decide +kernel)) (Nat.le_of_ble_eq_true rfl) (Nat.le_of_ble_eq_true rfl) (Nat.le_of_ble_eq_true rfl) (Nat.le_of_ble_eq_true rfl) dX1_share_35 ?_
    refine g_top (y := nI (gct P v0 5000 - cn)) (g_max0 htot n2) ?_
    refine lv_istore (lv' := [(4, .int (nI (gct P v0 5000 - cn))), (0, .ref h0), (1, .int v0), (2, .int v1), (3, .int (nI cn))]) hx hb dX1_share_38 hl (by decide) rfl (fun ls hl => ?_)
    refine lv_aload_n hx hb dX1_share_40 rfl (lv_at hl 1 rfl) ?_
    refine lv_iload_n hx hb dX1_share_41 rfl (lv_at hl 2 rfl) ?_
    refine lv_iload_n hx hb dX1_share_42 rfl (lv_at hl 3 rfl) ?_
    refine lv_iload hx hb dX1_share_43 (lv_at hl 0 rfl) ?_
    refine lv_iload_n hx hb dX1_share_45 rfl (lv_at hl 4 rfl) ?_
    refine g_calli (va_runV (As := [.int v0, .int v1, .int (nI (gct P v0 5000 - cn)), .int (nI cn)]) (rest := []) ⟨hx, hb, hml, hown, hts⟩ (c_move l D tys X L S H.size hX hwf hmx hch v0 v1 (stay := gct P v0 5000 - cn) (cnt := cn) (by omega) n1 (by omega)) (cwV 4 hts gX1_share_X1_move rfl rfl rfl (by decide +kernel) ⟨Nat.le_of_ble_eq_true rfl, Nat.le_of_ble_eq_true rfl⟩) (gP_V (va_recv hK hP (ci := 1) rfl (g_inX hX)) hP hK hD gBl_N (fun U _ hW => hG.warm hW)) rfl rfl hl.1 rfl (lv_room (Nat.le_of_ble_eq_true rfl)) dX1_share_46 ⟨Nat.le_of_ble_eq_true rfl, Nat.le_of_ble_eq_true rfl⟩) hD hS hA (fun r9 u9 H locs hr9 hP hD hS => ?_)
    exact vx_ret (g_reti hx hb hr hlocks hK (r9) u9 hP hD hS (Nat.le_of_ble_eq_true rfl) (Nat.le_of_ble_eq_true rfl) (⟨hg, hg2, c1, cn, n1, n2, rfl, by rw [hr9.1]; congr 1; omega, hr9.2⟩) dX1_share_49)
  · skip
    exact g_throw (cls := xIAE) (text := "both goblets are the same") (pc := 13) hx hb hl9 hts hown hlocks hK hGG (hl.1.trans hml.symm) hout (by decide +kernel) xk_share xi_share (by decide +kernel) xin_share xbad_IAE xgood_IAE dX1_share_13 dX1_share_16 dX1_share_17 dX1_share_19 dX1_share_22 ⟨Nat.le_of_ble_eq_true rfl, Nat.le_of_ble_eq_true rfl, Nat.le_of_ble_eq_true rfl, Nat.le_of_ble_eq_true rfl⟩ (Nat.le_of_ble_eq_true rfl) (Nat.le_of_ble_eq_true rfl) (L, S) (⟨Or.inr ⟨rfl, hg, hg2, Or.inl c1⟩, hC⟩) hP hD hS
set_option maxHeartbeats 4000000 in
set_option maxRecDepth 100000 in
/-- giveBack(number) -/
theorem c_giveBack (l : Launch) (hl9 : l.stackTraces = false) (D : va_G) (tys : List (ClassId × FieldType)) (X : va_W) (L : List Nat) (S : gS) (sz : Nat) {P : Nat → Int32} {i h0 lo : Nat} {sv rv : Int32} (hX : X[i]? = some (gO h0 lo sv rv)) (hC : gCh P lo (L, S)) (v0 : Int32) (ho : gOut P) : vx_Met l yX1_giveBack wsX1_giveBack ({ frames := 6, cells := 3, slots := 14, locals := 90 } : Room) (gP D tys [.ref h0, .int v0] (X ++ va_pl L (gE S)) sz (gG (va_A (X ++ va_pl L (gE S)) sz))) (va_Qi (fun (r : Int32) (u : List Nat × gS) => (∃ j : Nat, 1 ≤ j ∧ j ≤ 5000 ∧ v0 = nI j ∧ P j = 9 ∧ r = nI (gct (va_up P j 8) 8 5000) ∧ gCh (va_up P j 8) lo u)) (fun u t => gWd D tys (va_A (X ++ va_pl L (gE S)) sz) (X ++ va_pl u.1 (gE u.2)) t) (va_A (X ++ va_pl L (gE S)) sz)) (gX (fun E (u : List Nat × gS) => (E = xISE ∧ ∀ j : Nat, 1 ≤ j → j ≤ 5000 → v0 = nI j → ¬ P j = 9) ∧ gCh P lo u) (fun u => X ++ va_pl u.1 (gE u.2)) D tys (va_A (X ++ va_pl L (gE S)) sz)) 3 14 (va_A (X ++ va_pl L (gE S)) sz) := by
  refine g_ofX (cc := cX1_giveBack) (maxL := 2) (ret := some .int) (by decide) rfl (Nat.le_of_ble_eq_true rfl) ?_
  intro p e s m below meth c hx hb hr hml hts hown hlocks hout hsz hP hK hD hA hS hGG ls hl
  subst hsz
  have hown : s.vm.findClass RX1 = some m.cls := hown
  have hl : lv_has ls 2 [(0, .ref h0), (1, .int v0)] := hl
  have hG : gN s := hGG.1
  obtain ⟨g, hch, hwf, hmx⟩ := id hC
  refine lv_aload_n hx hb dX1_giveBack_0 rfl (lv_at hl 0 rfl) ?_
  refine lv_iload_n hx hb dX1_giveBack_1 rfl (lv_at hl 1 rfl) ?_
  refine g_calli (va_runV (As := [.int v0]) (rest := []) ⟨hx, hb, hml, hown, hts⟩ (c_place l D tys X L S s.heap.size hX hwf hmx hch v0) (cwV 1 hts gX1_giveBack_X1_placeOf rfl rfl rfl (by decide +kernel) ⟨Nat.le_of_ble_eq_true rfl, Nat.le_of_ble_eq_true rfl⟩) (gP_V (va_recv hK hP (ci := 1) rfl (g_inX hX)) hP hK hD gBl_N (fun U _ hW => hG.warm hW)) rfl rfl hl.1 rfl (lv_room (Nat.le_of_ble_eq_true rfl)) dX1_giveBack_2 ⟨Nat.le_of_ble_eq_true rfl, Nat.le_of_ble_eq_true rfl⟩) hD hS hA (fun r9 u9 H locs hr9 hP hD hS => ?_)
  refine lv_bipush (v := 9) hx hb dX1_giveBack_5 (by decide) ?_
  refine lv_icmp_eq (tgt := 20) hx hb dX1_giveBack_7 (by decide) (fun c1 => ?_) (fun c1 => ?_)
  · subst c1
    obtain ⟨j, j1, j2, rfl, j3⟩ : ∃ j : Nat, 1 ≤ j ∧ j ≤ 5000 ∧ v0 = nI j ∧ 9 = P j := by rcases hr9 with z | ⟨z, -⟩; exact z; exact absurd z (by decide)
    have j3 := j3.symm
    refine lv_aload_n hx hb dX1_giveBack_20 rfl (lv_at hl 0 rfl) ?_
    refine lv_bipush (v := 9) hx hb dX1_giveBack_21 (by decide) ?_
    refine lv_bipush (v := 8) hx hb dX1_giveBack_23 (by decide) ?_
    refine lv_aload_n hx hb dX1_giveBack_25 rfl (lv_at hl 0 rfl) ?_
    refine lv_bipush (v := 9) hx hb dX1_giveBack_26 (by decide) ?_
    refine lv_iload_n hx hb dX1_giveBack_28 rfl (lv_at hl 1 rfl) ?_
    refine g_calli (va_runV (As := [.int 9, .int (nI j)]) (rest := [.int 8, .int 9, .ref h0]) ⟨hx, hb, hml, hown, hts⟩ (c_nab l D tys X L S H.size hX hwf hmx hch 9 (nu := j) j1 (by omega)) (cwV 2 hts gX1_giveBack_X1_numbersAtBelow rfl rfl rfl (by decide +kernel) ⟨Nat.le_of_ble_eq_true rfl, Nat.le_of_ble_eq_true rfl⟩) (gP_V (va_recv hK hP (ci := 1) rfl (g_inX hX)) hP hK hD gBl_N (fun U _ hW => hG.warm hW)) rfl rfl hl.1 rfl (lv_room (Nat.le_of_ble_eq_true rfl)) dX1_giveBack_29 ⟨Nat.le_of_ble_eq_true rfl, Nat.le_of_ble_eq_true rfl⟩) hD hS hA (fun r8 u9 H locs hr8 hP hD hS => ?_)
    subst hr8
    have hle := gct_le P 9 (j - 1)
    refine lv_iconst (v := 1) hx hb dX1_giveBack_32 (by decide) ?_
    refine g_calli (va_runV (As := [.int 9, .int 8, .int (nI (gct P 9 (j - 1))), .int 1]) (rest := []) ⟨hx, hb, hml, hown, hts⟩ (c_move l D tys X L S H.size hX hwf hmx hch 9 8 (stay := gct P 9 (j - 1)) (cnt := 1) (by omega) (Nat.le_refl _) (by omega)) (cwV 4 hts gX1_giveBack_X1_move rfl rfl rfl (by decide +kernel) ⟨Nat.le_of_ble_eq_true rfl, Nat.le_of_ble_eq_true rfl⟩) (gP_V (va_recv hK hP (ci := 1) rfl (g_inX hX)) hP hK hD gBl_N (fun U _ hW => hG.warm hW)) rfl rfl hl.1 rfl (lv_room (Nat.le_of_ble_eq_true rfl)) dX1_giveBack_33 ⟨Nat.le_of_ble_eq_true rfl, Nat.le_of_ble_eq_true rfl⟩) hD hS hA (fun r7 u9 H locs hr7 hP hD hS => ?_)
    obtain ⟨L1, S1⟩ := u9
    have hcu := hr7.2
    rw [gmv_back (by decide) ho j3] at hcu
    have hC1 : gCh (va_up P j 8) lo (L1, S1) := hcu
    obtain ⟨g1, hch1, hwf1, hmx1⟩ := hcu
    refine lv_pop hx hb dX1_giveBack_36 rfl ?_
    refine lv_aload_n hx hb dX1_giveBack_37 rfl (lv_at hl 0 rfl) ?_
    refine lv_bipush (v := 8) hx hb dX1_giveBack_38 (by decide) ?_
    refine g_calli (va_runV (As := [.int 8]) (rest := []) ⟨hx, hb, hml, hown, hts⟩ (c_numbers l D tys X L1 S1 H.size hX hwf1 hmx1 hch1 8) (cwV 1 hts gX1_giveBack_X1_numbersAt rfl rfl rfl (by decide +kernel) ⟨Nat.le_of_ble_eq_true rfl, Nat.le_of_ble_eq_true rfl⟩) (gP_V (va_recv hK hP (ci := 1) rfl (g_inX hX)) hP hK hD gBl_N (fun U _ hW => hG.warm hW)) rfl rfl hl.1 rfl (lv_room (Nat.le_of_ble_eq_true rfl)) dX1_giveBack_40 ⟨Nat.le_of_ble_eq_true rfl, Nat.le_of_ble_eq_true rfl⟩) hD hS hA (fun r6 u9 H locs hr6 hP hD hS => ?_)
    exact vx_ret (g_reti hx hb hr hlocks hK (r6) (L1, S1) hP hD hS (Nat.le_of_ble_eq_true rfl) (Nat.le_of_ble_eq_true rfl) (⟨j, j1, j2, rfl, j3, hr6, hC1⟩) dX1_giveBack_43)
  · have hno : ∀ j : Nat, 1 ≤ j → j ≤ 5000 → v0 = nI j → ¬ P j = 9 := by
      intro j h1 h2 h3 h4
      rcases hr9 with ⟨j2, y1, y2, y3, y4⟩ | ⟨-, z⟩
      · have : j = j2 := (nI_eq (by omega) (by omega)).mp (h3.symm.trans y3)
        subst this; exact c1 (y4.trans h4)
      · exact z j h1 h2 h3
    exact g_throw (cls := xISE) (text := "the number is not drunk") (pc := 10) hx hb hl9 hts hown hlocks hK hGG (hl.1.trans hml.symm) hout (by decide +kernel) xk_giveBack xi_giveBack (by decide +kernel) xin_giveBack xbad_ISE xgood_ISE dX1_giveBack_10 dX1_giveBack_13 dX1_giveBack_14 dX1_giveBack_16 dX1_giveBack_19 ⟨Nat.le_of_ble_eq_true rfl, Nat.le_of_ble_eq_true rfl, Nat.le_of_ble_eq_true rfl, Nat.le_of_ble_eq_true rfl⟩ (Nat.le_of_ble_eq_true rfl) (Nat.le_of_ble_eq_true rfl) (L, S) (⟨⟨rfl, hno⟩, hC⟩) hP hD hS
set_option maxHeartbeats 4000000 in
set_option maxRecDepth 100000 in
/-- nextRound() -/
theorem c_nextRound (l : Launch) (hl9 : l.stackTraces = false) (D : va_G) (tys : List (ClassId × FieldType)) (X : va_W) (L : List Nat) (S : gS) (sz : Nat) {P : Nat → Int32} {i h0 lo : Nat} {sv rv : Int32} (hX : X[i]? = some (gO h0 lo sv rv)) (hC : gCh P lo (L, S)) {n : Nat} (hsv : sv = nI n) (hn : n ≤ 5000) : vx_Met l yX1_nextRound wsX1_nextRound ({ frames := 6, cells := 4, slots := 16, locals := 110 } : Room) (gP D tys [.ref h0] (X ++ va_pl L (gE S)) sz (gG (va_A (X ++ va_pl L (gE S)) sz))) (va_Qi (fun (r : Int32) (u : List Nat × gS) => (gct P 9 5000 + gct P 10 5000 = n ∧ r = rv + 1 ∧ gCh (gmv (gmv P 9 8 0 5000) 10 8 0 5000) lo u)) (fun u t => gWd D tys (va_A (X ++ va_pl L (gE S)) sz) ((X.set i (gO h0 lo sv (rv + 1))) ++ va_pl u.1 (gE u.2)) t) (va_A (X ++ va_pl L (gE S)) sz)) (gX (fun E (u : List Nat × gS) => (E = xISE ∧ ¬ gct P 9 5000 + gct P 10 5000 = n) ∧ gCh P lo u) (fun u => X ++ va_pl u.1 (gE u.2)) D tys (va_A (X ++ va_pl L (gE S)) sz)) 4 16 (va_A (X ++ va_pl L (gE S)) sz) := by
  refine g_ofX (cc := cX1_nextRound) (maxL := 1) (ret := some .int) (by decide) rfl (Nat.le_of_ble_eq_true rfl) ?_
  intro p e s m below meth c hx hb hr hml hts hown hlocks hout hsz hP hK hD hA hS hGG ls hl
  subst hsz
  have hown : s.vm.findClass RX1 = some m.cls := hown
  have hl : lv_has ls 1 [(0, .ref h0)] := hl
  have hG : gN s := hGG.1
  obtain ⟨g, hch, hwf, hmx⟩ := id hC
  have h9 := gct_le P 9 5000
  have h10 := gct_le P 10 5000
  refine lv_aload_n hx hb dX1_nextRound_0 rfl (lv_at hl 0 rfl) ?_
  refine lv_bipush (v := 9) hx hb dX1_nextRound_1 (by decide) ?_
  refine g_calli (va_runV (As := [.int 9]) (rest := []) ⟨hx, hb, hml, hown, hts⟩ (c_numbers l D tys X L S s.heap.size hX hwf hmx hch 9) (cwV 1 hts gX1_nextRound_X1_numbersAt rfl rfl rfl (by decide +kernel) ⟨Nat.le_of_ble_eq_true rfl, Nat.le_of_ble_eq_true rfl⟩) (gP_V (va_recv hK hP (ci := 1) rfl (g_inX hX)) hP hK hD gBl_N (fun U _ hW => hG.warm hW)) rfl rfl hl.1 rfl (lv_room (Nat.le_of_ble_eq_true rfl)) dX1_nextRound_3 ⟨Nat.le_of_ble_eq_true rfl, Nat.le_of_ble_eq_true rfl⟩) hD hS hA (fun r9 u9 H locs hr9 hP hD hS => ?_)
  subst hr9
  refine lv_aload_n hx hb dX1_nextRound_6 rfl (lv_at hl 0 rfl) ?_
  refine lv_bipush (v := 10) hx hb dX1_nextRound_7 (by decide) ?_
  refine g_calli (va_runV (As := [.int 10]) (rest := [.int (nI (gct P 9 5000))]) ⟨hx, hb, hml, hown, hts⟩ (c_numbers l D tys X L S H.size hX hwf hmx hch 10) (cwV 1 hts gX1_nextRound_X1_numbersAt rfl rfl rfl (by decide +kernel) ⟨Nat.le_of_ble_eq_true rfl, Nat.le_of_ble_eq_true rfl⟩) (gP_V (va_recv hK hP (ci := 1) rfl (g_inX hX)) hP hK hD gBl_N (fun U _ hW => hG.warm hW)) rfl rfl hl.1 rfl (lv_room (Nat.le_of_ble_eq_true rfl)) dX1_nextRound_9 ⟨Nat.le_of_ble_eq_true rfl, Nat.le_of_ble_eq_true rfl⟩) hD hS hA (fun r8 u8 H locs hr8 hP hD hS => ?_)
  subst hr8
  refine lv_iadd hx hb dX1_nextRound_12 ?_
  refine g_top (y := nI (gct P 9 5000 + gct P 10 5000)) (nI_add _ _) ?_
  refine lv_aload_n hx hb dX1_nextRound_13 rfl (lv_at hl 0 rfl) ?_
  refine va_get (D := D) (ci := 1) (v := .int sv) (C := RX1) (T := TX1) (N := 3) hx hb hts i1_nextRound hown hK hP i (g_inX hX) rfl 1 (by decide) (hts (.fieldLink RX1 18 "NumberGoblets" "size" "I") (by decide +kernel)) (fun _ h9 => h9) rfl dX1_nextRound_14 ?_
  refine lv_icmp_eq (tgt := 30) hx hb dX1_nextRound_17 (by decide) (fun c1 => ?_) (fun c1 => ?_)
  · have heq : gct P 9 5000 + gct P 10 5000 = n := (nI_eq (by omega) (by omega)).mp (c1.trans hsv)
    refine lv_aload_n hx hb dX1_nextRound_30 rfl (lv_at hl 0 rfl) ?_
    refine lv_bipush (v := 9) hx hb dX1_nextRound_31 (by decide) ?_
    refine lv_bipush (v := 8) hx hb dX1_nextRound_33 (by decide) ?_
    refine g_calli (va_runV (As := [.int 9, .int 8]) (rest := []) ⟨hx, hb, hml, hown, hts⟩ (c_moveAll l D tys X L S H.size hX hwf hmx hch 9 8) (cwV 2 hts gX1_nextRound_X1_moveAll rfl rfl rfl (by decide +kernel) ⟨Nat.le_of_ble_eq_true rfl, Nat.le_of_ble_eq_true rfl⟩) (gP_V (va_recv hK hP (ci := 1) rfl (g_inX hX)) hP hK hD gBl_N (fun U _ hW => hG.warm hW)) rfl rfl hl.1 rfl (lv_room (Nat.le_of_ble_eq_true rfl)) dX1_nextRound_35 ⟨Nat.le_of_ble_eq_true rfl, Nat.le_of_ble_eq_true rfl⟩) hD hS hA (fun r7 u7 H locs hr7 hP hD hS => ?_)
    obtain ⟨L1, S1⟩ := u7
    obtain ⟨g1, hch1, hwf1, hmx1⟩ := hr7.2
    refine lv_pop hx hb dX1_nextRound_38 rfl ?_
    refine lv_aload_n hx hb dX1_nextRound_39 rfl (lv_at hl 0 rfl) ?_
    refine lv_bipush (v := 10) hx hb dX1_nextRound_40 (by decide) ?_
    refine lv_bipush (v := 8) hx hb dX1_nextRound_42 (by decide) ?_
    refine g_calli (va_runV (As := [.int 10, .int 8]) (rest := []) ⟨hx, hb, hml, hown, hts⟩ (c_moveAll l D tys X L1 S1 H.size hX hwf1 hmx1 hch1 10 8) (cwV 2 hts gX1_nextRound_X1_moveAll rfl rfl rfl (by decide +kernel) ⟨Nat.le_of_ble_eq_true rfl, Nat.le_of_ble_eq_true rfl⟩) (gP_V (va_recv hK hP (ci := 1) rfl (g_inX hX)) hP hK hD gBl_N (fun U _ hW => hG.warm hW)) rfl rfl hl.1 rfl (lv_room (Nat.le_of_ble_eq_true rfl)) dX1_nextRound_44 ⟨Nat.le_of_ble_eq_true rfl, Nat.le_of_ble_eq_true rfl⟩) hD hS hA (fun r6 u6 H locs hr6 hP hD hS => ?_)
    refine lv_pop hx hb dX1_nextRound_47 rfl ?_
    refine lv_aload_n hx hb dX1_nextRound_48 rfl (lv_at hl 0 rfl) ?_
    refine lv_dup hx hb dX1_nextRound_49 rfl ?_
    refine va_get (D := D) (ci := 1) (v := .int rv) (C := RX1) (T := TX1) (N := 3) hx hb hts i1_nextRound hown hK hP i (g_inX hX) rfl 2 (by decide) (hts (.fieldLink RX1 22 "NumberGoblets" "round" "I") (by decide +kernel)) (fun _ h9 => h9) rfl dX1_nextRound_50 ?_
    refine lv_iconst (v := 1) hx hb dX1_nextRound_53 (by decide) ?_
    refine lv_iadd hx hb dX1_nextRound_54 ?_
    refine va_put (D := D) (ci := 1) (v := .int (rv + 1)) (ty := .int) (C := RX1) (T := TX1) (N := 3) hx hb hts i1_nextRound tyX1 tyX1_ok nmX1 hown hK hP hD hS i (g_inX hX) rfl 2 (by decide) (hts (.fieldLink RX1 22 "NumberGoblets" "round" "I") (by decide +kernel)) (fun _ h9 => h9) rfl (by decide +kernel) rfl rfl (Nat.le_of_ble_eq_true rfl) dX1_nextRound_55 (fun H locs hP2 hD2 hS => ?_)
    have hw : (X ++ va_pl u6.1 (gE u6.2)).set i (gO h0 lo sv (rv + 1)) = X.set i (gO h0 lo sv (rv + 1)) ++ va_pl u6.1 (gE u6.2) := g_setX hX
    have hP := g_eqP hw hP2
    have hD := g_eqD hw hD2
    have hX2 : (X.set i (gO h0 lo sv (rv + 1)))[i]? = some (gO h0 lo sv (rv + 1)) := g_setX2 hX
    refine lv_aload_n hx hb dX1_nextRound_58 rfl (lv_at hl 0 rfl) ?_
    refine va_get (D := D) (ci := 1) (v := .int (rv + 1)) (C := RX1) (T := TX1) (N := 3) hx hb hts i1_nextRound hown hK hP i (g_inX hX2) rfl 2 (by decide) (hts (.fieldLink RX1 22 "NumberGoblets" "round" "I") (by decide +kernel)) (fun _ h9 => h9) rfl dX1_nextRound_59 ?_
    exact vx_ret (g_reti hx hb hr hlocks hK (rv + 1) u6 hP hD hS (Nat.le_of_ble_eq_true rfl) (Nat.le_of_ble_eq_true rfl) (⟨heq, rfl, hr6.2⟩) dX1_nextRound_62)
  · skip
    exact g_throw (cls := xISE) (text := "the jug or some goblet is not empty") (pc := 20) hx hb hl9 hts hown hlocks hK hGG (hl.1.trans hml.symm) hout (by decide +kernel) xk_nextRound xi_nextRound (by decide +kernel) xin_nextRound xbad_ISE xgood_ISE dX1_nextRound_20 dX1_nextRound_23 dX1_nextRound_24 dX1_nextRound_26 dX1_nextRound_29 ⟨Nat.le_of_ble_eq_true rfl, Nat.le_of_ble_eq_true rfl, Nat.le_of_ble_eq_true rfl, Nat.le_of_ble_eq_true rfl⟩ (Nat.le_of_ble_eq_true rfl) (Nat.le_of_ble_eq_true rfl) (L, S) (⟨⟨rfl, fun z => c1 (by rw [z, hsv])⟩, hC⟩) hP hD hS
set_option maxHeartbeats 4000000 in
set_option maxRecDepth 100000 in
/-- enlarge(size) -/
theorem c_enlarge (l : Launch) (hl9 : l.stackTraces = false) (D : va_G) (tys : List (ClassId × FieldType)) (X : va_W) (L : List Nat) (S : gS) (sz : Nat) {P : Nat → Int32} {i h0 lo : Nat} {sv rv : Int32} (hX : X[i]? = some (gO h0 lo sv rv)) (hC : gCh P lo (L, S)) (v0 : Int32) {n : Nat} (hsv : sv = nI n) (hn : n ≤ 5000) : vx_Met l yX1_enlarge wsX1_enlarge ({ frames := 6, cells := 3, slots := 14, locals := 90 } : Room) (gP D tys [.ref h0, .int v0] (X ++ va_pl L (gE S)) sz (gG (va_A (X ++ va_pl L (gE S)) sz))) (va_Qi (fun (r : Int32) (u : List Nat × gS) => (∃ vn : Nat, n < vn ∧ vn ≤ 5000 ∧ v0 = nI vn ∧ r = nI (gct (gmv P (-1) 8 0 (vn - n)) 8 5000) ∧ gCh (gmv P (-1) 8 0 (vn - n)) lo u)) (fun u t => gWd D tys (va_A (X ++ va_pl L (gE S)) sz) ((X.set i (gO h0 lo v0 rv)) ++ va_pl u.1 (gE u.2)) t) (va_A (X ++ va_pl L (gE S)) sz)) (gX (fun E (u : List Nat × gS) => (E = xIAE ∧ ¬ ∃ vn : Nat, n < vn ∧ vn ≤ 5000 ∧ v0 = nI vn) ∧ gCh P lo u) (fun u => X ++ va_pl u.1 (gE u.2)) D tys (va_A (X ++ va_pl L (gE S)) sz)) 3 14 (va_A (X ++ va_pl L (gE S)) sz) := by
  refine g_ofX (cc := cX1_enlarge) (maxL := 2) (ret := some .int) (by decide) rfl (Nat.le_of_ble_eq_true rfl) ?_
  intro p e s m below meth c hx hb hr hml hts hown hlocks hout hsz hP hK hD hA hS hGG ls hl
  subst hsz
  have hown : s.vm.findClass RX1 = some m.cls := hown
  have hl : lv_has ls 2 [(0, .ref h0), (1, .int v0)] := hl
  have hG : gN s := hGG.1
  obtain ⟨g, hch, hwf, hmx⟩ := id hC
  refine lv_iload_n hx hb dX1_enlarge_0 rfl (lv_at hl 1 rfl) ?_
  refine lv_aload_n hx hb dX1_enlarge_1 rfl (lv_at hl 0 rfl) ?_
  refine va_get (D := D) (ci := 1) (v := .int sv) (C := RX1) (T := TX1) (N := 3) hx hb hts i1_enlarge hown hK hP i (g_inX hX) rfl 1 (by decide) (hts (.fieldLink RX1 18 "NumberGoblets" "size" "I") (by decide +kernel)) (fun _ h9 => h9) rfl dX1_enlarge_2 ?_
  refine lv_icmp_le (tgt := 15) hx hb dX1_enlarge_5 (by decide) (fun c1 => ?_) (fun c1 => ?_)
  · have hno : ¬ ∃ vn : Nat, n < vn ∧ vn ≤ 5000 ∧ v0 = nI vn := fun ⟨vn, h1, h2, h3⟩ => by rw [h3, hsv] at c1; exact nI_ge h1 (by omega) c1
    exact g_throw (cls := xIAE) (text := "the size is not above the old one and up to 5000") (pc := 15) hx hb hl9 hts hown hlocks hK hGG (hl.1.trans hml.symm) hout (by decide +kernel) xk_enlarge xi_enlarge (by decide +kernel) xin_enlarge xbad_IAE xgood_IAE dX1_enlarge_15 dX1_enlarge_18 dX1_enlarge_19 dX1_enlarge_21 dX1_enlarge_24 ⟨Nat.le_of_ble_eq_true rfl, Nat.le_of_ble_eq_true rfl, Nat.le_of_ble_eq_true rfl, Nat.le_of_ble_eq_true rfl⟩ (Nat.le_of_ble_eq_true rfl) (Nat.le_of_ble_eq_true rfl) (L, S) (⟨⟨rfl, hno⟩, hC⟩) hP hD hS
  · skip
    refine lv_iload_n hx hb dX1_enlarge_8 rfl (lv_at hl 1 rfl) ?_
    refine lv_sipush (v := 5000) hx hb dX1_enlarge_9 (by decide) ?_
    refine lv_icmp_le (tgt := 25) hx hb dX1_enlarge_12 (by decide) (fun c2 => ?_) (fun c2 => ?_)
    · have h0v : ¬ v0 < 0 := fun q => c1 (by rw [hsv, Int32.le_iff_toInt_le, nI_toInt (by omega)]; rw [Int32.lt_iff_toInt_lt] at q; have z0 : (0 : Int32).toInt = 0 := rfl; omega)
      obtain ⟨vn, hvn, rfl⟩ := nI_of h0v
      have hv2 : vn ≤ 5000 := (nI_leI hvn (by omega)).mp c2
      have hv1 : n < vn := by rcases Nat.lt_or_ge n vn with q | q; exact q; exact absurd (by rw [hsv]; exact nI_le q (by omega)) c1
      refine lv_aload_n hx hb dX1_enlarge_25 rfl (lv_at hl 0 rfl) ?_
      refine lv_iconst (v := -1) hx hb dX1_enlarge_26 (by decide) ?_
      refine lv_bipush (v := 8) hx hb dX1_enlarge_27 (by decide) ?_
      refine lv_iconst (v := 0) hx hb dX1_enlarge_29 (by decide) ?_
      refine lv_iload_n hx hb dX1_enlarge_30 rfl (lv_at hl 1 rfl) ?_
      refine lv_aload_n hx hb dX1_enlarge_31 rfl (lv_at hl 0 rfl) ?_
      refine va_get (D := D) (ci := 1) (v := .int sv) (C := RX1) (T := TX1) (N := 3) hx hb hts i1_enlarge hown hK hP i (g_inX hX) rfl 1 (by decide) (hts (.fieldLink RX1 18 "NumberGoblets" "size" "I") (by decide +kernel)) (fun _ h9 => h9) rfl dX1_enlarge_32 ?_
      refine lv_isub hx hb dX1_enlarge_35 ?_
      refine g_top (y := nI (vn - n)) (by rw [hsv]; exact pk_sub (by omega)) ?_
      refine g_calli (va_runV (As := [.int (-1), .int 8, .int 0, .int (nI (vn - n))]) (rest := []) ⟨hx, hb, hml, hown, hts⟩ (c_move l D tys X L S s.heap.size hX hwf hmx hch (-1) 8 (stay := 0) (cnt := vn - n) (by omega) (by omega) (by omega)) (cwV 4 hts gX1_enlarge_X1_move rfl rfl rfl (by decide +kernel) ⟨Nat.le_of_ble_eq_true rfl, Nat.le_of_ble_eq_true rfl⟩) (gP_V (va_recv hK hP (ci := 1) rfl (g_inX hX)) hP hK hD gBl_N (fun U _ hW => hG.warm hW)) rfl rfl hl.1 rfl (lv_room (Nat.le_of_ble_eq_true rfl)) dX1_enlarge_36 ⟨Nat.le_of_ble_eq_true rfl, Nat.le_of_ble_eq_true rfl⟩) hD hS hA (fun r9 u9 H locs hr9 hP hD hS => ?_)
      obtain ⟨L1, S1⟩ := u9
      have hcu := hr9.2
      have hC1 : gCh (gmv P (-1) 8 0 (vn - n)) lo (L1, S1) := hcu
      obtain ⟨g1, hch1, hwf1, hmx1⟩ := hcu
      refine lv_pop hx hb dX1_enlarge_39 rfl ?_
      refine lv_aload_n hx hb dX1_enlarge_40 rfl (lv_at hl 0 rfl) ?_
      refine lv_iload_n hx hb dX1_enlarge_41 rfl (lv_at hl 1 rfl) ?_
      refine va_put (D := D) (ci := 1) (v := .int (nI vn)) (ty := .int) (C := RX1) (T := TX1) (N := 3) hx hb hts i1_enlarge tyX1 tyX1_ok nmX1 hown hK hP hD hS i (g_inX hX) rfl 1 (by decide) (hts (.fieldLink RX1 18 "NumberGoblets" "size" "I") (by decide +kernel)) (fun _ h9 => h9) rfl (by decide +kernel) rfl rfl (Nat.le_of_ble_eq_true rfl) dX1_enlarge_42 (fun H locs hP2 hD2 hS => ?_)
      have hw : (X ++ va_pl L1 (gE S1)).set i (gO h0 lo (nI vn) rv) = X.set i (gO h0 lo (nI vn) rv) ++ va_pl L1 (gE S1) := g_setX hX
      have hP := g_eqP hw hP2
      have hD := g_eqD hw hD2
      have hX : (X.set i (gO h0 lo (nI vn) rv))[i]? = some (gO h0 lo (nI vn) rv) := g_setX2 hX
      refine lv_aload_n hx hb dX1_enlarge_45 rfl (lv_at hl 0 rfl) ?_
      refine lv_bipush (v := 8) hx hb dX1_enlarge_46 (by decide) ?_
      refine g_calli (va_runV (As := [.int 8]) (rest := []) ⟨hx, hb, hml, hown, hts⟩ (c_numbers l D tys (X.set i (gO h0 lo (nI vn) rv)) L1 S1 H.size hX hwf1 hmx1 hch1 8) (cwV 1 hts gX1_enlarge_X1_numbersAt rfl rfl rfl (by decide +kernel) ⟨Nat.le_of_ble_eq_true rfl, Nat.le_of_ble_eq_true rfl⟩) (gP_V (va_recv hK hP (ci := 1) rfl (g_inX hX)) hP hK hD gBl_N (fun U _ hW => hG.warm hW)) rfl rfl hl.1 rfl (lv_room (Nat.le_of_ble_eq_true rfl)) dX1_enlarge_48 ⟨Nat.le_of_ble_eq_true rfl, Nat.le_of_ble_eq_true rfl⟩) hD hS hA (fun r8 u9 H locs hr8 hP hD hS => ?_)
      exact vx_ret (g_reti hx hb hr hlocks hK (r8) (L1, S1) hP hD hS (Nat.le_of_ble_eq_true rfl) (Nat.le_of_ble_eq_true rfl) (⟨vn, hv1, hv2, rfl, hr8, hC1⟩) dX1_enlarge_51)
    · have hno : ¬ ∃ vn : Nat, n < vn ∧ vn ≤ 5000 ∧ v0 = nI vn := fun ⟨vn, h1, h2, h3⟩ => c2 (by rw [h3]; exact (show nI vn ≤ nI 5000 from nI_le h2 (by omega)))
      exact g_throw (cls := xIAE) (text := "the size is not above the old one and up to 5000") (pc := 15) hx hb hl9 hts hown hlocks hK hGG (hl.1.trans hml.symm) hout (by decide +kernel) xk_enlarge xi_enlarge (by decide +kernel) xin_enlarge xbad_IAE xgood_IAE dX1_enlarge_15 dX1_enlarge_18 dX1_enlarge_19 dX1_enlarge_21 dX1_enlarge_24 ⟨Nat.le_of_ble_eq_true rfl, Nat.le_of_ble_eq_true rfl, Nat.le_of_ble_eq_true rfl, Nat.le_of_ble_eq_true rfl⟩ (Nat.le_of_ble_eq_true rfl) (Nat.le_of_ble_eq_true rfl) (L, S) (⟨⟨rfl, hno⟩, hC⟩) hP hD hS
set_option maxHeartbeats 4000000 in
set_option maxRecDepth 100000 in
/-- rangeFrom(range) -/
theorem c_rangeFrom (l : Launch) (hl9 : l.stackTraces = false) (D : va_G) (tys : List (ClassId × FieldType)) (X : va_W) (L : List Nat) (S : gS) (sz : Nat) {P : Nat → Int32} {i h0 lo : Nat} {sv rv : Int32} (hX : X[i]? = some (gO h0 lo sv rv)) (hC : gCh P lo (L, S)) (v0 : Int32) (h00 : P 0 = -1) (h51 : P 5001 = -1) : vx_Met l yX1_rangeFrom wsX1_rangeFrom ({ frames := 6, cells := 1, slots := 6, locals := 82 } : Room) (gP D tys [.ref h0, .int v0] (X ++ va_pl L (gE S)) sz (gG (va_A (X ++ va_pl L (gE S)) sz))) (va_Qi (fun (r : Int32) (u : List Nat × gS) => (∃ v : Nat, 1 ≤ v ∧ v ≤ 5000 ∧ r = nI v ∧ P v = 8 ∧ ¬ P (v - 1) = 8 ∧ v0 = nI (gbg P 8 (v - 1))) ∧ gCh P lo u) (fun u t => gWd D tys (va_A (X ++ va_pl L (gE S)) sz) (X ++ va_pl u.1 (gE u.2)) t) (va_A (X ++ va_pl L (gE S)) sz)) (gX (fun E (u : List Nat × gS) => (E = xIOB ∧ ∀ j, 1 ≤ j → j ≤ 5000 → P j = 8 → ¬ P (j - 1) = 8 → ¬ v0 = nI (gbg P 8 (j - 1))) ∧ gCh P lo u) (fun u => X ++ va_pl u.1 (gE u.2)) D tys (va_A (X ++ va_pl L (gE S)) sz)) 1 6 (va_A (X ++ va_pl L (gE S)) sz) := by
  refine g_ofX (cc := cX1_rangeFrom) (maxL := 3) (ret := some .int) (by decide) rfl (Nat.le_of_ble_eq_true rfl) ?_
  intro p e s m below meth c hx hb hr hml hts hown hlocks hout hsz hP hK hD hA hS hGG ls hl
  subst hsz
  have hown : s.vm.findClass RX1 = some m.cls := hown
  have hl : lv_has ls 3 [(0, .ref h0), (1, .int v0)] := hl
  have hG : gN s := hGG.1
  obtain ⟨g, hch, hwf, hmx⟩ := id hC
  have hi0 := i0_rangeFrom
  obtain ⟨⟨nf_first, nf_last, nf_place, nf_next⟩, -⟩ := id hG
  have f_first := va_Nw.use (A := ([.ref h0, .int v0] : List Value).toArray) rfl nf_first
  refine lv_aload_n hx hb dX1_rangeFrom_0 rfl (lv_at hl 0 rfl) ?_
  refine lv_iload_n hx hb dX1_rangeFrom_1 rfl (lv_at hl 1 rfl) ?_
  refine g_callq (va_runV (As := [.int v0]) (rest := []) ⟨hx, hb, hml, hown, hts⟩ (c_jug l D tys X L S s.heap.size hX hwf hmx hch v0 h00 h51) (cwV 1 hts gX1_rangeFrom_X1_rangeOfJug rfl rfl rfl (by decide +kernel) ⟨Nat.le_of_ble_eq_true rfl, Nat.le_of_ble_eq_true rfl⟩) (gP_V (va_recv hK hP (ci := 1) rfl (g_inX hX)) hP hK hD gBl_N (fun U _ hW => hG.warm hW)) rfl rfl hl.1 rfl (lv_room (Nat.le_of_ble_eq_true rfl)) dX1_rangeFrom_2 ⟨Nat.le_of_ble_eq_true rfl, Nat.le_of_ble_eq_true rfl⟩) hD hS hA (fun r9 u9 H locs hr9 hP hD hS => ?_)
  refine lq_astore_n (lv' := [(2, va_rf r9), (0, .ref h0), (1, .int v0)]) hx hb dX1_rangeFrom_5 rfl hl (by decide) rfl (fun ls hl => ?_)
  refine lq_aload_n hx hb dX1_rangeFrom_6 rfl (lv_at hl 0 rfl) ?_
  refine lq_ifnonnull (tgt := 20) hx hb dX1_rangeFrom_7 (by decide) (fun y9 c1 => ?_) (fun c1 => ?_)
  · subst c1
    rcases hr9 with ⟨z, -⟩ | ⟨a1, f, la, nx, z, e2, e3, y1, y2, y3, y4, y5, y6, y7, y8⟩
    · cases z
    obtain rfl : y9 = a1 := Option.some.inj z
    obtain ⟨k1, hk10, hk1x⟩ := gE_get (X := X) e2 e3
    refine lv_aload_n hx hb dX1_rangeFrom_20 rfl (lv_at hl 0 rfl) ?_
    refine va_getN (D := D) (ci := 0) (v := .int (nI f)) (C := RX0) (T := TX0) (N := 4) hx hb hts hi0 hown hK hP k1 hk1x rfl 0 (by decide) f_first (fun _ h9 => h9) rfl dX1_rangeFrom_21 ?_
    exact vx_ret (g_reti hx hb hr hlocks hK (nI f) (L, S) hP hD hS (Nat.le_of_ble_eq_true rfl) (Nat.le_of_ble_eq_true rfl) (⟨⟨f, y1, by omega, rfl, y4 f (Nat.le_refl _) y2, y5, y7⟩, hC⟩) dX1_rangeFrom_24)
  · subst c1
    have hno : ∀ j, 1 ≤ j → j ≤ 5000 → P j = 8 → ¬ P (j - 1) = 8 → ¬ v0 = nI (gbg P 8 (j - 1)) := by rcases hr9 with ⟨-, z⟩ | ⟨a1, f, la, nx, z, -⟩; exact z; cases z
    exact g_throw (cls := xIOB) (text := "the jug has no such range") (pc := 10) hx hb hl9 hts hown hlocks hK hGG (hl.1.trans hml.symm) hout (by decide +kernel) xk_rangeFrom xi_rangeFrom (by decide +kernel) xin_rangeFrom xbad_IOB xgood_IOB dX1_rangeFrom_10 dX1_rangeFrom_13 dX1_rangeFrom_14 dX1_rangeFrom_16 dX1_rangeFrom_19 ⟨Nat.le_of_ble_eq_true rfl, Nat.le_of_ble_eq_true rfl, Nat.le_of_ble_eq_true rfl, Nat.le_of_ble_eq_true rfl⟩ (Nat.le_of_ble_eq_true rfl) (Nat.le_of_ble_eq_true rfl) (L, S) (⟨⟨rfl, hno⟩, hC⟩) hP hD hS
set_option maxHeartbeats 4000000 in
set_option maxRecDepth 100000 in
/-- rangeTo(range) -/
theorem c_rangeTo (l : Launch) (hl9 : l.stackTraces = false) (D : va_G) (tys : List (ClassId × FieldType)) (X : va_W) (L : List Nat) (S : gS) (sz : Nat) {P : Nat → Int32} {i h0 lo : Nat} {sv rv : Int32} (hX : X[i]? = some (gO h0 lo sv rv)) (hC : gCh P lo (L, S)) (v0 : Int32) (h00 : P 0 = -1) (h51 : P 5001 = -1) : vx_Met l yX1_rangeTo wsX1_rangeTo ({ frames := 6, cells := 1, slots := 6, locals := 82 } : Room) (gP D tys [.ref h0, .int v0] (X ++ va_pl L (gE S)) sz (gG (va_A (X ++ va_pl L (gE S)) sz))) (va_Qi (fun (r : Int32) (u : List Nat × gS) => (∃ v : Nat, 1 ≤ v ∧ v ≤ 5000 ∧ r = nI v ∧ P v = 8 ∧ ¬ P (v + 1) = 8 ∧ v0 = nI (gen P 8 (v - 1))) ∧ gCh P lo u) (fun u t => gWd D tys (va_A (X ++ va_pl L (gE S)) sz) (X ++ va_pl u.1 (gE u.2)) t) (va_A (X ++ va_pl L (gE S)) sz)) (gX (fun E (u : List Nat × gS) => (E = xIOB ∧ ∀ j, 1 ≤ j → j ≤ 5000 → P j = 8 → ¬ P (j - 1) = 8 → ¬ v0 = nI (gbg P 8 (j - 1))) ∧ gCh P lo u) (fun u => X ++ va_pl u.1 (gE u.2)) D tys (va_A (X ++ va_pl L (gE S)) sz)) 1 6 (va_A (X ++ va_pl L (gE S)) sz) := by
  refine g_ofX (cc := cX1_rangeTo) (maxL := 3) (ret := some .int) (by decide) rfl (Nat.le_of_ble_eq_true rfl) ?_
  intro p e s m below meth c hx hb hr hml hts hown hlocks hout hsz hP hK hD hA hS hGG ls hl
  subst hsz
  have hown : s.vm.findClass RX1 = some m.cls := hown
  have hl : lv_has ls 3 [(0, .ref h0), (1, .int v0)] := hl
  have hG : gN s := hGG.1
  obtain ⟨g, hch, hwf, hmx⟩ := id hC
  have hi0 := i0_rangeTo
  obtain ⟨⟨nf_first, nf_last, nf_place, nf_next⟩, -⟩ := id hG
  have f_last := va_Nw.use (A := ([.ref h0, .int v0] : List Value).toArray) rfl nf_last
  refine lv_aload_n hx hb dX1_rangeTo_0 rfl (lv_at hl 0 rfl) ?_
  refine lv_iload_n hx hb dX1_rangeTo_1 rfl (lv_at hl 1 rfl) ?_
  refine g_callq (va_runV (As := [.int v0]) (rest := []) ⟨hx, hb, hml, hown, hts⟩ (c_jug l D tys X L S s.heap.size hX hwf hmx hch v0 h00 h51) (cwV 1 hts gX1_rangeTo_X1_rangeOfJug rfl rfl rfl (by decide +kernel) ⟨Nat.le_of_ble_eq_true rfl, Nat.le_of_ble_eq_true rfl⟩) (gP_V (va_recv hK hP (ci := 1) rfl (g_inX hX)) hP hK hD gBl_N (fun U _ hW => hG.warm hW)) rfl rfl hl.1 rfl (lv_room (Nat.le_of_ble_eq_true rfl)) dX1_rangeTo_2 ⟨Nat.le_of_ble_eq_true rfl, Nat.le_of_ble_eq_true rfl⟩) hD hS hA (fun r9 u9 H locs hr9 hP hD hS => ?_)
  refine lq_astore_n (lv' := [(2, va_rf r9), (0, .ref h0), (1, .int v0)]) hx hb dX1_rangeTo_5 rfl hl (by decide) rfl (fun ls hl => ?_)
  refine lq_aload_n hx hb dX1_rangeTo_6 rfl (lv_at hl 0 rfl) ?_
  refine lq_ifnonnull (tgt := 20) hx hb dX1_rangeTo_7 (by decide) (fun y9 c1 => ?_) (fun c1 => ?_)
  · subst c1
    rcases hr9 with ⟨z, -⟩ | ⟨a1, f, la, nx, z, e2, e3, y1, y2, y3, y4, y5, y6, y7, y8⟩
    · cases z
    obtain rfl : y9 = a1 := Option.some.inj z
    obtain ⟨k1, hk10, hk1x⟩ := gE_get (X := X) e2 e3
    refine lv_aload_n hx hb dX1_rangeTo_20 rfl (lv_at hl 0 rfl) ?_
    refine va_getN (D := D) (ci := 0) (v := .int (nI la)) (C := RX0) (T := TX0) (N := 4) hx hb hts hi0 hown hK hP k1 hk1x rfl 1 (by decide) f_last (fun _ h9 => h9) rfl dX1_rangeTo_21 ?_
    exact vx_ret (g_reti hx hb hr hlocks hK (nI la) (L, S) hP hD hS (Nat.le_of_ble_eq_true rfl) (Nat.le_of_ble_eq_true rfl) (⟨⟨la, by omega, y3, rfl, y4 la y2 (Nat.le_refl _), y6, y8⟩, hC⟩) dX1_rangeTo_24)
  · subst c1
    have hno : ∀ j, 1 ≤ j → j ≤ 5000 → P j = 8 → ¬ P (j - 1) = 8 → ¬ v0 = nI (gbg P 8 (j - 1)) := by rcases hr9 with ⟨-, z⟩ | ⟨a1, f, la, nx, z, -⟩; exact z; cases z
    exact g_throw (cls := xIOB) (text := "the jug has no such range") (pc := 10) hx hb hl9 hts hown hlocks hK hGG (hl.1.trans hml.symm) hout (by decide +kernel) xk_rangeTo xi_rangeTo (by decide +kernel) xin_rangeTo xbad_IOB xgood_IOB dX1_rangeTo_10 dX1_rangeTo_13 dX1_rangeTo_14 dX1_rangeTo_16 dX1_rangeTo_19 ⟨Nat.le_of_ble_eq_true rfl, Nat.le_of_ble_eq_true rfl, Nat.le_of_ble_eq_true rfl, Nat.le_of_ble_eq_true rfl⟩ (Nat.le_of_ble_eq_true rfl) (Nat.le_of_ble_eq_true rfl) (L, S) (⟨⟨rfl, hno⟩, hC⟩) hP hD hS
