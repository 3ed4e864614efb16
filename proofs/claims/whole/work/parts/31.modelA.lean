/-! NumberGobletsModel (the reference): its public methods -/
/-- an evening with n numbers: nothing is outside 1 to n, all else is somewhere -/
def gEv (P : Nat → Int32) (n : Nat) : Prop := 100 ≤ n ∧ n ≤ 5000 ∧ (∀ j, j = 0 ∨ n < j → P j = -1) ∧ ∀ j, 1 ≤ j → j ≤ n → ¬ P j = -1
theorem g_num {v : Int32} {n : Nat} (hn : n ≤ 5000) (h1 : ¬ v < 1) (h2 : ¬ nI n < v) : ∃ q : Nat, 1 ≤ q ∧ q ≤ n ∧ v = nI q := by
  rw [Int32.lt_iff_toInt_lt] at h1 h2
  rw [nI_toInt (by omega)] at h2
  have z1 : (1 : Int32).toInt = 1 := rfl
  refine ⟨v.toInt.toNat, by omega, by omega, ?_⟩
  rw [← Int32.toInt_inj, nI_toInt (by omega)]
  omega
set_option maxHeartbeats 4000000 in
set_option maxRecDepth 100000 in
/-- size() -/
theorem m_size (l : Launch) (D : va_G) (tys : List (ClassId × FieldType)) {cI : ClassId} {t : Nat} (ht : tys[t]? = some (cI, .int)) {w : va_W} {i j : Nat} (hi : i < w.length) (hj : j < w.length) (hij : i ≠ j) {m0 ar : Nat} {rv tv : Int32} {row : Nat → Int32} {P : Nat → Int32} {n : Nat} (hn : n ≤ 5000) (hrow : gRow P n row) (sz : Nat)  : Met l yX2_size wsX2_size ({ frames := 0, cells := 0, slots := 0, locals := 0 } : Room) (gP D tys [.ref m0] (wM w i j m0 ar cI (nI n) rv tv row) sz (fun _ => True)) (va_Qi (fun (r : Int32) (_ : Unit) => r = nI n) (fun _ t => gWd D tys (va_A (wM w i j m0 ar cI (nI n) rv tv row) sz) (wM w i j m0 ar cI (nI n) rv 0 row) t) (va_A (wM w i j m0 ar cI (nI n) rv tv row) sz)) 0 0 (va_A (wM w i j m0 ar cI (nI n) rv tv row) sz) := by
  refine g_ofW (cc := cX2_size) (maxL := 1) (ret := some .int) (by decide) rfl (Nat.le_of_ble_eq_true rfl) ?_
  intro p e s m below meth c hx hb hr hml hts hown hlocks hin hsz hP hK hD hA hS hG ls hl
  subst hsz
  have hown : s.vm.findClass RX2 = some m.cls := hown
  have hl : lv_has ls 1 [(0, .ref m0)] := hl
  have f_thrown := hts (.fieldLink RX2 20 "NumberGobletsModel" "thrown" "I") (by decide +kernel)
  have f_size := hts (.fieldLink RX2 13 "NumberGobletsModel" "size" "I") (by decide +kernel)
  refine lv_aload_n hx hb dX2_size_0 rfl (lv_at hl 0 rfl) ?_
  refine lv_iconst (v := 0) hx hb dX2_size_1 (by decide) ?_
  have hw := gM_si (w := w) (i := i) (j := j) (m0 := m0) (ar := ar) (cI := cI) (sv := (nI n)) (rv := rv) (tv := tv) (row := row) hij (nI n) rv 0
  refine va_put (D := D) (ci := 2) (v := .int 0) (ty := .int) (C := RX2) (T := TX2) (N := 4) hx hb hts i2_size tyX2 tyX2_ok nmX2 hown hK hP hD hS i (gM_i hi hij) rfl 3 (by decide) f_thrown (fun _ h9 => h9) rfl (by decide +kernel) rfl rfl (Nat.le_of_ble_eq_true rfl) dX2_size_2 (fun H locs hP2 hD2 hS => ?_)
  have hP := g_eqP hw hP2
  have hD := g_eqD hw hD2
  refine lv_aload_n hx hb dX2_size_5 rfl (lv_at hl 0 rfl) ?_
  refine va_get (D := D) (ci := 2) (v := .int (nI n)) (C := RX2) (T := TX2) (N := 4) hx hb hts i2_size hown hK hP i (gM_i hi hij) rfl 1 (by decide) f_size (fun _ h9 => h9) rfl dX2_size_6 ?_
  exact g_reti hx hb hr hlocks hK (nI n) () hP hD hS (Nat.zero_le _) (Nat.zero_le _) (rfl) dX2_size_9
set_option maxHeartbeats 4000000 in
set_option maxRecDepth 100000 in
/-- round() -/
theorem m_round (l : Launch) (D : va_G) (tys : List (ClassId × FieldType)) {cI : ClassId} {t : Nat} (ht : tys[t]? = some (cI, .int)) {w : va_W} {i j : Nat} (hi : i < w.length) (hj : j < w.length) (hij : i ≠ j) {m0 ar : Nat} {rv tv : Int32} {row : Nat → Int32} {P : Nat → Int32} {n : Nat} (hn : n ≤ 5000) (hrow : gRow P n row) (sz : Nat)  : Met l yX2_round wsX2_round ({ frames := 0, cells := 0, slots := 0, locals := 0 } : Room) (gP D tys [.ref m0] (wM w i j m0 ar cI (nI n) rv tv row) sz (fun _ => True)) (va_Qi (fun (r : Int32) (_ : Unit) => r = rv) (fun _ t => gWd D tys (va_A (wM w i j m0 ar cI (nI n) rv tv row) sz) (wM w i j m0 ar cI (nI n) rv 0 row) t) (va_A (wM w i j m0 ar cI (nI n) rv tv row) sz)) 0 0 (va_A (wM w i j m0 ar cI (nI n) rv tv row) sz) := by
  refine g_ofW (cc := cX2_round) (maxL := 1) (ret := some .int) (by decide) rfl (Nat.le_of_ble_eq_true rfl) ?_
  intro p e s m below meth c hx hb hr hml hts hown hlocks hin hsz hP hK hD hA hS hG ls hl
  subst hsz
  have hown : s.vm.findClass RX2 = some m.cls := hown
  have hl : lv_has ls 1 [(0, .ref m0)] := hl
  have f_thrown := hts (.fieldLink RX2 20 "NumberGobletsModel" "thrown" "I") (by decide +kernel)
  have f_round := hts (.fieldLink RX2 17 "NumberGobletsModel" "round" "I") (by decide +kernel)
  refine lv_aload_n hx hb dX2_round_0 rfl (lv_at hl 0 rfl) ?_
  refine lv_iconst (v := 0) hx hb dX2_round_1 (by decide) ?_
  have hw := gM_si (w := w) (i := i) (j := j) (m0 := m0) (ar := ar) (cI := cI) (sv := (nI n)) (rv := rv) (tv := tv) (row := row) hij (nI n) rv 0
  refine va_put (D := D) (ci := 2) (v := .int 0) (ty := .int) (C := RX2) (T := TX2) (N := 4) hx hb hts i2_round tyX2 tyX2_ok nmX2 hown hK hP hD hS i (gM_i hi hij) rfl 3 (by decide) f_thrown (fun _ h9 => h9) rfl (by decide +kernel) rfl rfl (Nat.le_of_ble_eq_true rfl) dX2_round_2 (fun H locs hP2 hD2 hS => ?_)
  have hP := g_eqP hw hP2
  have hD := g_eqD hw hD2
  refine lv_aload_n hx hb dX2_round_5 rfl (lv_at hl 0 rfl) ?_
  refine va_get (D := D) (ci := 2) (v := .int rv) (C := RX2) (T := TX2) (N := 4) hx hb hts i2_round hown hK hP i (gM_i hi hij) rfl 2 (by decide) f_round (fun _ h9 => h9) rfl dX2_round_6 ?_
  exact g_reti hx hb hr hlocks hK (rv) () hP hD hS (Nat.zero_le _) (Nat.zero_le _) (rfl) dX2_round_9
set_option maxHeartbeats 4000000 in
set_option maxRecDepth 100000 in
/-- inJug() -/
theorem m_inJug (l : Launch) (D : va_G) (tys : List (ClassId × FieldType)) {cI : ClassId} {t : Nat} (ht : tys[t]? = some (cI, .int)) {w : va_W} {i j : Nat} (hi : i < w.length) (hj : j < w.length) (hij : i ≠ j) {m0 ar : Nat} {rv tv : Int32} {row : Nat → Int32} {P : Nat → Int32} {n : Nat} (hn : n ≤ 5000) (hrow : gRow P n row) (sz : Nat)  : Met l yX2_inJug wsX2_inJug ({ frames := 1, cells := 0, slots := 0, locals := 23 } : Room) (gP D tys [.ref m0] (wM w i j m0 ar cI (nI n) rv tv row) sz (fun _ => True)) (va_Qi (fun (r : Int32) (_ : Unit) => r = nI (gct P 8 n)) (fun _ t => gWd D tys (va_A (wM w i j m0 ar cI (nI n) rv tv row) sz) (wM w i j m0 ar cI (nI n) rv 0 row) t) (va_A (wM w i j m0 ar cI (nI n) rv tv row) sz)) 0 0 (va_A (wM w i j m0 ar cI (nI n) rv tv row) sz) := by
  refine g_ofW (cc := cX2_inJug) (maxL := 1) (ret := some .int) (by decide) rfl (Nat.le_of_ble_eq_true rfl) ?_
  intro p e s m below meth c hx hb hr hml hts hown hlocks hin hsz hP hK hD hA hS hG ls hl
  subst hsz
  have hown : s.vm.findClass RX2 = some m.cls := hown
  have hl : lv_has ls 1 [(0, .ref m0)] := hl
  have f_thrown := hts (.fieldLink RX2 20 "NumberGobletsModel" "thrown" "I") (by decide +kernel)
  refine lv_aload_n hx hb dX2_inJug_0 rfl (lv_at hl 0 rfl) ?_
  refine lv_iconst (v := 0) hx hb dX2_inJug_1 (by decide) ?_
  have hw := gM_si (w := w) (i := i) (j := j) (m0 := m0) (ar := ar) (cI := cI) (sv := (nI n)) (rv := rv) (tv := tv) (row := row) hij (nI n) rv 0
  refine va_put (D := D) (ci := 2) (v := .int 0) (ty := .int) (C := RX2) (T := TX2) (N := 4) hx hb hts i2_inJug tyX2 tyX2_ok nmX2 hown hK hP hD hS i (gM_i hi hij) rfl 3 (by decide) f_thrown (fun _ h9 => h9) rfl (by decide +kernel) rfl rfl (Nat.le_of_ble_eq_true rfl) dX2_inJug_2 (fun H locs hP2 hD2 hS => ?_)
  have hP := g_eqP hw hP2
  have hD := g_eqD hw hD2
  refine lv_aload_n hx hb dX2_inJug_5 rfl (lv_at hl 0 rfl) ?_
  refine lv_bipush (v := 8) hx hb dX2_inJug_6 (by decide) ?_
  refine g_calli (va_runV (As := [.int 8]) (rest := []) ⟨hx, hb, hml, hown, hts⟩ (m_howMany l D tys ht hi hj hij hn hrow H.size 8) (cwV 1 hts gX2_inJug_X2_howMany rfl rfl rfl (by decide +kernel) ⟨Nat.le_of_ble_eq_true rfl, Nat.le_of_ble_eq_true rfl⟩) (gP_V (va_recv hK hP (ci := 2) rfl (gM_i hi hij)) hP hK hD gBl_T (fun _ _ _ => trivial)) rfl rfl hl.1 rfl (lv_room (Nat.le_of_ble_eq_true rfl)) dX2_inJug_8 ⟨(Nat.zero_le _), (Nat.zero_le _)⟩) hD hS hA (fun r9 u9 H locs hr9 hP hD hS => ?_)
  exact g_reti hx hb hr hlocks hK (r9) () hP hD hS (Nat.zero_le _) (Nat.zero_le _) (hr9) dX2_inJug_11
set_option maxHeartbeats 4000000 in
set_option maxRecDepth 100000 in
/-- drunk() -/
theorem m_drunk (l : Launch) (D : va_G) (tys : List (ClassId × FieldType)) {cI : ClassId} {t : Nat} (ht : tys[t]? = some (cI, .int)) {w : va_W} {i j : Nat} (hi : i < w.length) (hj : j < w.length) (hij : i ≠ j) {m0 ar : Nat} {rv tv : Int32} {row : Nat → Int32} {P : Nat → Int32} {n : Nat} (hn : n ≤ 5000) (hrow : gRow P n row) (sz : Nat)  : Met l yX2_drunk wsX2_drunk ({ frames := 1, cells := 0, slots := 0, locals := 23 } : Room) (gP D tys [.ref m0] (wM w i j m0 ar cI (nI n) rv tv row) sz (fun _ => True)) (va_Qi (fun (r : Int32) (_ : Unit) => r = nI (gct P 9 n)) (fun _ t => gWd D tys (va_A (wM w i j m0 ar cI (nI n) rv tv row) sz) (wM w i j m0 ar cI (nI n) rv 0 row) t) (va_A (wM w i j m0 ar cI (nI n) rv tv row) sz)) 0 0 (va_A (wM w i j m0 ar cI (nI n) rv tv row) sz) := by
  refine g_ofW (cc := cX2_drunk) (maxL := 1) (ret := some .int) (by decide) rfl (Nat.le_of_ble_eq_true rfl) ?_
  intro p e s m below meth c hx hb hr hml hts hown hlocks hin hsz hP hK hD hA hS hG ls hl
  subst hsz
  have hown : s.vm.findClass RX2 = some m.cls := hown
  have hl : lv_has ls 1 [(0, .ref m0)] := hl
  have f_thrown := hts (.fieldLink RX2 20 "NumberGobletsModel" "thrown" "I") (by decide +kernel)
  refine lv_aload_n hx hb dX2_drunk_0 rfl (lv_at hl 0 rfl) ?_
  refine lv_iconst (v := 0) hx hb dX2_drunk_1 (by decide) ?_
  have hw := gM_si (w := w) (i := i) (j := j) (m0 := m0) (ar := ar) (cI := cI) (sv := (nI n)) (rv := rv) (tv := tv) (row := row) hij (nI n) rv 0
  refine va_put (D := D) (ci := 2) (v := .int 0) (ty := .int) (C := RX2) (T := TX2) (N := 4) hx hb hts i2_drunk tyX2 tyX2_ok nmX2 hown hK hP hD hS i (gM_i hi hij) rfl 3 (by decide) f_thrown (fun _ h9 => h9) rfl (by decide +kernel) rfl rfl (Nat.le_of_ble_eq_true rfl) dX2_drunk_2 (fun H locs hP2 hD2 hS => ?_)
  have hP := g_eqP hw hP2
  have hD := g_eqD hw hD2
  refine lv_aload_n hx hb dX2_drunk_5 rfl (lv_at hl 0 rfl) ?_
  refine lv_bipush (v := 9) hx hb dX2_drunk_6 (by decide) ?_
  refine g_calli (va_runV (As := [.int 9]) (rest := []) ⟨hx, hb, hml, hown, hts⟩ (m_howMany l D tys ht hi hj hij hn hrow H.size 9) (cwV 1 hts gX2_drunk_X2_howMany rfl rfl rfl (by decide +kernel) ⟨Nat.le_of_ble_eq_true rfl, Nat.le_of_ble_eq_true rfl⟩) (gP_V (va_recv hK hP (ci := 2) rfl (gM_i hi hij)) hP hK hD gBl_T (fun _ _ _ => trivial)) rfl rfl hl.1 rfl (lv_room (Nat.le_of_ble_eq_true rfl)) dX2_drunk_8 ⟨(Nat.zero_le _), (Nat.zero_le _)⟩) hD hS hA (fun r9 u9 H locs hr9 hP hD hS => ?_)
  exact g_reti hx hb hr hlocks hK (r9) () hP hD hS (Nat.zero_le _) (Nat.zero_le _) (hr9) dX2_drunk_11
set_option maxHeartbeats 4000000 in
set_option maxRecDepth 100000 in
/-- spilt() -/
theorem m_spilt (l : Launch) (D : va_G) (tys : List (ClassId × FieldType)) {cI : ClassId} {t : Nat} (ht : tys[t]? = some (cI, .int)) {w : va_W} {i j : Nat} (hi : i < w.length) (hj : j < w.length) (hij : i ≠ j) {m0 ar : Nat} {rv tv : Int32} {row : Nat → Int32} {P : Nat → Int32} {n : Nat} (hn : n ≤ 5000) (hrow : gRow P n row) (sz : Nat)  : Met l yX2_spilt wsX2_spilt ({ frames := 1, cells := 0, slots := 0, locals := 23 } : Room) (gP D tys [.ref m0] (wM w i j m0 ar cI (nI n) rv tv row) sz (fun _ => True)) (va_Qi (fun (r : Int32) (_ : Unit) => r = nI (gct P 10 n)) (fun _ t => gWd D tys (va_A (wM w i j m0 ar cI (nI n) rv tv row) sz) (wM w i j m0 ar cI (nI n) rv 0 row) t) (va_A (wM w i j m0 ar cI (nI n) rv tv row) sz)) 0 0 (va_A (wM w i j m0 ar cI (nI n) rv tv row) sz) := by
  refine g_ofW (cc := cX2_spilt) (maxL := 1) (ret := some .int) (by decide) rfl (Nat.le_of_ble_eq_true rfl) ?_
  intro p e s m below meth c hx hb hr hml hts hown hlocks hin hsz hP hK hD hA hS hG ls hl
  subst hsz
  have hown : s.vm.findClass RX2 = some m.cls := hown
  have hl : lv_has ls 1 [(0, .ref m0)] := hl
  have f_thrown := hts (.fieldLink RX2 20 "NumberGobletsModel" "thrown" "I") (by decide +kernel)
  refine lv_aload_n hx hb dX2_spilt_0 rfl (lv_at hl 0 rfl) ?_
  refine lv_iconst (v := 0) hx hb dX2_spilt_1 (by decide) ?_
  have hw := gM_si (w := w) (i := i) (j := j) (m0 := m0) (ar := ar) (cI := cI) (sv := (nI n)) (rv := rv) (tv := tv) (row := row) hij (nI n) rv 0
  refine va_put (D := D) (ci := 2) (v := .int 0) (ty := .int) (C := RX2) (T := TX2) (N := 4) hx hb hts i2_spilt tyX2 tyX2_ok nmX2 hown hK hP hD hS i (gM_i hi hij) rfl 3 (by decide) f_thrown (fun _ h9 => h9) rfl (by decide +kernel) rfl rfl (Nat.le_of_ble_eq_true rfl) dX2_spilt_2 (fun H locs hP2 hD2 hS => ?_)
  have hP := g_eqP hw hP2
  have hD := g_eqD hw hD2
  refine lv_aload_n hx hb dX2_spilt_5 rfl (lv_at hl 0 rfl) ?_
  refine lv_bipush (v := 10) hx hb dX2_spilt_6 (by decide) ?_
  refine g_calli (va_runV (As := [.int 10]) (rest := []) ⟨hx, hb, hml, hown, hts⟩ (m_howMany l D tys ht hi hj hij hn hrow H.size 10) (cwV 1 hts gX2_spilt_X2_howMany rfl rfl rfl (by decide +kernel) ⟨Nat.le_of_ble_eq_true rfl, Nat.le_of_ble_eq_true rfl⟩) (gP_V (va_recv hK hP (ci := 2) rfl (gM_i hi hij)) hP hK hD gBl_T (fun _ _ _ => trivial)) rfl rfl hl.1 rfl (lv_room (Nat.le_of_ble_eq_true rfl)) dX2_spilt_8 ⟨(Nat.zero_le _), (Nat.zero_le _)⟩) hD hS hA (fun r9 u9 H locs hr9 hP hD hS => ?_)
  exact g_reti hx hb hr hlocks hK (r9) () hP hD hS (Nat.zero_le _) (Nat.zero_le _) (hr9) dX2_spilt_11
set_option maxHeartbeats 4000000 in
set_option maxRecDepth 100000 in
/-- ranges() -/
theorem m_ranges (l : Launch) (D : va_G) (tys : List (ClassId × FieldType)) {cI : ClassId} {t : Nat} (ht : tys[t]? = some (cI, .int)) {w : va_W} {i j : Nat} (hi : i < w.length) (hj : j < w.length) (hij : i ≠ j) {m0 ar : Nat} {rv tv : Int32} {row : Nat → Int32} {P : Nat → Int32} {n : Nat} (hn : n ≤ 5000) (hrow : gRow P n row) (sz : Nat) (h00 : P 0 = -1) : Met l yX2_ranges wsX2_ranges ({ frames := 2, cells := 0, slots := 0, locals := 45 } : Room) (gP D tys [.ref m0] (wM w i j m0 ar cI (nI n) rv tv row) sz (fun _ => True)) (va_Qi (fun (r : Int32) (_ : Unit) => r = nI (gbg P 8 n)) (fun _ t => gWd D tys (va_A (wM w i j m0 ar cI (nI n) rv tv row) sz) (wM w i j m0 ar cI (nI n) rv 0 row) t) (va_A (wM w i j m0 ar cI (nI n) rv tv row) sz)) 0 0 (va_A (wM w i j m0 ar cI (nI n) rv tv row) sz) := by
  refine g_ofW (cc := cX2_ranges) (maxL := 1) (ret := some .int) (by decide) rfl (Nat.le_of_ble_eq_true rfl) ?_
  intro p e s m below meth c hx hb hr hml hts hown hlocks hin hsz hP hK hD hA hS hG ls hl
  subst hsz
  have hown : s.vm.findClass RX2 = some m.cls := hown
  have hl : lv_has ls 1 [(0, .ref m0)] := hl
  have f_thrown := hts (.fieldLink RX2 20 "NumberGobletsModel" "thrown" "I") (by decide +kernel)
  refine lv_aload_n hx hb dX2_ranges_0 rfl (lv_at hl 0 rfl) ?_
  refine lv_iconst (v := 0) hx hb dX2_ranges_1 (by decide) ?_
  have hw := gM_si (w := w) (i := i) (j := j) (m0 := m0) (ar := ar) (cI := cI) (sv := (nI n)) (rv := rv) (tv := tv) (row := row) hij (nI n) rv 0
  refine va_put (D := D) (ci := 2) (v := .int 0) (ty := .int) (C := RX2) (T := TX2) (N := 4) hx hb hts i2_ranges tyX2 tyX2_ok nmX2 hown hK hP hD hS i (gM_i hi hij) rfl 3 (by decide) f_thrown (fun _ h9 => h9) rfl (by decide +kernel) rfl rfl (Nat.le_of_ble_eq_true rfl) dX2_ranges_2 (fun H locs hP2 hD2 hS => ?_)
  have hP := g_eqP hw hP2
  have hD := g_eqD hw hD2
  refine lv_aload_n hx hb dX2_ranges_5 rfl (lv_at hl 0 rfl) ?_
  refine lv_bipush (v := 8) hx hb dX2_ranges_6 (by decide) ?_
  refine g_calli (va_runV (As := [.int 8]) (rest := []) ⟨hx, hb, hml, hown, hts⟩ (m_rangesIn l D tys ht hi hj hij hn hrow H.size 8 (by rw [h00]; decide)) (cwV 1 hts gX2_ranges_X2_rangesIn rfl rfl rfl (by decide +kernel) ⟨Nat.le_of_ble_eq_true rfl, Nat.le_of_ble_eq_true rfl⟩) (gP_V (va_recv hK hP (ci := 2) rfl (gM_i hi hij)) hP hK hD gBl_T (fun _ _ _ => trivial)) rfl rfl hl.1 rfl (lv_room (Nat.le_of_ble_eq_true rfl)) dX2_ranges_8 ⟨(Nat.zero_le _), (Nat.zero_le _)⟩) hD hS hA (fun r9 u9 H locs hr9 hP hD hS => ?_)
  exact g_reti hx hb hr hlocks hK (r9) () hP hD hS (Nat.zero_le _) (Nat.zero_le _) (hr9) dX2_ranges_11
set_option maxHeartbeats 4000000 in
set_option maxRecDepth 100000 in
/-- inGoblet(goblet) -/
theorem m_inGoblet (l : Launch) (D : va_G) (tys : List (ClassId × FieldType)) {cI : ClassId} {t : Nat} (ht : tys[t]? = some (cI, .int)) {w : va_W} {i j : Nat} (hi : i < w.length) (hj : j < w.length) (hij : i ≠ j) {m0 ar : Nat} {rv tv : Int32} {row : Nat → Int32} {P : Nat → Int32} {n : Nat} (hn : n ≤ 5000) (hrow : gRow P n row) (sz : Nat) (v0 : Int32)  : Met l yX2_inGoblet wsX2_inGoblet ({ frames := 1, cells := 0, slots := 0, locals := 23 } : Room) (gP D tys [.ref m0, .int v0] (wM w i j m0 ar cI (nI n) rv tv row) sz (fun _ => True)) (va_Qi (fun (r : Int32) (u : Int32) => (u = 0 ∧ gGob v0 ∧ r = nI (gct P v0 n)) ∨ (u = 1 ∧ ¬ gGob v0)) (fun u t => gWd D tys (va_A (wM w i j m0 ar cI (nI n) rv tv row) sz) (wM w i j m0 ar cI (nI n) rv u row) t) (va_A (wM w i j m0 ar cI (nI n) rv tv row) sz)) 0 0 (va_A (wM w i j m0 ar cI (nI n) rv tv row) sz) := by
  refine g_ofW (cc := cX2_inGoblet) (maxL := 2) (ret := some .int) (by decide) rfl (Nat.le_of_ble_eq_true rfl) ?_
  intro p e s m below meth c hx hb hr hml hts hown hlocks hin hsz hP hK hD hA hS hG ls hl
  subst hsz
  have hown : s.vm.findClass RX2 = some m.cls := hown
  have hl : lv_has ls 2 [(0, .ref m0), (1, .int v0)] := hl
  have f_thrown := hts (.fieldLink RX2 20 "NumberGobletsModel" "thrown" "I") (by decide +kernel)
  refine lv_aload_n hx hb dX2_inGoblet_0 rfl (lv_at hl 0 rfl) ?_
  refine lv_iload_n hx hb dX2_inGoblet_1 rfl (lv_at hl 1 rfl) ?_
  refine g_calli (va_runS (As := [.int v0]) (rest := [.ref m0]) ⟨hx, hb, hml, hown, hts⟩ (m_isGoblet l D tys (wM w i j m0 ar cI (nI n) rv tv row) s.heap.size v0) (va_cwS 1 hts gX2_inGoblet_X2_isGoblet rfl rfl rfl (by decide +kernel) ⟨Nat.le_of_ble_eq_true rfl, Nat.le_of_ble_eq_true rfl⟩) (gP_S hP hK hD gBl_T (fun _ _ _ => trivial)) rfl rfl hl.1 rfl (lv_room (Nat.le_of_ble_eq_true rfl)) dX2_inGoblet_2 ⟨(Nat.zero_le _), (Nat.zero_le _)⟩) hD hS hA (fun r9 u9 H locs hr9 hP hD hS => ?_)
  rcases hr9 with ⟨rfl, hg⟩ | ⟨rfl, hg⟩
  · skip
    refine lv_if_eq (tgt := 12) hx hb dX2_inGoblet_5 (by decide) (fun c9 => absurd c9 (by decide)) (fun _ => ?_)
    refine lv_iconst (v := 0) hx hb dX2_inGoblet_8 (by decide) ?_
    refine lv_goto (tgt := 13) hx hb dX2_inGoblet_9 (by decide) ?_
    have hw := gM_si (w := w) (i := i) (j := j) (m0 := m0) (ar := ar) (cI := cI) (sv := (nI n)) (rv := rv) (tv := tv) (row := row) hij (nI n) rv 0
    refine va_put (D := D) (ci := 2) (v := .int 0) (ty := .int) (C := RX2) (T := TX2) (N := 4) hx hb hts i2_inGoblet tyX2 tyX2_ok nmX2 hown hK hP hD hS i (gM_i hi hij) rfl 3 (by decide) f_thrown (fun _ h9 => h9) rfl (by decide +kernel) rfl rfl (Nat.le_of_ble_eq_true rfl) dX2_inGoblet_13 (fun H locs hP2 hD2 hS => ?_)
    have hP := g_eqP hw hP2
    have hD := g_eqD hw hD2
    refine lv_aload_n hx hb dX2_inGoblet_16 rfl (lv_at hl 0 rfl) ?_
    refine va_get (D := D) (ci := 2) (v := .int 0) (C := RX2) (T := TX2) (N := 4) hx hb hts i2_inGoblet hown hK hP i (gM_i hi hij) rfl 3 (by decide) f_thrown (fun _ h9 => h9) rfl dX2_inGoblet_17 ?_
    refine lv_if_ne (tgt := 31) hx hb dX2_inGoblet_20 (by decide) (fun c9 => absurd rfl c9) (fun _ => ?_)
    refine lv_aload_n hx hb dX2_inGoblet_23 rfl (lv_at hl 0 rfl) ?_
    refine lv_iload_n hx hb dX2_inGoblet_24 rfl (lv_at hl 1 rfl) ?_
    refine g_calli (va_runV (As := [.int v0]) (rest := []) ⟨hx, hb, hml, hown, hts⟩ (m_howMany l D tys ht hi hj hij hn hrow H.size v0) (cwV 1 hts gX2_inGoblet_X2_howMany rfl rfl rfl (by decide +kernel) ⟨Nat.le_of_ble_eq_true rfl, Nat.le_of_ble_eq_true rfl⟩) (gP_V (va_recv hK hP (ci := 2) rfl (gM_i hi hij)) hP hK hD gBl_T (fun _ _ _ => trivial)) rfl rfl hl.1 rfl (lv_room (Nat.le_of_ble_eq_true rfl)) dX2_inGoblet_25 ⟨(Nat.zero_le _), (Nat.zero_le _)⟩) hD hS hA (fun r9 u8 H locs hr8 hP hD hS => ?_)
    refine lv_goto (tgt := 32) hx hb dX2_inGoblet_28 (by decide) ?_
    exact g_reti hx hb hr hlocks hK (r9) (0 : Int32) hP hD hS (Nat.zero_le _) (Nat.zero_le _) (Or.inl ⟨rfl, hg, hr8⟩) dX2_inGoblet_32
  · skip
    refine lv_if_eq (tgt := 12) hx hb dX2_inGoblet_5 (by decide) (fun _ => ?_) (fun c9 => absurd rfl c9)
    refine lv_iconst (v := 1) hx hb dX2_inGoblet_12 (by decide) ?_
    have hw := gM_si (w := w) (i := i) (j := j) (m0 := m0) (ar := ar) (cI := cI) (sv := (nI n)) (rv := rv) (tv := tv) (row := row) hij (nI n) rv 1
    refine va_put (D := D) (ci := 2) (v := .int 1) (ty := .int) (C := RX2) (T := TX2) (N := 4) hx hb hts i2_inGoblet tyX2 tyX2_ok nmX2 hown hK hP hD hS i (gM_i hi hij) rfl 3 (by decide) f_thrown (fun _ h9 => h9) rfl (by decide +kernel) rfl rfl (Nat.le_of_ble_eq_true rfl) dX2_inGoblet_13 (fun H locs hP2 hD2 hS => ?_)
    have hP := g_eqP hw hP2
    have hD := g_eqD hw hD2
    refine lv_aload_n hx hb dX2_inGoblet_16 rfl (lv_at hl 0 rfl) ?_
    refine va_get (D := D) (ci := 2) (v := .int 1) (C := RX2) (T := TX2) (N := 4) hx hb hts i2_inGoblet hown hK hP i (gM_i hi hij) rfl 3 (by decide) f_thrown (fun _ h9 => h9) rfl dX2_inGoblet_17 ?_
    refine lv_if_ne (tgt := 31) hx hb dX2_inGoblet_20 (by decide) (fun _ => ?_) (fun c9 => absurd c9 (by decide))
    refine lv_iconst (v := 0) hx hb dX2_inGoblet_31 (by decide) ?_
    exact g_reti hx hb hr hlocks hK (0) (1 : Int32) hP hD hS (Nat.zero_le _) (Nat.zero_le _) (Or.inr ⟨rfl, hg⟩) dX2_inGoblet_32
set_option maxHeartbeats 4000000 in
set_option maxRecDepth 100000 in
/-- rangesOf(goblet) -/
theorem m_rangesOf (l : Launch) (D : va_G) (tys : List (ClassId × FieldType)) {cI : ClassId} {t : Nat} (ht : tys[t]? = some (cI, .int)) {w : va_W} {i j : Nat} (hi : i < w.length) (hj : j < w.length) (hij : i ≠ j) {m0 ar : Nat} {rv tv : Int32} {row : Nat → Int32} {P : Nat → Int32} {n : Nat} (hn : n ≤ 5000) (hrow : gRow P n row) (sz : Nat) (v0 : Int32) (h00 : P 0 = -1) : Met l yX2_rangesOf wsX2_rangesOf ({ frames := 2, cells := 0, slots := 0, locals := 45 } : Room) (gP D tys [.ref m0, .int v0] (wM w i j m0 ar cI (nI n) rv tv row) sz (fun _ => True)) (va_Qi (fun (r : Int32) (u : Int32) => (u = 0 ∧ gGob v0 ∧ r = nI (gbg P v0 n)) ∨ (u = 1 ∧ ¬ gGob v0)) (fun u t => gWd D tys (va_A (wM w i j m0 ar cI (nI n) rv tv row) sz) (wM w i j m0 ar cI (nI n) rv u row) t) (va_A (wM w i j m0 ar cI (nI n) rv tv row) sz)) 0 0 (va_A (wM w i j m0 ar cI (nI n) rv tv row) sz) := by
  refine g_ofW (cc := cX2_rangesOf) (maxL := 2) (ret := some .int) (by decide) rfl (Nat.le_of_ble_eq_true rfl) ?_
  intro p e s m below meth c hx hb hr hml hts hown hlocks hin hsz hP hK hD hA hS hG ls hl
  subst hsz
  have hown : s.vm.findClass RX2 = some m.cls := hown
  have hl : lv_has ls 2 [(0, .ref m0), (1, .int v0)] := hl
  have f_thrown := hts (.fieldLink RX2 20 "NumberGobletsModel" "thrown" "I") (by decide +kernel)
  refine lv_aload_n hx hb dX2_rangesOf_0 rfl (lv_at hl 0 rfl) ?_
  refine lv_iload_n hx hb dX2_rangesOf_1 rfl (lv_at hl 1 rfl) ?_
  refine g_calli (va_runS (As := [.int v0]) (rest := [.ref m0]) ⟨hx, hb, hml, hown, hts⟩ (m_isGoblet l D tys (wM w i j m0 ar cI (nI n) rv tv row) s.heap.size v0) (va_cwS 1 hts gX2_rangesOf_X2_isGoblet rfl rfl rfl (by decide +kernel) ⟨Nat.le_of_ble_eq_true rfl, Nat.le_of_ble_eq_true rfl⟩) (gP_S hP hK hD gBl_T (fun _ _ _ => trivial)) rfl rfl hl.1 rfl (lv_room (Nat.le_of_ble_eq_true rfl)) dX2_rangesOf_2 ⟨(Nat.zero_le _), (Nat.zero_le _)⟩) hD hS hA (fun r9 u9 H locs hr9 hP hD hS => ?_)
  rcases hr9 with ⟨rfl, hg⟩ | ⟨rfl, hg⟩
  · skip
    refine lv_if_eq (tgt := 12) hx hb dX2_rangesOf_5 (by decide) (fun c9 => absurd c9 (by decide)) (fun _ => ?_)
    refine lv_iconst (v := 0) hx hb dX2_rangesOf_8 (by decide) ?_
    refine lv_goto (tgt := 13) hx hb dX2_rangesOf_9 (by decide) ?_
    have hw := gM_si (w := w) (i := i) (j := j) (m0 := m0) (ar := ar) (cI := cI) (sv := (nI n)) (rv := rv) (tv := tv) (row := row) hij (nI n) rv 0
    refine va_put (D := D) (ci := 2) (v := .int 0) (ty := .int) (C := RX2) (T := TX2) (N := 4) hx hb hts i2_rangesOf tyX2 tyX2_ok nmX2 hown hK hP hD hS i (gM_i hi hij) rfl 3 (by decide) f_thrown (fun _ h9 => h9) rfl (by decide +kernel) rfl rfl (Nat.le_of_ble_eq_true rfl) dX2_rangesOf_13 (fun H locs hP2 hD2 hS => ?_)
    have hP := g_eqP hw hP2
    have hD := g_eqD hw hD2
    refine lv_aload_n hx hb dX2_rangesOf_16 rfl (lv_at hl 0 rfl) ?_
    refine va_get (D := D) (ci := 2) (v := .int 0) (C := RX2) (T := TX2) (N := 4) hx hb hts i2_rangesOf hown hK hP i (gM_i hi hij) rfl 3 (by decide) f_thrown (fun _ h9 => h9) rfl dX2_rangesOf_17 ?_
    refine lv_if_ne (tgt := 31) hx hb dX2_rangesOf_20 (by decide) (fun c9 => absurd rfl c9) (fun _ => ?_)
    refine lv_aload_n hx hb dX2_rangesOf_23 rfl (lv_at hl 0 rfl) ?_
    refine lv_iload_n hx hb dX2_rangesOf_24 rfl (lv_at hl 1 rfl) ?_
    refine g_calli (va_runV (As := [.int v0]) (rest := []) ⟨hx, hb, hml, hown, hts⟩ (m_rangesIn l D tys ht hi hj hij hn hrow H.size v0 (by obtain ⟨q, hq, rfl⟩ := hg; rw [h00]; exact g_neg q hq)) (cwV 1 hts gX2_rangesOf_X2_rangesIn rfl rfl rfl (by decide +kernel) ⟨Nat.le_of_ble_eq_true rfl, Nat.le_of_ble_eq_true rfl⟩) (gP_V (va_recv hK hP (ci := 2) rfl (gM_i hi hij)) hP hK hD gBl_T (fun _ _ _ => trivial)) rfl rfl hl.1 rfl (lv_room (Nat.le_of_ble_eq_true rfl)) dX2_rangesOf_25 ⟨(Nat.zero_le _), (Nat.zero_le _)⟩) hD hS hA (fun r9 u8 H locs hr8 hP hD hS => ?_)
    refine lv_goto (tgt := 32) hx hb dX2_rangesOf_28 (by decide) ?_
    exact g_reti hx hb hr hlocks hK (r9) (0 : Int32) hP hD hS (Nat.zero_le _) (Nat.zero_le _) (Or.inl ⟨rfl, hg, hr8⟩) dX2_rangesOf_32
  · skip
    refine lv_if_eq (tgt := 12) hx hb dX2_rangesOf_5 (by decide) (fun _ => ?_) (fun c9 => absurd rfl c9)
    refine lv_iconst (v := 1) hx hb dX2_rangesOf_12 (by decide) ?_
    have hw := gM_si (w := w) (i := i) (j := j) (m0 := m0) (ar := ar) (cI := cI) (sv := (nI n)) (rv := rv) (tv := tv) (row := row) hij (nI n) rv 1
    refine va_put (D := D) (ci := 2) (v := .int 1) (ty := .int) (C := RX2) (T := TX2) (N := 4) hx hb hts i2_rangesOf tyX2 tyX2_ok nmX2 hown hK hP hD hS i (gM_i hi hij) rfl 3 (by decide) f_thrown (fun _ h9 => h9) rfl (by decide +kernel) rfl rfl (Nat.le_of_ble_eq_true rfl) dX2_rangesOf_13 (fun H locs hP2 hD2 hS => ?_)
    have hP := g_eqP hw hP2
    have hD := g_eqD hw hD2
    refine lv_aload_n hx hb dX2_rangesOf_16 rfl (lv_at hl 0 rfl) ?_
    refine va_get (D := D) (ci := 2) (v := .int 1) (C := RX2) (T := TX2) (N := 4) hx hb hts i2_rangesOf hown hK hP i (gM_i hi hij) rfl 3 (by decide) f_thrown (fun _ h9 => h9) rfl dX2_rangesOf_17 ?_
    refine lv_if_ne (tgt := 31) hx hb dX2_rangesOf_20 (by decide) (fun _ => ?_) (fun c9 => absurd c9 (by decide))
    refine lv_iconst (v := 0) hx hb dX2_rangesOf_31 (by decide) ?_
    exact g_reti hx hb hr hlocks hK (0) (1 : Int32) hP hD hS (Nat.zero_le _) (Nat.zero_le _) (Or.inr ⟨rfl, hg⟩) dX2_rangesOf_32
set_option maxHeartbeats 4000000 in
set_option maxRecDepth 100000 in
/-- nextOf(goblet) -/
theorem m_nextOf (l : Launch) (D : va_G) (tys : List (ClassId × FieldType)) {cI : ClassId} {t : Nat} (ht : tys[t]? = some (cI, .int)) {w : va_W} {i j : Nat} (hi : i < w.length) (hj : j < w.length) (hij : i ≠ j) {m0 ar : Nat} {rv tv : Int32} {row : Nat → Int32} {P : Nat → Int32} {n : Nat} (hn : n ≤ 5000) (hrow : gRow P n row) (sz : Nat) (v0 : Int32)  : Met l yX2_nextOf wsX2_nextOf ({ frames := 2, cells := 0, slots := 0, locals := 44 } : Room) (gP D tys [.ref m0, .int v0] (wM w i j m0 ar cI (nI n) rv tv row) sz (fun _ => True)) (va_Qi (fun (r : Int32) (u : Int32) => (u = 0 ∧ gGob v0 ∧ ∃ v w, glow (fun q => P q = v0) n v ∧ glow (fun q => P q = 8) n w ∧ r = nI (if v = 0 then w else v)) ∨ (u = 1 ∧ ¬ gGob v0)) (fun u t => gWd D tys (va_A (wM w i j m0 ar cI (nI n) rv tv row) sz) (wM w i j m0 ar cI (nI n) rv u row) t) (va_A (wM w i j m0 ar cI (nI n) rv tv row) sz)) 0 0 (va_A (wM w i j m0 ar cI (nI n) rv tv row) sz) := by
  refine g_ofW (cc := cX2_nextOf) (maxL := 2) (ret := some .int) (by decide) rfl (Nat.le_of_ble_eq_true rfl) ?_
  intro p e s m below meth c hx hb hr hml hts hown hlocks hin hsz hP hK hD hA hS hG ls hl
  subst hsz
  have hown : s.vm.findClass RX2 = some m.cls := hown
  have hl : lv_has ls 2 [(0, .ref m0), (1, .int v0)] := hl
  have f_thrown := hts (.fieldLink RX2 20 "NumberGobletsModel" "thrown" "I") (by decide +kernel)
  refine lv_aload_n hx hb dX2_nextOf_0 rfl (lv_at hl 0 rfl) ?_
  refine lv_iload_n hx hb dX2_nextOf_1 rfl (lv_at hl 1 rfl) ?_
  refine g_calli (va_runS (As := [.int v0]) (rest := [.ref m0]) ⟨hx, hb, hml, hown, hts⟩ (m_isGoblet l D tys (wM w i j m0 ar cI (nI n) rv tv row) s.heap.size v0) (va_cwS 1 hts gX2_nextOf_X2_isGoblet rfl rfl rfl (by decide +kernel) ⟨Nat.le_of_ble_eq_true rfl, Nat.le_of_ble_eq_true rfl⟩) (gP_S hP hK hD gBl_T (fun _ _ _ => trivial)) rfl rfl hl.1 rfl (lv_room (Nat.le_of_ble_eq_true rfl)) dX2_nextOf_2 ⟨(Nat.zero_le _), (Nat.zero_le _)⟩) hD hS hA (fun r9 u9 H locs hr9 hP hD hS => ?_)
  rcases hr9 with ⟨rfl, hg⟩ | ⟨rfl, hg⟩
  · skip
    refine lv_if_eq (tgt := 12) hx hb dX2_nextOf_5 (by decide) (fun c9 => absurd c9 (by decide)) (fun _ => ?_)
    refine lv_iconst (v := 0) hx hb dX2_nextOf_8 (by decide) ?_
    refine lv_goto (tgt := 13) hx hb dX2_nextOf_9 (by decide) ?_
    have hw := gM_si (w := w) (i := i) (j := j) (m0 := m0) (ar := ar) (cI := cI) (sv := (nI n)) (rv := rv) (tv := tv) (row := row) hij (nI n) rv 0
    refine va_put (D := D) (ci := 2) (v := .int 0) (ty := .int) (C := RX2) (T := TX2) (N := 4) hx hb hts i2_nextOf tyX2 tyX2_ok nmX2 hown hK hP hD hS i (gM_i hi hij) rfl 3 (by decide) f_thrown (fun _ h9 => h9) rfl (by decide +kernel) rfl rfl (Nat.le_of_ble_eq_true rfl) dX2_nextOf_13 (fun H locs hP2 hD2 hS => ?_)
    have hP := g_eqP hw hP2
    have hD := g_eqD hw hD2
    refine lv_aload_n hx hb dX2_nextOf_16 rfl (lv_at hl 0 rfl) ?_
    refine va_get (D := D) (ci := 2) (v := .int 0) (C := RX2) (T := TX2) (N := 4) hx hb hts i2_nextOf hown hK hP i (gM_i hi hij) rfl 3 (by decide) f_thrown (fun _ h9 => h9) rfl dX2_nextOf_17 ?_
    refine lv_if_ne (tgt := 31) hx hb dX2_nextOf_20 (by decide) (fun c9 => absurd rfl c9) (fun _ => ?_)
    refine lv_aload_n hx hb dX2_nextOf_23 rfl (lv_at hl 0 rfl) ?_
    refine lv_iload_n hx hb dX2_nextOf_24 rfl (lv_at hl 1 rfl) ?_
    refine g_calli (va_runV (As := [.int v0]) (rest := []) ⟨hx, hb, hml, hown, hts⟩ (m_next l D tys ht hi hj hij hn hrow H.size v0) (cwV 1 hts gX2_nextOf_X2_next rfl rfl rfl (by decide +kernel) ⟨Nat.le_of_ble_eq_true rfl, Nat.le_of_ble_eq_true rfl⟩) (gP_V (va_recv hK hP (ci := 2) rfl (gM_i hi hij)) hP hK hD gBl_T (fun _ _ _ => trivial)) rfl rfl hl.1 rfl (lv_room (Nat.le_of_ble_eq_true rfl)) dX2_nextOf_25 ⟨(Nat.zero_le _), (Nat.zero_le _)⟩) hD hS hA (fun r9 u8 H locs hr8 hP hD hS => ?_)
    refine lv_goto (tgt := 32) hx hb dX2_nextOf_28 (by decide) ?_
    exact g_reti hx hb hr hlocks hK (r9) (0 : Int32) hP hD hS (Nat.zero_le _) (Nat.zero_le _) (Or.inl ⟨rfl, hg, hr8⟩) dX2_nextOf_32
  · skip
    refine lv_if_eq (tgt := 12) hx hb dX2_nextOf_5 (by decide) (fun _ => ?_) (fun c9 => absurd rfl c9)
    refine lv_iconst (v := 1) hx hb dX2_nextOf_12 (by decide) ?_
    have hw := gM_si (w := w) (i := i) (j := j) (m0 := m0) (ar := ar) (cI := cI) (sv := (nI n)) (rv := rv) (tv := tv) (row := row) hij (nI n) rv 1
    refine va_put (D := D) (ci := 2) (v := .int 1) (ty := .int) (C := RX2) (T := TX2) (N := 4) hx hb hts i2_nextOf tyX2 tyX2_ok nmX2 hown hK hP hD hS i (gM_i hi hij) rfl 3 (by decide) f_thrown (fun _ h9 => h9) rfl (by decide +kernel) rfl rfl (Nat.le_of_ble_eq_true rfl) dX2_nextOf_13 (fun H locs hP2 hD2 hS => ?_)
    have hP := g_eqP hw hP2
    have hD := g_eqD hw hD2
    refine lv_aload_n hx hb dX2_nextOf_16 rfl (lv_at hl 0 rfl) ?_
    refine va_get (D := D) (ci := 2) (v := .int 1) (C := RX2) (T := TX2) (N := 4) hx hb hts i2_nextOf hown hK hP i (gM_i hi hij) rfl 3 (by decide) f_thrown (fun _ h9 => h9) rfl dX2_nextOf_17 ?_
    refine lv_if_ne (tgt := 31) hx hb dX2_nextOf_20 (by decide) (fun _ => ?_) (fun c9 => absurd c9 (by decide))
    refine lv_iconst (v := 0) hx hb dX2_nextOf_31 (by decide) ?_
    exact g_reti hx hb hr hlocks hK (0) (1 : Int32) hP hD hS (Nat.zero_le _) (Nat.zero_le _) (Or.inr ⟨rfl, hg⟩) dX2_nextOf_32
set_option maxHeartbeats 4000000 in
set_option maxRecDepth 100000 in
/-- pourBack(goblet) -/
theorem m_pourBack (l : Launch) (D : va_G) (tys : List (ClassId × FieldType)) {cI : ClassId} {t : Nat} (ht : tys[t]? = some (cI, .int)) {w : va_W} {i j : Nat} (hi : i < w.length) (hj : j < w.length) (hij : i ≠ j) {m0 ar : Nat} {rv tv : Int32} {row : Nat → Int32} {P : Nat → Int32} {n : Nat} (hn : n ≤ 5000) (hrow : gRow P n row) (sz : Nat) (v0 : Int32) : Met l yX2_pourBack wsX2_pourBack ({ frames := 1, cells := 0, slots := 0, locals := 24 } : Room) (gP D tys [.ref m0, .int v0] (wM w i j m0 ar cI (nI n) rv tv row) sz (fun _ => True)) (va_Qi (fun (r : Int32) (u : Int32 × (Nat → Int32)) => (u.1 = 0 ∧ gGob v0 ∧ r = nI (gct P v0 n) ∧ gRow (gmv P v0 8 0 5000) n u.2) ∨ (u.1 = 1 ∧ ¬ gGob v0 ∧ u.2 = row)) (fun u t => gWd D tys (va_A (wM w i j m0 ar cI (nI n) rv tv row) sz) (wM w i j m0 ar cI (nI n) rv u.1 u.2) t) (va_A (wM w i j m0 ar cI (nI n) rv tv row) sz)) 0 0 (va_A (wM w i j m0 ar cI (nI n) rv tv row) sz) := by
  refine g_ofW (cc := cX2_pourBack) (maxL := 2) (ret := some .int) (by decide) rfl (Nat.le_of_ble_eq_true rfl) ?_
  intro p e s m below meth c hx hb hr hml hts hown hlocks hin hsz hP hK hD hA hS hG ls hl
  subst hsz
  have hown : s.vm.findClass RX2 = some m.cls := hown
  have hl : lv_has ls 2 [(0, .ref m0), (1, .int v0)] := hl
  have f_thrown := hts (.fieldLink RX2 20 "NumberGobletsModel" "thrown" "I") (by decide +kernel)
  refine lv_aload_n hx hb dX2_pourBack_0 rfl (lv_at hl 0 rfl) ?_
  refine lv_iload_n hx hb dX2_pourBack_1 rfl (lv_at hl 1 rfl) ?_
  refine g_calli (va_runS (As := [.int v0]) (rest := [.ref m0]) ⟨hx, hb, hml, hown, hts⟩ (m_isGoblet l D tys (wM w i j m0 ar cI (nI n) rv tv row) s.heap.size v0) (va_cwS 1 hts gX2_pourBack_X2_isGoblet rfl rfl rfl (by decide +kernel) ⟨Nat.le_of_ble_eq_true rfl, Nat.le_of_ble_eq_true rfl⟩) (gP_S hP hK hD gBl_T (fun _ _ _ => trivial)) rfl rfl hl.1 rfl (lv_room (Nat.le_of_ble_eq_true rfl)) dX2_pourBack_2 ⟨(Nat.zero_le _), (Nat.zero_le _)⟩) hD hS hA (fun r9 u9 H locs hr9 hP hD hS => ?_)
  rcases hr9 with ⟨rfl, hg⟩ | ⟨rfl, hg⟩
  · skip
    refine lv_if_eq (tgt := 12) hx hb dX2_pourBack_5 (by decide) (fun c9 => absurd c9 (by decide)) (fun _ => ?_)
    refine lv_iconst (v := 0) hx hb dX2_pourBack_8 (by decide) ?_
    refine lv_goto (tgt := 13) hx hb dX2_pourBack_9 (by decide) ?_
    have hw := gM_si (w := w) (i := i) (j := j) (m0 := m0) (ar := ar) (cI := cI) (sv := (nI n)) (rv := rv) (tv := tv) (row := row) hij (nI n) rv 0
    refine va_put (D := D) (ci := 2) (v := .int 0) (ty := .int) (C := RX2) (T := TX2) (N := 4) hx hb hts i2_pourBack tyX2 tyX2_ok nmX2 hown hK hP hD hS i (gM_i hi hij) rfl 3 (by decide) f_thrown (fun _ h9 => h9) rfl (by decide +kernel) rfl rfl (Nat.le_of_ble_eq_true rfl) dX2_pourBack_13 (fun H locs hP2 hD2 hS => ?_)
    have hP := g_eqP hw hP2
    have hD := g_eqD hw hD2
    refine lv_aload_n hx hb dX2_pourBack_16 rfl (lv_at hl 0 rfl) ?_
    refine va_get (D := D) (ci := 2) (v := .int 0) (C := RX2) (T := TX2) (N := 4) hx hb hts i2_pourBack hown hK hP i (gM_i hi hij) rfl 3 (by decide) f_thrown (fun _ h9 => h9) rfl dX2_pourBack_17 ?_
    refine lv_if_ne (tgt := 33) hx hb dX2_pourBack_20 (by decide) (fun c9 => absurd rfl c9) (fun _ => ?_)
    refine lv_aload_n hx hb dX2_pourBack_23 rfl (lv_at hl 0 rfl) ?_
    refine lv_iload_n hx hb dX2_pourBack_24 rfl (lv_at hl 1 rfl) ?_
    refine lv_bipush (v := 8) hx hb dX2_pourBack_25 (by decide) ?_
    refine g_calli (va_runV (As := [.int v0, .int 8]) (rest := []) ⟨hx, hb, hml, hown, hts⟩ (m_moves l D tys ht hi hj hij hn hrow H.size v0 8) (cwV 2 hts gX2_pourBack_X2_moves rfl rfl rfl (by decide +kernel) ⟨Nat.le_of_ble_eq_true rfl, Nat.le_of_ble_eq_true rfl⟩) (gP_V (va_recv hK hP (ci := 2) rfl (gM_i hi hij)) hP hK hD gBl_T (fun _ _ _ => trivial)) rfl rfl hl.1 rfl (lv_room (Nat.le_of_ble_eq_true rfl)) dX2_pourBack_27 ⟨(Nat.zero_le _), (Nat.zero_le _)⟩) hD hS hA (fun r9 u8 H locs hr8 hP hD hS => ?_)
    refine lv_goto (tgt := 34) hx hb dX2_pourBack_30 (by decide) ?_
    exact g_reti hx hb hr hlocks hK (r9) ((0 : Int32), u8) hP hD hS (Nat.zero_le _) (Nat.zero_le _) (Or.inl ⟨rfl, hg, hr8.1, hr8.2⟩) dX2_pourBack_34
  · skip
    refine lv_if_eq (tgt := 12) hx hb dX2_pourBack_5 (by decide) (fun _ => ?_) (fun c9 => absurd rfl c9)
    refine lv_iconst (v := 1) hx hb dX2_pourBack_12 (by decide) ?_
    have hw := gM_si (w := w) (i := i) (j := j) (m0 := m0) (ar := ar) (cI := cI) (sv := (nI n)) (rv := rv) (tv := tv) (row := row) hij (nI n) rv 1
    refine va_put (D := D) (ci := 2) (v := .int 1) (ty := .int) (C := RX2) (T := TX2) (N := 4) hx hb hts i2_pourBack tyX2 tyX2_ok nmX2 hown hK hP hD hS i (gM_i hi hij) rfl 3 (by decide) f_thrown (fun _ h9 => h9) rfl (by decide +kernel) rfl rfl (Nat.le_of_ble_eq_true rfl) dX2_pourBack_13 (fun H locs hP2 hD2 hS => ?_)
    have hP := g_eqP hw hP2
    have hD := g_eqD hw hD2
    refine lv_aload_n hx hb dX2_pourBack_16 rfl (lv_at hl 0 rfl) ?_
    refine va_get (D := D) (ci := 2) (v := .int 1) (C := RX2) (T := TX2) (N := 4) hx hb hts i2_pourBack hown hK hP i (gM_i hi hij) rfl 3 (by decide) f_thrown (fun _ h9 => h9) rfl dX2_pourBack_17 ?_
    refine lv_if_ne (tgt := 33) hx hb dX2_pourBack_20 (by decide) (fun _ => ?_) (fun c9 => absurd c9 (by decide))
    refine lv_iconst (v := 0) hx hb dX2_pourBack_33 (by decide) ?_
    exact g_reti hx hb hr hlocks hK (0) ((1 : Int32), row) hP hD hS (Nat.zero_le _) (Nat.zero_le _) (Or.inr ⟨rfl, hg, rfl⟩) dX2_pourBack_34
set_option maxHeartbeats 4000000 in
set_option maxRecDepth 100000 in
/-- spill(goblet) -/
theorem m_spill (l : Launch) (D : va_G) (tys : List (ClassId × FieldType)) {cI : ClassId} {t : Nat} (ht : tys[t]? = some (cI, .int)) {w : va_W} {i j : Nat} (hi : i < w.length) (hj : j < w.length) (hij : i ≠ j) {m0 ar : Nat} {rv tv : Int32} {row : Nat → Int32} {P : Nat → Int32} {n : Nat} (hn : n ≤ 5000) (hrow : gRow P n row) (sz : Nat) (v0 : Int32) : Met l yX2_spill wsX2_spill ({ frames := 1, cells := 0, slots := 0, locals := 24 } : Room) (gP D tys [.ref m0, .int v0] (wM w i j m0 ar cI (nI n) rv tv row) sz (fun _ => True)) (va_Qi (fun (r : Int32) (u : Int32 × (Nat → Int32)) => (u.1 = 0 ∧ gGob v0 ∧ r = nI (gct P v0 n) ∧ gRow (gmv P v0 10 0 5000) n u.2) ∨ (u.1 = 1 ∧ ¬ gGob v0 ∧ u.2 = row)) (fun u t => gWd D tys (va_A (wM w i j m0 ar cI (nI n) rv tv row) sz) (wM w i j m0 ar cI (nI n) rv u.1 u.2) t) (va_A (wM w i j m0 ar cI (nI n) rv tv row) sz)) 0 0 (va_A (wM w i j m0 ar cI (nI n) rv tv row) sz) := by
  refine g_ofW (cc := cX2_spill) (maxL := 2) (ret := some .int) (by decide) rfl (Nat.le_of_ble_eq_true rfl) ?_
  intro p e s m below meth c hx hb hr hml hts hown hlocks hin hsz hP hK hD hA hS hG ls hl
  subst hsz
  have hown : s.vm.findClass RX2 = some m.cls := hown
  have hl : lv_has ls 2 [(0, .ref m0), (1, .int v0)] := hl
  have f_thrown := hts (.fieldLink RX2 20 "NumberGobletsModel" "thrown" "I") (by decide +kernel)
  refine lv_aload_n hx hb dX2_spill_0 rfl (lv_at hl 0 rfl) ?_
  refine lv_iload_n hx hb dX2_spill_1 rfl (lv_at hl 1 rfl) ?_
  refine g_calli (va_runS (As := [.int v0]) (rest := [.ref m0]) ⟨hx, hb, hml, hown, hts⟩ (m_isGoblet l D tys (wM w i j m0 ar cI (nI n) rv tv row) s.heap.size v0) (va_cwS 1 hts gX2_spill_X2_isGoblet rfl rfl rfl (by decide +kernel) ⟨Nat.le_of_ble_eq_true rfl, Nat.le_of_ble_eq_true rfl⟩) (gP_S hP hK hD gBl_T (fun _ _ _ => trivial)) rfl rfl hl.1 rfl (lv_room (Nat.le_of_ble_eq_true rfl)) dX2_spill_2 ⟨(Nat.zero_le _), (Nat.zero_le _)⟩) hD hS hA (fun r9 u9 H locs hr9 hP hD hS => ?_)
  rcases hr9 with ⟨rfl, hg⟩ | ⟨rfl, hg⟩
  · skip
    refine lv_if_eq (tgt := 12) hx hb dX2_spill_5 (by decide) (fun c9 => absurd c9 (by decide)) (fun _ => ?_)
    refine lv_iconst (v := 0) hx hb dX2_spill_8 (by decide) ?_
    refine lv_goto (tgt := 13) hx hb dX2_spill_9 (by decide) ?_
    have hw := gM_si (w := w) (i := i) (j := j) (m0 := m0) (ar := ar) (cI := cI) (sv := (nI n)) (rv := rv) (tv := tv) (row := row) hij (nI n) rv 0
    refine va_put (D := D) (ci := 2) (v := .int 0) (ty := .int) (C := RX2) (T := TX2) (N := 4) hx hb hts i2_spill tyX2 tyX2_ok nmX2 hown hK hP hD hS i (gM_i hi hij) rfl 3 (by decide) f_thrown (fun _ h9 => h9) rfl (by decide +kernel) rfl rfl (Nat.le_of_ble_eq_true rfl) dX2_spill_13 (fun H locs hP2 hD2 hS => ?_)
    have hP := g_eqP hw hP2
    have hD := g_eqD hw hD2
    refine lv_aload_n hx hb dX2_spill_16 rfl (lv_at hl 0 rfl) ?_
    refine va_get (D := D) (ci := 2) (v := .int 0) (C := RX2) (T := TX2) (N := 4) hx hb hts i2_spill hown hK hP i (gM_i hi hij) rfl 3 (by decide) f_thrown (fun _ h9 => h9) rfl dX2_spill_17 ?_
    refine lv_if_ne (tgt := 33) hx hb dX2_spill_20 (by decide) (fun c9 => absurd rfl c9) (fun _ => ?_)
    refine lv_aload_n hx hb dX2_spill_23 rfl (lv_at hl 0 rfl) ?_
    refine lv_iload_n hx hb dX2_spill_24 rfl (lv_at hl 1 rfl) ?_
    refine lv_bipush (v := 10) hx hb dX2_spill_25 (by decide) ?_
    refine g_calli (va_runV (As := [.int v0, .int 10]) (rest := []) ⟨hx, hb, hml, hown, hts⟩ (m_moves l D tys ht hi hj hij hn hrow H.size v0 10) (cwV 2 hts gX2_spill_X2_moves rfl rfl rfl (by decide +kernel) ⟨Nat.le_of_ble_eq_true rfl, Nat.le_of_ble_eq_true rfl⟩) (gP_V (va_recv hK hP (ci := 2) rfl (gM_i hi hij)) hP hK hD gBl_T (fun _ _ _ => trivial)) rfl rfl hl.1 rfl (lv_room (Nat.le_of_ble_eq_true rfl)) dX2_spill_27 ⟨(Nat.zero_le _), (Nat.zero_le _)⟩) hD hS hA (fun r9 u8 H locs hr8 hP hD hS => ?_)
    refine lv_goto (tgt := 34) hx hb dX2_spill_30 (by decide) ?_
    exact g_reti hx hb hr hlocks hK (r9) ((0 : Int32), u8) hP hD hS (Nat.zero_le _) (Nat.zero_le _) (Or.inl ⟨rfl, hg, hr8.1, hr8.2⟩) dX2_spill_34
  · skip
    refine lv_if_eq (tgt := 12) hx hb dX2_spill_5 (by decide) (fun _ => ?_) (fun c9 => absurd rfl c9)
    refine lv_iconst (v := 1) hx hb dX2_spill_12 (by decide) ?_
    have hw := gM_si (w := w) (i := i) (j := j) (m0 := m0) (ar := ar) (cI := cI) (sv := (nI n)) (rv := rv) (tv := tv) (row := row) hij (nI n) rv 1
    refine va_put (D := D) (ci := 2) (v := .int 1) (ty := .int) (C := RX2) (T := TX2) (N := 4) hx hb hts i2_spill tyX2 tyX2_ok nmX2 hown hK hP hD hS i (gM_i hi hij) rfl 3 (by decide) f_thrown (fun _ h9 => h9) rfl (by decide +kernel) rfl rfl (Nat.le_of_ble_eq_true rfl) dX2_spill_13 (fun H locs hP2 hD2 hS => ?_)
    have hP := g_eqP hw hP2
    have hD := g_eqD hw hD2
    refine lv_aload_n hx hb dX2_spill_16 rfl (lv_at hl 0 rfl) ?_
    refine va_get (D := D) (ci := 2) (v := .int 1) (C := RX2) (T := TX2) (N := 4) hx hb hts i2_spill hown hK hP i (gM_i hi hij) rfl 3 (by decide) f_thrown (fun _ h9 => h9) rfl dX2_spill_17 ?_
    refine lv_if_ne (tgt := 33) hx hb dX2_spill_20 (by decide) (fun _ => ?_) (fun c9 => absurd c9 (by decide))
    refine lv_iconst (v := 0) hx hb dX2_spill_33 (by decide) ?_
    exact g_reti hx hb hr hlocks hK (0) ((1 : Int32), row) hP hD hS (Nat.zero_le _) (Nat.zero_le _) (Or.inr ⟨rfl, hg, rfl⟩) dX2_spill_34
set_option maxHeartbeats 4000000 in
set_option maxRecDepth 100000 in
/-- nextRound() -/
theorem m_nextRound (l : Launch) (D : va_G) (tys : List (ClassId × FieldType)) {cI : ClassId} {t : Nat} (ht : tys[t]? = some (cI, .int)) {w : va_W} {i j : Nat} (hi : i < w.length) (hj : j < w.length) (hij : i ≠ j) {m0 ar : Nat} {rv tv : Int32} {row : Nat → Int32} {P : Nat → Int32} {n : Nat} (hn : n ≤ 5000) (hrow : gRow P n row) (sz : Nat)  : Met l yX2_nextRound wsX2_nextRound ({ frames := 1, cells := 0, slots := 0, locals := 24 } : Room) (gP D tys [.ref m0] (wM w i j m0 ar cI (nI n) rv tv row) sz (fun _ => True)) (va_Qi (fun (r : Int32) (u : Int32 × Int32 × (Nat → Int32)) => (u.1 = 0 ∧ gct P 9 n + gct P 10 n = n ∧ r = rv + 1 ∧ u.2.1 = rv + 1 ∧ gRow (gmv (gmv P 9 8 0 5000) 10 8 0 5000) n u.2.2) ∨ (u.1 = 1 ∧ ¬ gct P 9 n + gct P 10 n = n ∧ u.2.1 = rv ∧ u.2.2 = row)) (fun u t => gWd D tys (va_A (wM w i j m0 ar cI (nI n) rv tv row) sz) (wM w i j m0 ar cI (nI n) u.2.1 u.1 u.2.2) t) (va_A (wM w i j m0 ar cI (nI n) rv tv row) sz)) 0 0 (va_A (wM w i j m0 ar cI (nI n) rv tv row) sz) := by
  refine g_ofW (cc := cX2_nextRound) (maxL := 2) (ret := some .int) (by decide) rfl (Nat.le_of_ble_eq_true rfl) ?_
  intro p e s m below meth c hx hb hr hml hts hown hlocks hin hsz hP hK hD hA hS hG ls hl
  subst hsz
  have hown : s.vm.findClass RX2 = some m.cls := hown
  have hl : lv_has ls 2 [(0, .ref m0)] := hl
  have f_thrown := hts (.fieldLink RX2 20 "NumberGobletsModel" "thrown" "I") (by decide +kernel)
  have f_size := hts (.fieldLink RX2 13 "NumberGobletsModel" "size" "I") (by decide +kernel)
  have f_round := hts (.fieldLink RX2 17 "NumberGobletsModel" "round" "I") (by decide +kernel)
  have h9 := gct_le P 9 n
  have h10 := gct_le P 10 n
  refine lv_aload_n hx hb dX2_nextRound_0 rfl (lv_at hl 0 rfl) ?_
  refine lv_aload_n hx hb dX2_nextRound_1 rfl (lv_at hl 0 rfl) ?_
  refine lv_bipush (v := 9) hx hb dX2_nextRound_2 (by decide) ?_
  refine g_calli (va_runV (As := [.int 9]) (rest := [.ref m0]) ⟨hx, hb, hml, hown, hts⟩ (m_howMany l D tys ht hi hj hij hn hrow s.heap.size 9) (cwV 1 hts gX2_nextRound_X2_howMany rfl rfl rfl (by decide +kernel) ⟨Nat.le_of_ble_eq_true rfl, Nat.le_of_ble_eq_true rfl⟩) (gP_V (va_recv hK hP (ci := 2) rfl (gM_i hi hij)) hP hK hD gBl_T (fun _ _ _ => trivial)) rfl rfl hl.1 rfl (lv_room (Nat.le_of_ble_eq_true rfl)) dX2_nextRound_4 ⟨(Nat.zero_le _), (Nat.zero_le _)⟩) hD hS hA (fun r9 u9 H locs hr9 hP hD hS => ?_)
  subst hr9
  refine lv_aload_n hx hb dX2_nextRound_7 rfl (lv_at hl 0 rfl) ?_
  refine lv_bipush (v := 10) hx hb dX2_nextRound_8 (by decide) ?_
  refine g_calli (va_runV (As := [.int 10]) (rest := [.int (nI (gct P 9 n)), .ref m0]) ⟨hx, hb, hml, hown, hts⟩ (m_howMany l D tys ht hi hj hij hn hrow H.size 10) (cwV 1 hts gX2_nextRound_X2_howMany rfl rfl rfl (by decide +kernel) ⟨Nat.le_of_ble_eq_true rfl, Nat.le_of_ble_eq_true rfl⟩) (gP_V (va_recv hK hP (ci := 2) rfl (gM_i hi hij)) hP hK hD gBl_T (fun _ _ _ => trivial)) rfl rfl hl.1 rfl (lv_room (Nat.le_of_ble_eq_true rfl)) dX2_nextRound_10 ⟨(Nat.zero_le _), (Nat.zero_le _)⟩) hD hS hA (fun r8 u8 H locs hr8 hP hD hS => ?_)
  subst hr8
  refine lv_iadd hx hb dX2_nextRound_13 ?_
  refine g_top (y := nI (gct P 9 n + gct P 10 n)) (nI_add _ _) ?_
  refine lv_aload_n hx hb dX2_nextRound_14 rfl (lv_at hl 0 rfl) ?_
  refine va_get (D := D) (ci := 2) (v := .int (nI n)) (C := RX2) (T := TX2) (N := 4) hx hb hts i2_nextRound hown hK hP i (gM_i hi hij) rfl 1 (by decide) f_size (fun _ h9 => h9) rfl dX2_nextRound_15 ?_
  refine lv_icmp_ne (tgt := 25) hx hb dX2_nextRound_18 (by decide) (fun c1 => ?_) (fun c1 => ?_)
  · have hne : ¬ gct P 9 n + gct P 10 n = n := fun z => c1 (by rw [z])
    refine lv_iconst (v := 1) hx hb dX2_nextRound_25 (by decide) ?_
    have hw := gM_si (w := w) (i := i) (j := j) (m0 := m0) (ar := ar) (cI := cI) (sv := (nI n)) (rv := rv) (tv := tv) (row := row) hij (nI n) rv 1
    refine va_put (D := D) (ci := 2) (v := .int 1) (ty := .int) (C := RX2) (T := TX2) (N := 4) hx hb hts i2_nextRound tyX2 tyX2_ok nmX2 hown hK hP hD hS i (gM_i hi hij) rfl 3 (by decide) f_thrown (fun _ h9 => h9) rfl (by decide +kernel) rfl rfl (Nat.le_of_ble_eq_true rfl) dX2_nextRound_26 (fun H locs hP2 hD2 hS => ?_)
    have hP := g_eqP hw hP2
    have hD := g_eqD hw hD2
    refine lv_aload_n hx hb dX2_nextRound_29 rfl (lv_at hl 0 rfl) ?_
    refine va_get (D := D) (ci := 2) (v := .int 1) (C := RX2) (T := TX2) (N := 4) hx hb hts i2_nextRound hown hK hP i (gM_i hi hij) rfl 3 (by decide) f_thrown (fun _ h9 => h9) rfl dX2_nextRound_30 ?_
    refine lv_if_eq (tgt := 38) hx hb dX2_nextRound_33 (by decide) (fun c9 => absurd c9 (by decide)) (fun _ => ?_)
    refine lv_iconst (v := 0) hx hb dX2_nextRound_36 (by decide) ?_
    exact g_reti hx hb hr hlocks hK (0) ((1 : Int32), rv, row) hP hD hS (Nat.zero_le _) (Nat.zero_le _) (Or.inr ⟨rfl, hne, rfl, rfl⟩) dX2_nextRound_37
  · have heq : gct P 9 n + gct P 10 n = n := (nI_eq (by omega) (by omega)).mp c1
    refine lv_iconst (v := 0) hx hb dX2_nextRound_21 (by decide) ?_
    refine lv_goto (tgt := 26) hx hb dX2_nextRound_22 (by decide) ?_
    have hw := gM_si (w := w) (i := i) (j := j) (m0 := m0) (ar := ar) (cI := cI) (sv := (nI n)) (rv := rv) (tv := tv) (row := row) hij (nI n) rv 0
    refine va_put (D := D) (ci := 2) (v := .int 0) (ty := .int) (C := RX2) (T := TX2) (N := 4) hx hb hts i2_nextRound tyX2 tyX2_ok nmX2 hown hK hP hD hS i (gM_i hi hij) rfl 3 (by decide) f_thrown (fun _ h9 => h9) rfl (by decide +kernel) rfl rfl (Nat.le_of_ble_eq_true rfl) dX2_nextRound_26 (fun H locs hP2 hD2 hS => ?_)
    have hP := g_eqP hw hP2
    have hD := g_eqD hw hD2
    refine lv_aload_n hx hb dX2_nextRound_29 rfl (lv_at hl 0 rfl) ?_
    refine va_get (D := D) (ci := 2) (v := .int 0) (C := RX2) (T := TX2) (N := 4) hx hb hts i2_nextRound hown hK hP i (gM_i hi hij) rfl 3 (by decide) f_thrown (fun _ h9 => h9) rfl dX2_nextRound_30 ?_
    refine lv_if_eq (tgt := 38) hx hb dX2_nextRound_33 (by decide) (fun _ => ?_) (fun c9 => absurd rfl c9)
    refine lv_aload_n hx hb dX2_nextRound_38 rfl (lv_at hl 0 rfl) ?_
    refine lv_bipush (v := 9) hx hb dX2_nextRound_39 (by decide) ?_
    refine lv_bipush (v := 8) hx hb dX2_nextRound_41 (by decide) ?_
    refine g_calli (va_runV (As := [.int 9, .int 8]) (rest := []) ⟨hx, hb, hml, hown, hts⟩ (m_moves l D tys ht hi hj hij hn hrow H.size 9 8) (cwV 2 hts gX2_nextRound_X2_moves rfl rfl rfl (by decide +kernel) ⟨Nat.le_of_ble_eq_true rfl, Nat.le_of_ble_eq_true rfl⟩) (gP_V (va_recv hK hP (ci := 2) rfl (gM_i hi hij)) hP hK hD gBl_T (fun _ _ _ => trivial)) rfl rfl hl.1 rfl (lv_room (Nat.le_of_ble_eq_true rfl)) dX2_nextRound_43 ⟨(Nat.zero_le _), (Nat.zero_le _)⟩) hD hS hA (fun r7 row7 H locs hr7 hP hD hS => ?_)
    refine lv_aload_n hx hb dX2_nextRound_46 rfl (lv_at hl 0 rfl) ?_
    refine lv_bipush (v := 10) hx hb dX2_nextRound_47 (by decide) ?_
    refine lv_bipush (v := 8) hx hb dX2_nextRound_49 (by decide) ?_
    refine g_calli (va_runV (As := [.int 10, .int 8]) (rest := [.int r7]) ⟨hx, hb, hml, hown, hts⟩ (m_moves l D tys ht hi hj hij hn hr7.2 H.size 10 8) (cwV 2 hts gX2_nextRound_X2_moves rfl rfl rfl (by decide +kernel) ⟨Nat.le_of_ble_eq_true rfl, Nat.le_of_ble_eq_true rfl⟩) (gP_V (va_recv hK hP (ci := 2) rfl (gM_i hi hij)) hP hK hD gBl_T (fun _ _ _ => trivial)) rfl rfl hl.1 rfl (lv_room (Nat.le_of_ble_eq_true rfl)) dX2_nextRound_51 ⟨(Nat.zero_le _), (Nat.zero_le _)⟩) hD hS hA (fun r6 row6 H locs hr6 hP hD hS => ?_)
    refine lv_iadd hx hb dX2_nextRound_54 ?_
    refine lv_istore_n (lv' := [(1, .int (r7 + r6)), (0, .ref m0)]) hx hb dX2_nextRound_55 rfl hl (by decide) rfl (fun ls hl => ?_)
    refine lv_aload_n hx hb dX2_nextRound_56 rfl (lv_at hl 1 rfl) ?_
    refine lv_dup hx hb dX2_nextRound_57 rfl ?_
    refine va_get (D := D) (ci := 2) (v := .int rv) (C := RX2) (T := TX2) (N := 4) hx hb hts i2_nextRound hown hK hP i (gM_i hi hij) rfl 2 (by decide) f_round (fun _ h9 => h9) rfl dX2_nextRound_58 ?_
    refine lv_iconst (v := 1) hx hb dX2_nextRound_61 (by decide) ?_
    refine lv_iadd hx hb dX2_nextRound_62 ?_
    have hw := gM_si (w := w) (i := i) (j := j) (m0 := m0) (ar := ar) (cI := cI) (sv := (nI n)) (rv := rv) (tv := 0) (row := row6) hij (nI n) (rv + 1) 0
    refine va_put (D := D) (ci := 2) (v := .int (rv + 1)) (ty := .int) (C := RX2) (T := TX2) (N := 4) hx hb hts i2_nextRound tyX2 tyX2_ok nmX2 hown hK hP hD hS i (gM_i hi hij) rfl 2 (by decide) f_round (fun _ h9 => h9) rfl (by decide +kernel) rfl rfl (Nat.le_of_ble_eq_true rfl) dX2_nextRound_63 (fun H locs hP2 hD2 hS => ?_)
    have hP := g_eqP hw hP2
    have hD := g_eqD hw hD2
    refine lv_aload_n hx hb dX2_nextRound_66 rfl (lv_at hl 1 rfl) ?_
    refine va_get (D := D) (ci := 2) (v := .int (rv + 1)) (C := RX2) (T := TX2) (N := 4) hx hb hts i2_nextRound hown hK hP i (gM_i hi hij) rfl 2 (by decide) f_round (fun _ h9 => h9) rfl dX2_nextRound_67 ?_
    exact g_reti hx hb hr hlocks hK (rv + 1) ((0 : Int32), rv + 1, row6) hP hD hS (Nat.zero_le _) (Nat.zero_le _) (Or.inl ⟨rfl, heq, rfl, rfl, hr6.2⟩) dX2_nextRound_70
set_option maxHeartbeats 4000000 in
set_option maxRecDepth 100000 in
/-- placeOf(number) -/
theorem m_placeOf (l : Launch) (D : va_G) (tys : List (ClassId × FieldType)) {cI : ClassId} {t : Nat} (ht : tys[t]? = some (cI, .int)) {w : va_W} {i j : Nat} (hi : i < w.length) (hj : j < w.length) (hij : i ≠ j) {m0 ar : Nat} {rv tv : Int32} {row : Nat → Int32} {P : Nat → Int32} {n : Nat} (hn : n ≤ 5000) (hrow : gRow P n row) (sz : Nat) (v0 : Int32) : Met l yX2_placeOf wsX2_placeOf ({ frames := 0, cells := 0, slots := 0, locals := 0 } : Room) (gP D tys [.ref m0, .int v0] (wM w i j m0 ar cI (nI n) rv tv row) sz (fun _ => True)) (va_Qi (fun (r : Int32) (_ : Unit) => (∃ q : Nat, 1 ≤ q ∧ q ≤ n ∧ v0 = nI q ∧ r = P q) ∨ (r = -1 ∧ ∀ q : Nat, 1 ≤ q → q ≤ n → ¬ v0 = nI q)) (fun _ t => gWd D tys (va_A (wM w i j m0 ar cI (nI n) rv tv row) sz) (wM w i j m0 ar cI (nI n) rv 0 row) t) (va_A (wM w i j m0 ar cI (nI n) rv tv row) sz)) 0 0 (va_A (wM w i j m0 ar cI (nI n) rv tv row) sz) := by
  refine g_ofW (cc := cX2_placeOf) (maxL := 2) (ret := some .int) (by decide) rfl (Nat.le_of_ble_eq_true rfl) ?_
  intro p e s m below meth c hx hb hr hml hts hown hlocks hin hsz hP hK hD hA hS hG ls hl
  subst hsz
  have hown : s.vm.findClass RX2 = some m.cls := hown
  have hl : lv_has ls 2 [(0, .ref m0), (1, .int v0)] := hl
  have f_thrown := hts (.fieldLink RX2 20 "NumberGobletsModel" "thrown" "I") (by decide +kernel)
  have f_size := hts (.fieldLink RX2 13 "NumberGobletsModel" "size" "I") (by decide +kernel)
  have f_place := hts (.fieldLink RX2 7 "NumberGobletsModel" "place" "[I") (by decide +kernel)
  refine lv_aload_n hx hb dX2_placeOf_0 rfl (lv_at hl 0 rfl) ?_
  refine lv_iconst (v := 0) hx hb dX2_placeOf_1 (by decide) ?_
  have hw := gM_si (w := w) (i := i) (j := j) (m0 := m0) (ar := ar) (cI := cI) (sv := (nI n)) (rv := rv) (tv := tv) (row := row) hij (nI n) rv 0
  refine va_put (D := D) (ci := 2) (v := .int 0) (ty := .int) (C := RX2) (T := TX2) (N := 4) hx hb hts i2_placeOf tyX2 tyX2_ok nmX2 hown hK hP hD hS i (gM_i hi hij) rfl 3 (by decide) f_thrown (fun _ h9 => h9) rfl (by decide +kernel) rfl rfl (Nat.le_of_ble_eq_true rfl) dX2_placeOf_2 (fun H locs hP2 hD2 hS => ?_)
  have hP := g_eqP hw hP2
  have hD := g_eqD hw hD2
  refine lv_iload_n hx hb dX2_placeOf_5 rfl (lv_at hl 1 rfl) ?_
  refine lv_iconst (v := 1) hx hb dX2_placeOf_6 (by decide) ?_
  refine lv_icmp_lt (tgt := 27) hx hb dX2_placeOf_7 (by decide) (fun c1 => ?_) (fun c1 => ?_)
  · skip
    refine lv_iconst (v := -1) hx hb dX2_placeOf_27 (by decide) ?_
    exact g_reti hx hb hr hlocks hK (-1) () hP hD hS (Nat.zero_le _) (Nat.zero_le _) (Or.inr ⟨rfl, fun q h1 h2 h3 => by rw [h3] at c1; exact nI_nlt (a := q) (b := 1) h1 (by omega) c1⟩) dX2_placeOf_28
  · skip
    refine lv_iload_n hx hb dX2_placeOf_10 rfl (lv_at hl 1 rfl) ?_
    refine lv_aload_n hx hb dX2_placeOf_11 rfl (lv_at hl 0 rfl) ?_
    refine va_get (D := D) (ci := 2) (v := .int (nI n)) (C := RX2) (T := TX2) (N := 4) hx hb hts i2_placeOf hown hK hP i (gM_i hi hij) rfl 1 (by decide) f_size (fun _ h9 => h9) rfl dX2_placeOf_12 ?_
    refine lv_icmp_gt (tgt := 27) hx hb dX2_placeOf_15 (by decide) (fun c2 => ?_) (fun c2 => ?_)
    · skip
      refine lv_iconst (v := -1) hx hb dX2_placeOf_27 (by decide) ?_
      exact g_reti hx hb hr hlocks hK (-1) () hP hD hS (Nat.zero_le _) (Nat.zero_le _) (Or.inr ⟨rfl, fun q h1 h2 h3 => by rw [h3] at c2; exact nI_nlt h2 (by omega) c2⟩) dX2_placeOf_28
    · obtain ⟨q, q1, q2, rfl⟩ := g_num hn c1 c2
      refine lv_aload_n hx hb dX2_placeOf_18 rfl (lv_at hl 0 rfl) ?_
      refine va_get (D := D) (ci := 2) (v := .ref ar) (C := RX2) (T := TX2) (N := 4) hx hb hts i2_placeOf hown hK hP i (gM_i hi hij) rfl 0 (by decide) f_place (fun _ h9 => h9) rfl dX2_placeOf_19 ?_
      refine lv_iload_n hx hb dX2_placeOf_22 rfl (lv_at hl 1 rfl) ?_
      refine va_iald hx hb hK hP j t (gM_j hj) ht (vp_in_nI (n := q) (by omega) (by omega)) dX2_placeOf_23 ?_
      refine g_top (y := P q) (by rw [nI_clamp (by omega)]; exact hrow q q1 q2) ?_
      refine lv_goto (tgt := 28) hx hb dX2_placeOf_24 (by decide) ?_
      exact g_reti hx hb hr hlocks hK (P q) () hP hD hS (Nat.zero_le _) (Nat.zero_le _) (Or.inl ⟨q, q1, q2, rfl, rfl⟩) dX2_placeOf_28
set_option maxHeartbeats 4000000 in
set_option maxRecDepth 100000 in
/-- giveBack(number) -/
theorem m_giveBack (l : Launch) (D : va_G) (tys : List (ClassId × FieldType)) {cI : ClassId} {t : Nat} (ht : tys[t]? = some (cI, .int)) {w : va_W} {i j : Nat} (hi : i < w.length) (hj : j < w.length) (hij : i ≠ j) {m0 ar : Nat} {rv tv : Int32} {row : Nat → Int32} {P : Nat → Int32} {n : Nat} (hn : n ≤ 5000) (hrow : gRow P n row) (sz : Nat) (v0 : Int32) : Met l yX2_giveBack wsX2_giveBack ({ frames := 1, cells := 0, slots := 0, locals := 23 } : Room) (gP D tys [.ref m0, .int v0] (wM w i j m0 ar cI (nI n) rv tv row) sz (fun _ => True)) (va_Qi (fun (r : Int32) (u : Int32 × (Nat → Int32)) => (u.1 = 0 ∧ ∃ q : Nat, 1 ≤ q ∧ q ≤ n ∧ v0 = nI q ∧ P q = 9 ∧ r = nI (gct (va_up P q 8) 8 n) ∧ gRow (va_up P q 8) n u.2) ∨ (u.1 = 1 ∧ (∀ q : Nat, 1 ≤ q → q ≤ n → v0 = nI q → ¬ P q = 9) ∧ u.2 = row)) (fun u t => gWd D tys (va_A (wM w i j m0 ar cI (nI n) rv tv row) sz) (wM w i j m0 ar cI (nI n) rv u.1 u.2) t) (va_A (wM w i j m0 ar cI (nI n) rv tv row) sz)) 0 0 (va_A (wM w i j m0 ar cI (nI n) rv tv row) sz) := by
  refine g_ofW (cc := cX2_giveBack) (maxL := 2) (ret := some .int) (by decide) rfl (Nat.le_of_ble_eq_true rfl) ?_
  intro p e s m below meth c hx hb hr hml hts hown hlocks hin hsz hP hK hD hA hS hG ls hl
  subst hsz
  have hown : s.vm.findClass RX2 = some m.cls := hown
  have hl : lv_has ls 2 [(0, .ref m0), (1, .int v0)] := hl
  have f_thrown := hts (.fieldLink RX2 20 "NumberGobletsModel" "thrown" "I") (by decide +kernel)
  have f_size := hts (.fieldLink RX2 13 "NumberGobletsModel" "size" "I") (by decide +kernel)
  have f_place := hts (.fieldLink RX2 7 "NumberGobletsModel" "place" "[I") (by decide +kernel)
  refine lv_aload_n hx hb dX2_giveBack_0 rfl (lv_at hl 0 rfl) ?_
  refine lv_iload_n hx hb dX2_giveBack_1 rfl (lv_at hl 1 rfl) ?_
  refine lv_iconst (v := 1) hx hb dX2_giveBack_2 (by decide) ?_
  refine lv_icmp_lt (tgt := 29) hx hb dX2_giveBack_3 (by decide) (fun c1 => ?_) (fun c1 => ?_)
  · skip
    refine lv_iconst (v := 1) hx hb dX2_giveBack_29 (by decide) ?_
    have hw := gM_si (w := w) (i := i) (j := j) (m0 := m0) (ar := ar) (cI := cI) (sv := (nI n)) (rv := rv) (tv := tv) (row := row) hij (nI n) rv 1
    refine va_put (D := D) (ci := 2) (v := .int 1) (ty := .int) (C := RX2) (T := TX2) (N := 4) hx hb hts i2_giveBack tyX2 tyX2_ok nmX2 hown hK hP hD hS i (gM_i hi hij) rfl 3 (by decide) f_thrown (fun _ h9 => h9) rfl (by decide +kernel) rfl rfl (Nat.le_of_ble_eq_true rfl) dX2_giveBack_30 (fun H locs hP2 hD2 hS => ?_)
    have hP := g_eqP hw hP2
    have hD := g_eqD hw hD2
    refine lv_aload_n hx hb dX2_giveBack_33 rfl (lv_at hl 0 rfl) ?_
    refine va_get (D := D) (ci := 2) (v := .int 1) (C := RX2) (T := TX2) (N := 4) hx hb hts i2_giveBack hown hK hP i (gM_i hi hij) rfl 3 (by decide) f_thrown (fun _ h9 => h9) rfl dX2_giveBack_34 ?_
    refine lv_if_eq (tgt := 42) hx hb dX2_giveBack_37 (by decide) (fun c9 => absurd c9 (by decide)) (fun _ => ?_)
    refine lv_iconst (v := 0) hx hb dX2_giveBack_40 (by decide) ?_
    exact g_reti hx hb hr hlocks hK (0) ((1 : Int32), row) hP hD hS (Nat.zero_le _) (Nat.zero_le _) (Or.inr ⟨rfl, fun q h1 h2 h3 _ => by rw [h3] at c1; exact nI_nlt (a := q) (b := 1) h1 (by omega) c1, rfl⟩) dX2_giveBack_41
  · skip
    refine lv_iload_n hx hb dX2_giveBack_6 rfl (lv_at hl 1 rfl) ?_
    refine lv_aload_n hx hb dX2_giveBack_7 rfl (lv_at hl 0 rfl) ?_
    refine va_get (D := D) (ci := 2) (v := .int (nI n)) (C := RX2) (T := TX2) (N := 4) hx hb hts i2_giveBack hown hK hP i (gM_i hi hij) rfl 1 (by decide) f_size (fun _ h9 => h9) rfl dX2_giveBack_8 ?_
    refine lv_icmp_gt (tgt := 29) hx hb dX2_giveBack_11 (by decide) (fun c2 => ?_) (fun c2 => ?_)
    · skip
      refine lv_iconst (v := 1) hx hb dX2_giveBack_29 (by decide) ?_
      have hw := gM_si (w := w) (i := i) (j := j) (m0 := m0) (ar := ar) (cI := cI) (sv := (nI n)) (rv := rv) (tv := tv) (row := row) hij (nI n) rv 1
      refine va_put (D := D) (ci := 2) (v := .int 1) (ty := .int) (C := RX2) (T := TX2) (N := 4) hx hb hts i2_giveBack tyX2 tyX2_ok nmX2 hown hK hP hD hS i (gM_i hi hij) rfl 3 (by decide) f_thrown (fun _ h9 => h9) rfl (by decide +kernel) rfl rfl (Nat.le_of_ble_eq_true rfl) dX2_giveBack_30 (fun H locs hP2 hD2 hS => ?_)
      have hP := g_eqP hw hP2
      have hD := g_eqD hw hD2
      refine lv_aload_n hx hb dX2_giveBack_33 rfl (lv_at hl 0 rfl) ?_
      refine va_get (D := D) (ci := 2) (v := .int 1) (C := RX2) (T := TX2) (N := 4) hx hb hts i2_giveBack hown hK hP i (gM_i hi hij) rfl 3 (by decide) f_thrown (fun _ h9 => h9) rfl dX2_giveBack_34 ?_
      refine lv_if_eq (tgt := 42) hx hb dX2_giveBack_37 (by decide) (fun c9 => absurd c9 (by decide)) (fun _ => ?_)
      refine lv_iconst (v := 0) hx hb dX2_giveBack_40 (by decide) ?_
      exact g_reti hx hb hr hlocks hK (0) ((1 : Int32), row) hP hD hS (Nat.zero_le _) (Nat.zero_le _) (Or.inr ⟨rfl, fun q h1 h2 h3 _ => by rw [h3] at c2; exact nI_nlt h2 (by omega) c2, rfl⟩) dX2_giveBack_41
    · obtain ⟨q, q1, q2, rfl⟩ := g_num hn c1 c2
      refine lv_aload_n hx hb dX2_giveBack_14 rfl (lv_at hl 0 rfl) ?_
      refine va_get (D := D) (ci := 2) (v := .ref ar) (C := RX2) (T := TX2) (N := 4) hx hb hts i2_giveBack hown hK hP i (gM_i hi hij) rfl 0 (by decide) f_place (fun _ h9 => h9) rfl dX2_giveBack_15 ?_
      refine lv_iload_n hx hb dX2_giveBack_18 rfl (lv_at hl 1 rfl) ?_
      refine va_iald hx hb hK hP j t (gM_j hj) ht (vp_in_nI (n := q) (by omega) (by omega)) dX2_giveBack_19 ?_
      refine g_top (y := P q) (by rw [nI_clamp (by omega)]; exact hrow q q1 q2) ?_
      refine lv_bipush (v := 9) hx hb dX2_giveBack_20 (by decide) ?_
      refine lv_icmp_ne (tgt := 29) hx hb dX2_giveBack_22 (by decide) (fun c3 => ?_) (fun c3 => ?_)
      · skip
        refine lv_iconst (v := 1) hx hb dX2_giveBack_29 (by decide) ?_
        have hw := gM_si (w := w) (i := i) (j := j) (m0 := m0) (ar := ar) (cI := cI) (sv := (nI n)) (rv := rv) (tv := tv) (row := row) hij (nI n) rv 1
        refine va_put (D := D) (ci := 2) (v := .int 1) (ty := .int) (C := RX2) (T := TX2) (N := 4) hx hb hts i2_giveBack tyX2 tyX2_ok nmX2 hown hK hP hD hS i (gM_i hi hij) rfl 3 (by decide) f_thrown (fun _ h9 => h9) rfl (by decide +kernel) rfl rfl (Nat.le_of_ble_eq_true rfl) dX2_giveBack_30 (fun H locs hP2 hD2 hS => ?_)
        have hP := g_eqP hw hP2
        have hD := g_eqD hw hD2
        refine lv_aload_n hx hb dX2_giveBack_33 rfl (lv_at hl 0 rfl) ?_
        refine va_get (D := D) (ci := 2) (v := .int 1) (C := RX2) (T := TX2) (N := 4) hx hb hts i2_giveBack hown hK hP i (gM_i hi hij) rfl 3 (by decide) f_thrown (fun _ h9 => h9) rfl dX2_giveBack_34 ?_
        refine lv_if_eq (tgt := 42) hx hb dX2_giveBack_37 (by decide) (fun c9 => absurd c9 (by decide)) (fun _ => ?_)
        refine lv_iconst (v := 0) hx hb dX2_giveBack_40 (by decide) ?_
        exact g_reti hx hb hr hlocks hK (0) ((1 : Int32), row) hP hD hS (Nat.zero_le _) (Nat.zero_le _) (Or.inr ⟨rfl, fun q9 h1 h2 h3 h4 => c3 (by rw [(nI_eq (by omega) (by omega)).mp h3]; exact h4), rfl⟩) dX2_giveBack_41
      · skip
        refine lv_iconst (v := 0) hx hb dX2_giveBack_25 (by decide) ?_
        refine lv_goto (tgt := 30) hx hb dX2_giveBack_26 (by decide) ?_
        have hw := gM_si (w := w) (i := i) (j := j) (m0 := m0) (ar := ar) (cI := cI) (sv := (nI n)) (rv := rv) (tv := tv) (row := row) hij (nI n) rv 0
        refine va_put (D := D) (ci := 2) (v := .int 0) (ty := .int) (C := RX2) (T := TX2) (N := 4) hx hb hts i2_giveBack tyX2 tyX2_ok nmX2 hown hK hP hD hS i (gM_i hi hij) rfl 3 (by decide) f_thrown (fun _ h9 => h9) rfl (by decide +kernel) rfl rfl (Nat.le_of_ble_eq_true rfl) dX2_giveBack_30 (fun H locs hP2 hD2 hS => ?_)
        have hP := g_eqP hw hP2
        have hD := g_eqD hw hD2
        refine lv_aload_n hx hb dX2_giveBack_33 rfl (lv_at hl 0 rfl) ?_
        refine va_get (D := D) (ci := 2) (v := .int 0) (C := RX2) (T := TX2) (N := 4) hx hb hts i2_giveBack hown hK hP i (gM_i hi hij) rfl 3 (by decide) f_thrown (fun _ h9 => h9) rfl dX2_giveBack_34 ?_
        refine lv_if_eq (tgt := 42) hx hb dX2_giveBack_37 (by decide) (fun _ => ?_) (fun c9 => absurd rfl c9)
        refine lv_aload_n hx hb dX2_giveBack_42 rfl (lv_at hl 0 rfl) ?_
        refine va_get (D := D) (ci := 2) (v := .ref ar) (C := RX2) (T := TX2) (N := 4) hx hb hts i2_giveBack hown hK hP i (gM_i hi hij) rfl 0 (by decide) f_place (fun _ h9 => h9) rfl dX2_giveBack_43 ?_
        refine lv_iload_n hx hb dX2_giveBack_46 rfl (lv_at hl 1 rfl) ?_
        refine lv_bipush (v := 8) hx hb dX2_giveBack_47 (by decide) ?_
        refine va_iast hx hb hK hP hD hS j t (gM_j hj) ht (vp_in_nI (n := q) (by omega) (by omega)) dX2_giveBack_49 (fun H locs hP2 hD2 hS => ?_)
        rw [nI_clamp (by omega)] at hP2 hD2
        have hw := gM_sj (w := w) (i := i) (j := j) (m0 := m0) (ar := ar) (cI := cI) (sv := (nI n)) (rv := rv) (tv := 0) (row := row) (upd row q 8)
        have hP := g_eqP hw hP2
        have hD := g_eqD hw hD2
        have hrow2 : gRow (va_up P q 8) n (upd row q 8) := fun k h1 h2 => by by_cases z : k = q; rw [z, pk_us, va_up_self]; rw [pk_un z, va_up_ne _ _ z]; exact hrow k h1 h2
        refine lv_aload_n hx hb dX2_giveBack_50 rfl (lv_at hl 0 rfl) ?_
        refine lv_bipush (v := 8) hx hb dX2_giveBack_51 (by decide) ?_
        refine g_calli (va_runV (As := [.int 8]) (rest := []) ⟨hx, hb, hml, hown, hts⟩ (m_howMany l D tys ht hi hj hij hn hrow2 H.size 8) (cwV 1 hts gX2_giveBack_X2_howMany rfl rfl rfl (by decide +kernel) ⟨Nat.le_of_ble_eq_true rfl, Nat.le_of_ble_eq_true rfl⟩) (gP_V (va_recv hK hP (ci := 2) rfl (gM_i hi hij)) hP hK hD gBl_T (fun _ _ _ => trivial)) rfl rfl hl.1 rfl (lv_room (Nat.le_of_ble_eq_true rfl)) dX2_giveBack_53 ⟨(Nat.zero_le _), (Nat.zero_le _)⟩) hD hS hA (fun r9 u9 H locs hr9 hP hD hS => ?_)
        exact g_reti hx hb hr hlocks hK (r9) ((0 : Int32), upd row q 8) hP hD hS (Nat.zero_le _) (Nat.zero_le _) (Or.inl ⟨rfl, q, q1, q2, rfl, c3, hr9, hrow2⟩) dX2_giveBack_56
set_option maxHeartbeats 4000000 in
set_option maxRecDepth 100000 in
/-- drink(goblet) -/
theorem m_drink (l : Launch) (D : va_G) (tys : List (ClassId × FieldType)) {cI : ClassId} {t : Nat} (ht : tys[t]? = some (cI, .int)) {w : va_W} {i j : Nat} (hi : i < w.length) (hj : j < w.length) (hij : i ≠ j) {m0 ar : Nat} {rv tv : Int32} {row : Nat → Int32} {P : Nat → Int32} {n : Nat} (hn : n ≤ 5000) (hrow : gRow P n row) (sz : Nat) (v0 : Int32) : Met l yX2_drink wsX2_drink ({ frames := 2, cells := 0, slots := 0, locals := 44 } : Room) (gP D tys [.ref m0, .int v0] (wM w i j m0 ar cI (nI n) rv tv row) sz (fun _ => True)) (va_Qi (fun (r : Int32) (u : Int32 × (Nat → Int32)) => (u.1 = 0 ∧ gGob v0 ∧ ∃ v : Nat, 1 ≤ v ∧ v ≤ n ∧ r = nI v ∧ (glow (fun q => P q = v0) n v ∨ (glow (fun q => P q = v0) n 0 ∧ glow (fun q => P q = 8) n v)) ∧ gRow (va_up P v 9) n u.2) ∨ (u.1 = 1 ∧ ¬ gGob v0 ∧ u.2 = row) ∨ (u.1 = 2 ∧ gGob v0 ∧ glow (fun q => P q = v0) n 0 ∧ glow (fun q => P q = 8) n 0 ∧ u.2 = row)) (fun u t => gWd D tys (va_A (wM w i j m0 ar cI (nI n) rv tv row) sz) (wM w i j m0 ar cI (nI n) rv u.1 u.2) t) (va_A (wM w i j m0 ar cI (nI n) rv tv row) sz)) 0 0 (va_A (wM w i j m0 ar cI (nI n) rv tv row) sz) := by
  refine g_ofW (cc := cX2_drink) (maxL := 3) (ret := some .int) (by decide) rfl (Nat.le_of_ble_eq_true rfl) ?_
  intro p e s m below meth c hx hb hr hml hts hown hlocks hin hsz hP hK hD hA hS hG ls hl
  subst hsz
  have hown : s.vm.findClass RX2 = some m.cls := hown
  have hl : lv_has ls 3 [(0, .ref m0), (1, .int v0)] := hl
  have f_thrown := hts (.fieldLink RX2 20 "NumberGobletsModel" "thrown" "I") (by decide +kernel)
  have f_place := hts (.fieldLink RX2 7 "NumberGobletsModel" "place" "[I") (by decide +kernel)
  refine lv_iload_n hx hb dX2_drink_0 rfl (lv_at hl 1 rfl) ?_
  refine g_calli (va_runS (As := [.int v0]) (rest := []) ⟨hx, hb, hml, hown, hts⟩ (m_isGoblet l D tys (wM w i j m0 ar cI (nI n) rv tv row) s.heap.size v0) (va_cwS 1 hts gX2_drink_X2_isGoblet rfl rfl rfl (by decide +kernel) ⟨Nat.le_of_ble_eq_true rfl, Nat.le_of_ble_eq_true rfl⟩) (gP_S hP hK hD gBl_T (fun _ _ _ => trivial)) rfl rfl hl.1 rfl (lv_room (Nat.le_of_ble_eq_true rfl)) dX2_drink_1 ⟨(Nat.zero_le _), (Nat.zero_le _)⟩) hD hS hA (fun r9 u9 H locs hr9 hP hD hS => ?_)
  rcases hr9 with ⟨rfl, hg⟩ | ⟨rfl, hg⟩
  · skip
    refine lv_if_eq (tgt := 15) hx hb dX2_drink_4 (by decide) (fun c9 => absurd c9 (by decide)) (fun _ => ?_)
    refine lv_aload_n hx hb dX2_drink_7 rfl (lv_at hl 0 rfl) ?_
    refine lv_iload_n hx hb dX2_drink_8 rfl (lv_at hl 1 rfl) ?_
    refine g_calli (va_runV (As := [.int v0]) (rest := []) ⟨hx, hb, hml, hown, hts⟩ (m_next l D tys ht hi hj hij hn hrow H.size v0) (cwV 1 hts gX2_drink_X2_next rfl rfl rfl (by decide +kernel) ⟨Nat.le_of_ble_eq_true rfl, Nat.le_of_ble_eq_true rfl⟩) (gP_V (va_recv hK hP (ci := 2) rfl (gM_i hi hij)) hP hK hD gBl_T (fun _ _ _ => trivial)) rfl rfl hl.1 rfl (lv_room (Nat.le_of_ble_eq_true rfl)) dX2_drink_9 ⟨(Nat.zero_le _), (Nat.zero_le _)⟩) hD hS hA (fun r8 u8 H locs hr8 hP hD hS => ?_)
    obtain ⟨v, w9, hlv, hlw, rfl⟩ := hr8
    obtain ⟨d9, hd9⟩ : ∃ z, z = (if v = 0 then w9 else v) := ⟨_, rfl⟩
    rw [← hd9]
    have hdn : d9 ≤ n := by have := glow_le hlv; have := glow_le hlw; rw [hd9]; split <;> omega
    have hd0 : d9 = 0 → glow (fun q => P q = v0) n 0 ∧ glow (fun q => P q = 8) n 0 := by intro z; rw [hd9] at z; by_cases y : v = 0; rw [if_pos y] at z; rw [y] at hlv; rw [z] at hlw; exact ⟨hlv, hlw⟩; rw [if_neg y] at z; exact absurd z y
    have hd1 : glow (fun q => P q = v0) n d9 ∨ (glow (fun q => P q = v0) n 0 ∧ glow (fun q => P q = 8) n d9) := by by_cases y : v = 0; rw [hd9, if_pos y]; rw [y] at hlv; exact Or.inr ⟨hlv, hlw⟩; rw [hd9, if_neg y]; exact Or.inl hlv
    refine lv_goto (tgt := 16) hx hb dX2_drink_12 (by decide) ?_
    refine lv_istore_n (lv' := [(2, .int (nI d9)), (0, .ref m0), (1, .int v0)]) hx hb dX2_drink_16 rfl hl (by decide) rfl (fun ls hl => ?_)
    refine lv_aload_n hx hb dX2_drink_17 rfl (lv_at hl 1 rfl) ?_
    refine lv_iload_n hx hb dX2_drink_18 rfl (lv_at hl 2 rfl) ?_
    refine g_calli (va_runS (As := [.int v0]) (rest := [.ref m0]) ⟨hx, hb, hml, hown, hts⟩ (m_isGoblet l D tys (wM w i j m0 ar cI (nI n) rv tv row) H.size v0) (va_cwS 1 hts gX2_drink_X2_isGoblet rfl rfl rfl (by decide +kernel) ⟨Nat.le_of_ble_eq_true rfl, Nat.le_of_ble_eq_true rfl⟩) (gP_S hP hK hD gBl_T (fun _ _ _ => trivial)) rfl rfl hl.1 rfl (lv_room (Nat.le_of_ble_eq_true rfl)) dX2_drink_19 ⟨(Nat.zero_le _), (Nat.zero_le _)⟩) hD hS hA (fun r9 u9 H locs hr9 hP hD hS => ?_)
    rcases hr9 with ⟨rfl, hg2⟩ | ⟨rfl, hg2⟩
    · skip
      refine lv_if_ne (tgt := 29) hx hb dX2_drink_22 (by decide) (fun _ => ?_) (fun c9 => absurd c9 (by decide))
      refine lv_iload_n hx hb dX2_drink_29 rfl (lv_at hl 0 rfl) ?_
      refine lv_if_ne (tgt := 37) hx hb dX2_drink_30 (by decide) (fun c1 => ?_) (fun c1 => ?_)
      · have hne : 1 ≤ d9 := by rcases Nat.eq_zero_or_pos d9 with z | z; exact absurd (by rw [z]; rfl) c1; exact z
        refine lv_iconst (v := 0) hx hb dX2_drink_37 (by decide) ?_
        have hw := gM_si (w := w) (i := i) (j := j) (m0 := m0) (ar := ar) (cI := cI) (sv := (nI n)) (rv := rv) (tv := tv) (row := row) hij (nI n) rv 0
        refine va_put (D := D) (ci := 2) (v := .int 0) (ty := .int) (C := RX2) (T := TX2) (N := 4) hx hb hts i2_drink tyX2 tyX2_ok nmX2 hown hK hP hD hS i (gM_i hi hij) rfl 3 (by decide) f_thrown (fun _ h9 => h9) rfl (by decide +kernel) rfl rfl (Nat.le_of_ble_eq_true rfl) dX2_drink_38 (fun H locs hP2 hD2 hS => ?_)
        have hP := g_eqP hw hP2
        have hD := g_eqD hw hD2
        refine lv_aload_n hx hb dX2_drink_41 rfl (lv_at hl 1 rfl) ?_
        refine va_get (D := D) (ci := 2) (v := .int 0) (C := RX2) (T := TX2) (N := 4) hx hb hts i2_drink hown hK hP i (gM_i hi hij) rfl 3 (by decide) f_thrown (fun _ h9 => h9) rfl dX2_drink_42 ?_
        refine lv_if_ne (tgt := 56) hx hb dX2_drink_45 (by decide) (fun c9 => absurd rfl c9) (fun _ => ?_)
        refine lv_aload_n hx hb dX2_drink_48 rfl (lv_at hl 1 rfl) ?_
        refine va_get (D := D) (ci := 2) (v := .ref ar) (C := RX2) (T := TX2) (N := 4) hx hb hts i2_drink hown hK hP i (gM_i hi hij) rfl 0 (by decide) f_place (fun _ h9 => h9) rfl dX2_drink_49 ?_
        refine lv_iload_n hx hb dX2_drink_52 rfl (lv_at hl 0 rfl) ?_
        refine lv_bipush (v := 9) hx hb dX2_drink_53 (by decide) ?_
        refine va_iast hx hb hK hP hD hS j t (gM_j hj) ht (vp_in_nI (n := d9) (by omega) (by omega)) dX2_drink_55 (fun H locs hP2 hD2 hS => ?_)
        rw [nI_clamp (by omega)] at hP2 hD2
        have hw := gM_sj (w := w) (i := i) (j := j) (m0 := m0) (ar := ar) (cI := cI) (sv := (nI n)) (rv := rv) (tv := 0) (row := row) (upd row d9 9)
        have hP := g_eqP hw hP2
        have hD := g_eqD hw hD2
        refine lv_iload_n hx hb dX2_drink_56 rfl (lv_at hl 0 rfl) ?_
        have hrow2 : gRow (va_up P d9 9) n (upd row d9 9) := fun k h1 h2 => by by_cases z : k = d9; rw [z, pk_us, va_up_self]; rw [pk_un z, va_up_ne _ _ z]; exact hrow k h1 h2
        exact g_reti hx hb hr hlocks hK (nI d9) ((0 : Int32), upd row d9 9) hP hD hS (Nat.zero_le _) (Nat.zero_le _) (Or.inl ⟨rfl, hg, d9, hne, hdn, rfl, hd1, hrow2⟩) dX2_drink_57
      · have hz : d9 = 0 := (nI_eq (by omega) (by omega)).mp (show nI d9 = nI 0 from c1)
        refine lv_iconst (v := 2) hx hb dX2_drink_33 (by decide) ?_
        refine lv_goto (tgt := 38) hx hb dX2_drink_34 (by decide) ?_
        have hw := gM_si (w := w) (i := i) (j := j) (m0 := m0) (ar := ar) (cI := cI) (sv := (nI n)) (rv := rv) (tv := tv) (row := row) hij (nI n) rv 2
        refine va_put (D := D) (ci := 2) (v := .int 2) (ty := .int) (C := RX2) (T := TX2) (N := 4) hx hb hts i2_drink tyX2 tyX2_ok nmX2 hown hK hP hD hS i (gM_i hi hij) rfl 3 (by decide) f_thrown (fun _ h9 => h9) rfl (by decide +kernel) rfl rfl (Nat.le_of_ble_eq_true rfl) dX2_drink_38 (fun H locs hP2 hD2 hS => ?_)
        have hP := g_eqP hw hP2
        have hD := g_eqD hw hD2
        refine lv_aload_n hx hb dX2_drink_41 rfl (lv_at hl 1 rfl) ?_
        refine va_get (D := D) (ci := 2) (v := .int 2) (C := RX2) (T := TX2) (N := 4) hx hb hts i2_drink hown hK hP i (gM_i hi hij) rfl 3 (by decide) f_thrown (fun _ h9 => h9) rfl dX2_drink_42 ?_
        refine lv_if_ne (tgt := 56) hx hb dX2_drink_45 (by decide) (fun _ => ?_) (fun c9 => absurd c9 (by decide))
        refine lv_iload_n hx hb dX2_drink_56 rfl (lv_at hl 0 rfl) ?_
        exact g_reti hx hb hr hlocks hK (nI d9) ((2 : Int32), row) hP hD hS (Nat.zero_le _) (Nat.zero_le _) (Or.inr (Or.inr ⟨rfl, hg, (hd0 hz).1, (hd0 hz).2, rfl⟩)) dX2_drink_57
    · exact absurd hg hg2
  · skip
    refine lv_if_eq (tgt := 15) hx hb dX2_drink_4 (by decide) (fun _ => ?_) (fun c9 => absurd rfl c9)
    refine lv_iconst (v := 0) hx hb dX2_drink_15 (by decide) ?_
    refine lv_istore_n (lv' := [(2, .int 0), (0, .ref m0), (1, .int v0)]) hx hb dX2_drink_16 rfl hl (by decide) rfl (fun ls hl => ?_)
    refine lv_aload_n hx hb dX2_drink_17 rfl (lv_at hl 1 rfl) ?_
    refine lv_iload_n hx hb dX2_drink_18 rfl (lv_at hl 2 rfl) ?_
    refine g_calli (va_runS (As := [.int v0]) (rest := [.ref m0]) ⟨hx, hb, hml, hown, hts⟩ (m_isGoblet l D tys (wM w i j m0 ar cI (nI n) rv tv row) H.size v0) (va_cwS 1 hts gX2_drink_X2_isGoblet rfl rfl rfl (by decide +kernel) ⟨Nat.le_of_ble_eq_true rfl, Nat.le_of_ble_eq_true rfl⟩) (gP_S hP hK hD gBl_T (fun _ _ _ => trivial)) rfl rfl hl.1 rfl (lv_room (Nat.le_of_ble_eq_true rfl)) dX2_drink_19 ⟨(Nat.zero_le _), (Nat.zero_le _)⟩) hD hS hA (fun r9 u9 H locs hr9 hP hD hS => ?_)
    rcases hr9 with ⟨rfl, hg2⟩ | ⟨rfl, hg2⟩
    · exact absurd hg2 hg
    · skip
      refine lv_if_ne (tgt := 29) hx hb dX2_drink_22 (by decide) (fun c9 => absurd rfl c9) (fun _ => ?_)
      refine lv_iconst (v := 1) hx hb dX2_drink_25 (by decide) ?_
      refine lv_goto (tgt := 38) hx hb dX2_drink_26 (by decide) ?_
      have hw := gM_si (w := w) (i := i) (j := j) (m0 := m0) (ar := ar) (cI := cI) (sv := (nI n)) (rv := rv) (tv := tv) (row := row) hij (nI n) rv 1
      refine va_put (D := D) (ci := 2) (v := .int 1) (ty := .int) (C := RX2) (T := TX2) (N := 4) hx hb hts i2_drink tyX2 tyX2_ok nmX2 hown hK hP hD hS i (gM_i hi hij) rfl 3 (by decide) f_thrown (fun _ h9 => h9) rfl (by decide +kernel) rfl rfl (Nat.le_of_ble_eq_true rfl) dX2_drink_38 (fun H locs hP2 hD2 hS => ?_)
      have hP := g_eqP hw hP2
      have hD := g_eqD hw hD2
      refine lv_aload_n hx hb dX2_drink_41 rfl (lv_at hl 1 rfl) ?_
      refine va_get (D := D) (ci := 2) (v := .int 1) (C := RX2) (T := TX2) (N := 4) hx hb hts i2_drink hown hK hP i (gM_i hi hij) rfl 3 (by decide) f_thrown (fun _ h9 => h9) rfl dX2_drink_42 ?_
      refine lv_if_ne (tgt := 56) hx hb dX2_drink_45 (by decide) (fun _ => ?_) (fun c9 => absurd c9 (by decide))
      refine lv_iload_n hx hb dX2_drink_56 rfl (lv_at hl 0 rfl) ?_
      exact g_reti hx hb hr hlocks hK (0) ((1 : Int32), row) hP hD hS (Nat.zero_le _) (Nat.zero_le _) (Or.inr (Or.inl ⟨rfl, hg, rfl⟩)) dX2_drink_57
set_option maxHeartbeats 4000000 in
set_option maxRecDepth 100000 in
/-- lowestLeft: its loop -/
theorem mleft_loop {p : Program} {l : Launch} {e : Env} {s : State} {m : MethodId} {args : Array Value} {below : List Frame} {meth : Method} {c : Code} {Q : State → Prop} {D : va_G} {tys : List (ClassId × FieldType)} {cI : ClassId} {t : Nat} (ht : tys[t]? = some (cI, .int)) {w w0 : va_W} {i j : Nat} (hi : i < w.length) (hj : j < w.length) (hij : i ≠ j) {m0 ar : Nat} {rv tv : Int32} {row0 : Nat → Int32} {P : Nat → Int32} {n : Nat} (hn : n ≤ 5000) (hrow : gRow P n row0) (hx : p.tables.exec = Jvm.exec) (hb : c.code = cX2_lowestLeft) (hml : c.maxLocals = 2) (hts : ∀ w ∈ wsX2_lowestLeft, w.before args s = true) (hown : s.vm.findClass RX2 = some m.cls) (hK : va_K D vwCl tys s) (hA : ∀ q : Nat, s.heap.size ≤ q → va_A w0 s.heap.size q) :
    ∀ (f k : Nat)  (H : Heap) (locs : List Loc) (ls : Array Slot), n + 1 - k < f → 1 ≤ k → k ≤ n + 1 → (∀ q, 1 ≤ q → q < k → ¬ ¬ P q = 9) → va_P D vwCl (wM w i j m0 ar cI (nI n) rv tv row0) H → va_D (va_A w0 s.heap.size) (wM w i j m0 ar cI (nI n) rv tv row0) → va_S (va_A w0 s.heap.size) s.heap H locs → lv_has ls 2 [(0, .ref m0), (1, .int (nI k))] →
    (∀ (v : Nat) (H : Heap) (locs : List Loc) (ls : Array Slot), 1 ≤ v → (∀ q, 1 ≤ q → q < v → ¬ ¬ P q = 9) → (v = n + 1 ∨ (v ≤ n ∧ ¬ P v = 9)) → va_P D vwCl (wM w i j m0 ar cI (nI n) rv tv row0) H → va_D (va_A w0 s.heap.size) (wM w i j m0 ar cI (nI n) rv tv row0) → va_S (va_A w0 s.heap.size) s.heap H locs → lv_has ls 2 [(0, .ref m0), (1, .int (nI v))] → W p l e ({ frames := 0, cells := 0, slots := 0, locals := 0 } : Room) s m args below meth c H locs 0 0 Q (F0 m 32 ls [])) →
    W p l e ({ frames := 0, cells := 0, slots := 0, locals := 0 } : Room) s m args below meth c H locs 0 0 Q (F0 m 7 ls []) := by
  have f_place := hts (.fieldLink RX2 7 "NumberGobletsModel" "place" "[I") (by decide +kernel)
  have f_size := hts (.fieldLink RX2 13 "NumberGobletsModel" "size" "I") (by decide +kernel)
  intro f
  induction f with
  | zero => intro k  H locs ls hf; exact absurd hf (Nat.not_lt_zero _)
  | succ f ih =>
    intro k  H locs ls hf hk1 hk2 hno hP hD hS hl hend
    refine lv_iload_n hx hb dX2_lowestLeft_7 rfl (lv_at hl 1 rfl) ?_
    refine lv_aload_n hx hb dX2_lowestLeft_8 rfl (lv_at hl 0 rfl) ?_
    refine va_get (D := D) (ci := 2) (v := .int (nI n)) (C := RX2) (T := TX2) (N := 4) hx hb hts i2_lowestLeft hown hK hP i (gM_i hi hij) rfl 1 (by decide) f_size (fun _ h9 => h9) rfl dX2_lowestLeft_9 ?_
    refine lv_icmp_gt (tgt := 32) hx hb dX2_lowestLeft_12 (by decide) (fun c1 => ?_) (fun c1 => ?_)
    · have hkn : n < k := (nI_ltI (by omega) (by omega)).mp c1
      exact hend k H locs ls hk1 hno (Or.inl (by omega)) hP hD hS (lv_sub hl [0, 1] rfl)
    · have hkn : k ≤ n := Nat.le_of_not_lt (fun z => c1 (nI_lt z (by omega)))
      refine lv_aload_n hx hb dX2_lowestLeft_15 rfl (lv_at hl 0 rfl) ?_
      refine va_get (D := D) (ci := 2) (v := .ref ar) (C := RX2) (T := TX2) (N := 4) hx hb hts i2_lowestLeft hown hK hP i (gM_i hi hij) rfl 0 (by decide) f_place (fun _ h9 => h9) rfl dX2_lowestLeft_16 ?_
      refine lv_iload_n hx hb dX2_lowestLeft_19 rfl (lv_at hl 1 rfl) ?_
      refine va_iald hx hb hK hP j t (gM_j hj) ht (vp_in_nI (n := k) (by omega) (by omega)) dX2_lowestLeft_20 ?_
      refine g_top (y := P k) (by rw [nI_clamp (by omega)]; exact hrow k hk1 hkn) ?_
      refine lv_bipush (v := 9) hx hb dX2_lowestLeft_21 (by decide) ?_
      refine lv_icmp_ne (tgt := 32) hx hb dX2_lowestLeft_23 (by decide) (fun c2 => ?_) (fun c2 => ?_)
      · exact hend k H locs ls hk1 hno (Or.inr ⟨hkn, c2⟩) hP hD hS (lv_sub hl [0, 1] rfl)
      · skip
        refine lv_iinc (v := nI (k + 1)) (lv' := [(1, .int (nI (k + 1))), (0, .ref m0)]) hx hb dX2_lowestLeft_26 hl (k := 1) rfl (by rw [← nI_1]; rfl) (by decide) rfl (fun ls hl => ?_)
        refine lv_goto (tgt := 7) hx hb dX2_lowestLeft_29 (by decide) ?_
        exact ih (k + 1) H locs ls (by omega) (by omega) (by omega) (fun q h1 h2 => by by_cases z : q < k; exact hno q h1 z; rw [show q = k by omega]; exact fun y => y c2) hP hD hS (lv_sub hl [1, 0] rfl) hend
set_option maxHeartbeats 4000000 in
set_option maxRecDepth 100000 in
/-- lowestLeft() -/
theorem m_lowestLeft (l : Launch) (D : va_G) (tys : List (ClassId × FieldType)) {cI : ClassId} {t : Nat} (ht : tys[t]? = some (cI, .int)) {w : va_W} {i j : Nat} (hi : i < w.length) (hj : j < w.length) (hij : i ≠ j) {m0 ar : Nat} {rv tv : Int32} {row : Nat → Int32} {P : Nat → Int32} {n : Nat} (hn : n ≤ 5000) (hrow : gRow P n row) (sz : Nat)  : Met l yX2_lowestLeft wsX2_lowestLeft ({ frames := 0, cells := 0, slots := 0, locals := 0 } : Room) (gP D tys [.ref m0] (wM w i j m0 ar cI (nI n) rv tv row) sz (fun _ => True)) (va_Qi (fun (r : Int32) (_ : Unit) => ∃ v, r = nI v ∧ glow (fun q => ¬ P q = 9) n v) (fun _ t => gWd D tys (va_A (wM w i j m0 ar cI (nI n) rv tv row) sz) (wM w i j m0 ar cI (nI n) rv 0 row) t) (va_A (wM w i j m0 ar cI (nI n) rv tv row) sz)) 0 0 (va_A (wM w i j m0 ar cI (nI n) rv tv row) sz) := by
  refine g_ofW (cc := cX2_lowestLeft) (maxL := 2) (ret := some .int) (by decide) rfl (Nat.le_of_ble_eq_true rfl) ?_
  intro p e s m below meth c hx hb hr hml hts hown hlocks hin hsz hP hK hD hA hS hG ls hl
  subst hsz
  have hown : s.vm.findClass RX2 = some m.cls := hown
  have hl : lv_has ls 2 [(0, .ref m0)] := hl
  have f_thrown := hts (.fieldLink RX2 20 "NumberGobletsModel" "thrown" "I") (by decide +kernel)
  have f_size := hts (.fieldLink RX2 13 "NumberGobletsModel" "size" "I") (by decide +kernel)
  refine lv_aload_n hx hb dX2_lowestLeft_0 rfl (lv_at hl 0 rfl) ?_
  refine lv_iconst (v := 0) hx hb dX2_lowestLeft_1 (by decide) ?_
  have hw := gM_si (w := w) (i := i) (j := j) (m0 := m0) (ar := ar) (cI := cI) (sv := (nI n)) (rv := rv) (tv := tv) (row := row) hij (nI n) rv 0
  refine va_put (D := D) (ci := 2) (v := .int 0) (ty := .int) (C := RX2) (T := TX2) (N := 4) hx hb hts i2_lowestLeft tyX2 tyX2_ok nmX2 hown hK hP hD hS i (gM_i hi hij) rfl 3 (by decide) f_thrown (fun _ h9 => h9) rfl (by decide +kernel) rfl rfl (Nat.le_of_ble_eq_true rfl) dX2_lowestLeft_2 (fun H locs hP2 hD2 hS => ?_)
  have hP := g_eqP hw hP2
  have hD := g_eqD hw hD2
  refine lv_iconst (v := 1) hx hb dX2_lowestLeft_5 (by decide) ?_
  refine lv_istore_n (lv' := [(1, .int 1), (0, .ref m0)]) hx hb dX2_lowestLeft_6 rfl hl (by decide) rfl (fun ls hl => ?_)
  refine mleft_loop ht hi hj hij hn hrow hx hb hml hts hown hK hA (n + 2) 1 _ _ ls (by omega) (Nat.le_refl _) (by omega) (fun q h1 h2 => absurd h2 (by omega)) hP hD hS (lv_sub hl [1, 0] rfl) (fun v H locs ls hv1 hno hv hP hD hS hl => ?_)
  refine lv_iload_n hx hb dX2_lowestLeft_32 rfl (lv_at hl 1 rfl) ?_
  refine lv_aload_n hx hb dX2_lowestLeft_33 rfl (lv_at hl 0 rfl) ?_
  refine va_get (D := D) (ci := 2) (v := .int (nI n)) (C := RX2) (T := TX2) (N := 4) hx hb hts i2_lowestLeft hown hK hP i (gM_i hi hij) rfl 1 (by decide) f_size (fun _ h9 => h9) rfl dX2_lowestLeft_34 ?_
  refine lv_icmp_le (tgt := 44) hx hb dX2_lowestLeft_37 (by decide) (fun c1 => ?_) (fun c1 => ?_)
  · have hvn : v ≤ n := (nI_leI (by omega) (by omega)).mp c1
    refine lv_iload_n hx hb dX2_lowestLeft_44 rfl (lv_at hl 1 rfl) ?_
    exact g_reti hx hb hr hlocks hK (nI v) () hP hD hS (Nat.zero_le _) (Nat.zero_le _) (⟨v, rfl, Or.inr ⟨hv1, hvn, by rcases hv with z | z; omega; exact z.2, hno⟩⟩) dX2_lowestLeft_45
  · have hvn : v = n + 1 := by rcases hv with z | z; exact z; exact absurd (nI_le z.1 (by omega)) c1
    refine lv_iconst (v := 0) hx hb dX2_lowestLeft_40 (by decide) ?_
    refine lv_goto (tgt := 45) hx hb dX2_lowestLeft_41 (by decide) ?_
    exact g_reti hx hb hr hlocks hK (0) () hP hD hS (Nat.zero_le _) (Nat.zero_le _) (⟨0, rfl, Or.inl ⟨rfl, fun q h1 h2 => hno q h1 (by omega)⟩⟩) dX2_lowestLeft_45
