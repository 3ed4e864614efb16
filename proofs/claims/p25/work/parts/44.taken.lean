/-! p25: isTakenBack -/
theorem tk_one {P : Nat → Int32} {g : Int32} {a b : Nat} (ha0 : ¬ a = 0) (hb0 : ¬ b = 0) (ha : glow (fun j => P j = g) 5000 a ∨ (glow (fun j => P j = g) 5000 0 ∧ glow (fun j => P j = 8) 5000 a)) (hb : glow (fun j => P j = g) 5000 b ∨ (glow (fun j => P j = g) 5000 0 ∧ glow (fun j => P j = 8) 5000 b)) : a = b := by
  rcases ha with ha | ⟨ha1, ha2⟩ <;> rcases hb with hb | ⟨hb1, hb2⟩
  · exact glow_one ha hb
  · exact absurd (glow_one ha hb1) ha0
  · exact absurd (glow_one hb ha1) hb0
  · exact glow_one ha2 hb2
set_option maxHeartbeats 4000000 in
set_option maxRecDepth 100000 in
/-- isTakenBack: what is drunk and given back is in the jug -/
theorem w_isTakenBack (l : Launch) (hl9 : l.stackTraces = false) (D : va_G) (tys : List (ClassId × FieldType)) (L0 : List Nat) (S0 : gS) (sz : Nat) {P : Nat → Int32} {n h0 lo : Nat} (hC : gCh P lo (L0, S0)) (hI : gInv P n) {gb : Nat} (hgb : gb < 8) : Met l yL_isTakenBack wsL_isTakenBack ({ frames := 8, cells := 12, slots := 60, locals := 200 } : Room) (gP D tys [.ref h0, .int (nI gb)] ([gO h0 lo (nI n) 1] ++ va_pl L0 (gE S0)) sz (gG (va_A ([gO h0 lo (nI n) 1] ++ va_pl L0 (gE S0)) sz))) (va_Qi (fun (r : Int32) (u : List Nat × gS) => r = nI 1 ∧ ∃ P2 : Nat → Int32, gInv P2 n ∧ gCh P2 lo u) (fun u t => gWd D tys (va_A ([gO h0 lo (nI n) 1] ++ va_pl L0 (gE S0)) sz) ([gO h0 lo (nI n) 1] ++ va_pl u.1 (gE u.2)) t) (va_A ([gO h0 lo (nI n) 1] ++ va_pl L0 (gE S0)) sz)) 12 60 (va_A ([gO h0 lo (nI n) 1] ++ va_pl L0 (gE S0)) sz) := by
  refine g_ofW (cc := cL_isTakenBack) (maxL := 7) (ret := some .boolean) (by decide) rfl (Nat.le_of_ble_eq_true rfl) ?_
  intro p e s m below meth c hx hb hr hml hts hown hlocks hin hsz hP hK hD hA hS hGG ls hl
  subst hsz
  have hown : s.vm.findClass RL = some m.cls := hown
  have hev := hI.1
  have hn1 := hI.1.1
  have hn2 := hI.2.1
  have hl : lv_has ls 7 [(0, .ref h0), (1, .int (nI gb))] := hl
  have hg8 : ¬ nI gb = 8 := h_ne (b := 8) (by omega) (by omega) (by omega)
  have hg9 : ¬ nI gb = 9 := h_ne (b := 9) (by omega) (by omega) (by omega)
  have hf8 : gct P 8 5000 ≤ n := h_few hev (k := 8) (by omega)
  have hf9 : gct P 9 5000 ≤ n := h_few hev (k := 9) (by omega)
  have hj12 : ∀ (y9 : Nat) (L : List Nat) (S : gS) (H : Heap) (locs : List Loc) (ls : Array Slot), ¬ y9 = 0 → (glow (fun j => P j = nI gb) 5000 y9 ∨ (glow (fun j => P j = nI gb) 5000 0 ∧ glow (fun j => P j = 8) 5000 y9)) → gCh P lo (L, S) → va_P D vwCl ([gO h0 lo (nI n) 1] ++ va_pl L (gE S)) H → va_D (va_A ([gO h0 lo (nI n) 1] ++ va_pl L0 (gE S0)) s.heap.size) ([gO h0 lo (nI n) 1] ++ va_pl L (gE S)) → va_S (va_A ([gO h0 lo (nI n) 1] ++ va_pl L0 (gE S0)) s.heap.size) s.heap H locs → lv_has ls 7 [(0, .ref h0), (1, .int (nI gb)), (2, .int (nI y9))] → W p l e ({ frames := 8, cells := 12, slots := 60, locals := 200 } : Room) s m ([.ref h0, .int (nI gb)] : List Value).toArray below meth c H locs 1 6 (MQ below (va_Qi (fun (r : Int32) (u : List Nat × gS) => r = nI 1 ∧ ∃ P2 : Nat → Int32, gInv P2 n ∧ gCh P2 lo u) (fun u t => gWd D tys (va_A ([gO h0 lo (nI n) 1] ++ va_pl L0 (gE S0)) s.heap.size) ([gO h0 lo (nI n) 1] ++ va_pl u.1 (gE u.2)) t) (va_A ([gO h0 lo (nI n) 1] ++ va_pl L0 (gE S0)) s.heap.size)) ([.ref h0, .int (nI gb)] : List Value).toArray s 12 60 (va_A ([gO h0 lo (nI n) 1] ++ va_pl L0 (gE S0)) s.heap.size)) (F0 m 12 ls []) := by
    intro y9 L S H locs ls hy0 hyy hC hP hD hS hl
    have hy1 : 1 ≤ y9 ∧ y9 ≤ 5000 ∧ (P y9 = nI gb ∨ P y9 = 8) := by
      rcases hyy with z | ⟨-, z⟩
      · have := glow_at z hy0; exact ⟨this.1, this.2.1, Or.inl this.2.2⟩
      · have := glow_at z hy0; exact ⟨this.1, this.2.1, Or.inr this.2.2⟩
    obtain ⟨hy1, hy2, hy3⟩ := hy1
    have hyn : y9 ≤ n := by rcases hy3 with z | z; exact (inv_in (k := gb) (by omega) hev z).2; exact (inv_in (k := 8) (by omega) hev z).2
    have hy9 : ¬ P y9 = 9 := by rcases hy3 with z | z; rw [z]; exact hg9; rw [z]; decide
    obtain ⟨Q, hQ⟩ : ∃ q, q = va_up P y9 9 := ⟨_, rfl⟩
    have hQi : gInv Q n := by rw [hQ]; exact inv_up (k := 9) (by omega) hy1 hyn hI
    have hqe := hQi.1
    have hQy : Q y9 = 9 := by rw [hQ]; exact va_up_self _ _ _
    have hQ9 : gct Q 9 5000 = gct P 9 5000 + 1 := by rw [hQ, up_to hy1 hy9 5000, if_pos hy2]
    obtain ⟨P3, hP3⟩ : ∃ q, q = va_up Q y9 8 := ⟨_, rfl⟩
    have hP3p : P3 = va_up P y9 8 := by rw [hP3, hQ]; exact up_up
    have hP3i : gInv P3 n := by rw [hP3p]; exact inv_up (k := 8) (by omega) hy1 hyn hI
    have hp3e := hP3i.1
    have hP3y : P3 y9 = 8 := by rw [hP3]; exact va_up_self _ _ _
    have hP39 : gct P3 9 5000 = gct P 9 5000 := by rw [hP3p]; exact up_ot hy9 (by decide)
    refine lv_aload_n hx hb dL_isTakenBack_12 rfl (lv_at hl 0 rfl) ?_
    refine lv_iload_n hx hb dL_isTakenBack_13 rfl (lv_at hl 2 rfl) ?_
    obtain ⟨g9, hch9, hwf9, hmx9⟩ := id hC
    refine g_calli (va_runV (As := [.int (nI y9)]) (rest := []) ⟨hx, hb, hml, hown, hts⟩ (c_place l D tys [gO h0 lo (nI n) 1] L S H.size (i := 0) rfl hwf9 hmx9 hch9 (nI y9)) (cwV 1 hts gL_isTakenBack_X1_placeOf rfl rfl rfl (by decide +kernel) ⟨Nat.le_of_ble_eq_true rfl, Nat.le_of_ble_eq_true rfl⟩) (gP_V (va_recv hK hP (ci := 1) rfl (g_inX (X := [gO h0 lo (nI n) 1]) (i := 0) rfl)) hP hK hD gBl_N (fun U _ hW => hGG.1.warm hW)) rfl rfl hl.1 rfl (lv_room (Nat.le_of_ble_eq_true rfl)) dL_isTakenBack_14 ⟨by show 1 + 0 ≤ 12; omega, by show 6 + 0 ≤ 60; omega⟩) hD hS hA (fun r9 u9 H locs hr9 hP hD hS => ?_)
    have hP : va_P D vwCl ([gO h0 lo (nI n) 1] ++ va_pl L (gE S)) H := hP
    have hD : va_D (va_A ([gO h0 lo (nI n) 1] ++ va_pl L0 (gE S0)) s.heap.size) ([gO h0 lo (nI n) 1] ++ va_pl L (gE S)) := hD
    have hr9 : r9 = P y9 := rg_place hev (by omega) hr9
    subst hr9
    refine lv_istore_n (lv' := [(3, .int (P y9)), (0, .ref h0), (1, .int (nI gb)), (2, .int (nI y9))]) hx hb dL_isTakenBack_17 rfl hl (by decide) rfl (fun ls hl => ?_)
    refine lv_aload_n hx hb dL_isTakenBack_18 rfl (lv_at hl 1 rfl) ?_
    refine g_calli (va_runV (As := []) (rest := []) ⟨hx, hb, hml, hown, hts⟩ (c_inJug l D tys [gO h0 lo (nI n) 1] L S H.size (i := 0) rfl hC) (cwV 0 hts gL_isTakenBack_X1_inJug rfl rfl rfl (by decide +kernel) ⟨Nat.le_of_ble_eq_true rfl, Nat.le_of_ble_eq_true rfl⟩) (gP_V (va_recv hK hP (ci := 1) rfl (g_inX (X := [gO h0 lo (nI n) 1]) (i := 0) rfl)) hP hK hD gBl_N (fun U _ hW => hGG.1.warm hW)) rfl rfl hl.1 rfl (lv_room (Nat.le_of_ble_eq_true rfl)) dL_isTakenBack_19 ⟨by show 1 + 0 + 0 ≤ 12; omega, by show 6 + 0 + 0 ≤ 60; omega⟩) hD hS hA (fun r9 u9 H locs hr9 hP hD hS => ?_)
    have hP : va_P D vwCl ([gO h0 lo (nI n) 1] ++ va_pl L (gE S)) H := hP
    have hD : va_D (va_A ([gO h0 lo (nI n) 1] ++ va_pl L0 (gE S0)) s.heap.size) ([gO h0 lo (nI n) 1] ++ va_pl L (gE S)) := hD
    have hr9 : r9 = nI (gct P 8 5000) := hr9
    subst hr9
    refine lv_istore (lv' := [(4, .int (nI (gct P 8 5000))), (3, .int (P y9)), (0, .ref h0), (1, .int (nI gb)), (2, .int (nI y9))]) hx hb dL_isTakenBack_22 hl (by decide) rfl (fun ls hl => ?_)
    refine lv_aload_n hx hb dL_isTakenBack_24 rfl (lv_at hl 2 rfl) ?_
    refine g_calli (va_runV (As := []) (rest := []) ⟨hx, hb, hml, hown, hts⟩ (c_drunk l D tys [gO h0 lo (nI n) 1] L S H.size (i := 0) rfl hC) (cwV 0 hts gL_isTakenBack_X1_drunk rfl rfl rfl (by decide +kernel) ⟨Nat.le_of_ble_eq_true rfl, Nat.le_of_ble_eq_true rfl⟩) (gP_V (va_recv hK hP (ci := 1) rfl (g_inX (X := [gO h0 lo (nI n) 1]) (i := 0) rfl)) hP hK hD gBl_N (fun U _ hW => hGG.1.warm hW)) rfl rfl hl.1 rfl (lv_room (Nat.le_of_ble_eq_true rfl)) dL_isTakenBack_25 ⟨by show 1 + 0 + 0 + 0 ≤ 12; omega, by show 6 + 0 + 0 + 0 ≤ 60; omega⟩) hD hS hA (fun r9 u9 H locs hr9 hP hD hS => ?_)
    have hP : va_P D vwCl ([gO h0 lo (nI n) 1] ++ va_pl L (gE S)) H := hP
    have hD : va_D (va_A ([gO h0 lo (nI n) 1] ++ va_pl L0 (gE S0)) s.heap.size) ([gO h0 lo (nI n) 1] ++ va_pl L (gE S)) := hD
    have hr9 : r9 = nI (gct P 9 5000) := hr9
    subst hr9
    refine lv_istore (lv' := [(5, .int (nI (gct P 9 5000))), (4, .int (nI (gct P 8 5000))), (3, .int (P y9)), (0, .ref h0), (1, .int (nI gb)), (2, .int (nI y9))]) hx hb dL_isTakenBack_28 hl (by decide) rfl (fun ls hl => ?_)
    refine lv_aload_n hx hb dL_isTakenBack_30 rfl (lv_at hl 3 rfl) ?_
    refine lv_iload_n hx hb dL_isTakenBack_31 rfl (lv_at hl 4 rfl) ?_
    refine g_xcalli (vx_runV (As := [.int (nI gb)]) (rest := []) ⟨hx, hb, hml, hown, hts⟩ (c_drink l hl9 D tys [gO h0 lo (nI n) 1] L S H.size (i := 0) rfl hC (nI gb) (gEv_out hev)) (cwV 1 hts gL_isTakenBack_X1_drink rfl rfl rfl (by decide +kernel) ⟨Nat.le_of_ble_eq_true rfl, Nat.le_of_ble_eq_true rfl⟩) (gP_V (va_recv hK hP (ci := 1) rfl (g_inX (X := [gO h0 lo (nI n) 1]) (i := 0) rfl)) hP hK hD gBl_G (fun U hU hW => gG.call hGG hS (gA_sub hD hS hA) U hU hW)) rfl rfl hl.1 rfl (lv_room (Nat.le_of_ble_eq_true rfl)) dL_isTakenBack_32 ⟨by show 1 + 0 + 0 + 0 + 5 ≤ 12; omega, by show 6 + 0 + 0 + 0 + 22 ≤ 60; omega⟩) hD hS hA (fun E ce q9 u9 H locs hc hP hD hS e1 e2 e3 => False.elim (xb_drink (h_gob hgb) (fun z => by rcases hyy with h | ⟨-, h⟩; exact absurd ((glow_ct h).mpr z.1) hy0; exact absurd ((glow_ct h).mpr z.2) hy0) hc.1)) (fun r9 u9 H locs hr9 hP hD hS => ?_)
    obtain ⟨-, d9, d91, d92, hr9, d93, hC⟩ := hr9
    obtain ⟨L, S⟩ := u9
    have hP : va_P D vwCl ([gO h0 lo (nI n) 1] ++ va_pl L (gE S)) H := hP
    have hD : va_D (va_A ([gO h0 lo (nI n) 1] ++ va_pl L0 (gE S0)) s.heap.size) ([gO h0 lo (nI n) 1] ++ va_pl L (gE S)) := hD
    have hr9 : r9 = nI d9 := hr9
    subst hr9
    obtain rfl : y9 = d9 := tk_one hy0 (by omega) hyy d93
    rw [← hQ] at hC
    refine lv_iload_n hx hb dL_isTakenBack_35 rfl (lv_at hl 5 rfl) ?_
    refine lv_icmp_ne (tgt := 105) hx hb dL_isTakenBack_36 (by decide) (fun c9 => absurd (rfl) c9) (fun _ => ?_)
    refine lv_aload_n hx hb dL_isTakenBack_39 rfl (lv_at hl 3 rfl) ?_
    refine lv_iload_n hx hb dL_isTakenBack_40 rfl (lv_at hl 5 rfl) ?_
    obtain ⟨g9, hch9, hwf9, hmx9⟩ := id hC
    refine g_calli (va_runV (As := [.int (nI y9)]) (rest := []) ⟨hx, hb, hml, hown, hts⟩ (c_place l D tys [gO h0 lo (nI n) 1] L S H.size (i := 0) rfl hwf9 hmx9 hch9 (nI y9)) (cwV 1 hts gL_isTakenBack_X1_placeOf rfl rfl rfl (by decide +kernel) ⟨Nat.le_of_ble_eq_true rfl, Nat.le_of_ble_eq_true rfl⟩) (gP_V (va_recv hK hP (ci := 1) rfl (g_inX (X := [gO h0 lo (nI n) 1]) (i := 0) rfl)) hP hK hD gBl_N (fun U _ hW => hGG.1.warm hW)) rfl rfl hl.1 rfl (lv_room (Nat.le_of_ble_eq_true rfl)) dL_isTakenBack_41 ⟨by show 1 + 0 + 0 + 0 + 5 + 0 ≤ 12; omega, by show 6 + 0 + 0 + 0 + 22 + 0 ≤ 60; omega⟩) hD hS hA (fun r9 u9 H locs hr9 hP hD hS => ?_)
    have hP : va_P D vwCl ([gO h0 lo (nI n) 1] ++ va_pl L (gE S)) H := hP
    have hD : va_D (va_A ([gO h0 lo (nI n) 1] ++ va_pl L0 (gE S0)) s.heap.size) ([gO h0 lo (nI n) 1] ++ va_pl L (gE S)) := hD
    have hr9 : r9 = Q y9 := rg_place hqe (by omega) hr9
    subst hr9
    refine lv_bipush (v := nI 9) hx hb dL_isTakenBack_44 (by decide) ?_
    refine lv_icmp_ne (tgt := 105) hx hb dL_isTakenBack_46 (by decide) (fun c9 => absurd (hQy) c9) (fun _ => ?_)
    refine lv_aload_n hx hb dL_isTakenBack_49 rfl (lv_at hl 3 rfl) ?_
    refine g_calli (va_runV (As := []) (rest := []) ⟨hx, hb, hml, hown, hts⟩ (c_drunk l D tys [gO h0 lo (nI n) 1] L S H.size (i := 0) rfl hC) (cwV 0 hts gL_isTakenBack_X1_drunk rfl rfl rfl (by decide +kernel) ⟨Nat.le_of_ble_eq_true rfl, Nat.le_of_ble_eq_true rfl⟩) (gP_V (va_recv hK hP (ci := 1) rfl (g_inX (X := [gO h0 lo (nI n) 1]) (i := 0) rfl)) hP hK hD gBl_N (fun U _ hW => hGG.1.warm hW)) rfl rfl hl.1 rfl (lv_room (Nat.le_of_ble_eq_true rfl)) dL_isTakenBack_50 ⟨by show 1 + 0 + 0 + 0 + 5 + 0 + 0 ≤ 12; omega, by show 6 + 0 + 0 + 0 + 22 + 0 + 0 ≤ 60; omega⟩) hD hS hA (fun r9 u9 H locs hr9 hP hD hS => ?_)
    have hP : va_P D vwCl ([gO h0 lo (nI n) 1] ++ va_pl L (gE S)) H := hP
    have hD : va_D (va_A ([gO h0 lo (nI n) 1] ++ va_pl L0 (gE S0)) s.heap.size) ([gO h0 lo (nI n) 1] ++ va_pl L (gE S)) := hD
    have hr9 : r9 = nI (gct Q 9 5000) := hr9
    subst hr9
    refine lv_iload hx hb dL_isTakenBack_53 (lv_at hl 0 rfl) ?_
    refine lv_iconst (v := nI 1) hx hb dL_isTakenBack_55 (by decide) ?_
    refine lv_iadd hx hb dL_isTakenBack_56 ?_
    refine g_top (y := nI ((gct P 9 5000) + 1)) (nI_add _ _) ?_
    refine lv_icmp_ne (tgt := 105) hx hb dL_isTakenBack_57 (by decide) (fun c9 => absurd (z_eq hQ9) c9) (fun _ => ?_)
    refine lv_aload_n hx hb dL_isTakenBack_60 rfl (lv_at hl 3 rfl) ?_
    refine lv_iload_n hx hb dL_isTakenBack_61 rfl (lv_at hl 5 rfl) ?_
    refine g_xcalli (vx_runV (As := [.int (nI y9)]) (rest := []) ⟨hx, hb, hml, hown, hts⟩ (c_giveBack l hl9 D tys [gO h0 lo (nI n) 1] L S H.size (i := 0) rfl hC (nI y9) (gEv_out hqe)) (cwV 1 hts gL_isTakenBack_X1_giveBack rfl rfl rfl (by decide +kernel) ⟨Nat.le_of_ble_eq_true rfl, Nat.le_of_ble_eq_true rfl⟩) (gP_V (va_recv hK hP (ci := 1) rfl (g_inX (X := [gO h0 lo (nI n) 1]) (i := 0) rfl)) hP hK hD gBl_G (fun U hU hW => gG.call hGG hS (gA_sub hD hS hA) U hU hW)) rfl rfl hl.1 rfl (lv_room (Nat.le_of_ble_eq_true rfl)) dL_isTakenBack_62 ⟨by show 1 + 0 + 0 + 0 + 5 + 0 + 0 + 3 ≤ 12; omega, by show 6 + 0 + 0 + 0 + 22 + 0 + 0 + 14 ≤ 60; omega⟩) hD hS hA (fun E ce q9 u9 H locs hc hP hD hS e1 e2 e3 => False.elim (hc.1.2 y9 hy1 hy2 rfl hQy)) (fun r9 u9 H locs hr9 hP hD hS => ?_)
    obtain ⟨j8, j81, j82, j83, -, hr9, hC⟩ := hr9
    obtain ⟨L, S⟩ := u9
    have hP : va_P D vwCl ([gO h0 lo (nI n) 1] ++ va_pl L (gE S)) H := hP
    have hD : va_D (va_A ([gO h0 lo (nI n) 1] ++ va_pl L0 (gE S0)) s.heap.size) ([gO h0 lo (nI n) 1] ++ va_pl L (gE S)) := hD
    obtain rfl : y9 = j8 := (nI_eq (by omega) (by omega)).mp j83
    have hr9 : r9 = nI (gct (va_up Q y9 8) 8 5000) := hr9
    subst hr9
    rw [← hP3] at hC
    refine g_top (y := nI (gct P3 8 5000)) (by rw [← hP3]) ?_
    refine lv_iload hx hb dL_isTakenBack_65 (lv_at hl 1 rfl) ?_
    refine lv_iload_n hx hb dL_isTakenBack_67 rfl (lv_at hl 2 rfl) ?_
    refine lv_bipush (v := nI 8) hx hb dL_isTakenBack_68 (by decide) ?_
    by_cases hw : P y9 = 8
    · have he : P3 = P := by rw [hP3p]; exact up_same hw
      have h83 : gct P3 8 5000 = gct P 8 5000 := by rw [he]
      refine lv_icmp_ne (tgt := 77) hx hb dL_isTakenBack_70 (by decide) (fun c9 => absurd (hw) c9) (fun _ => ?_)
      refine lv_iconst (v := nI 0) hx hb dL_isTakenBack_73 (by decide) ?_
      refine lv_goto (tgt := 78) hx hb dL_isTakenBack_74 (by decide) ?_
      refine lv_iadd hx hb dL_isTakenBack_78 ?_
      refine g_top (y := nI ((gct P 8 5000) + 0)) (nI_add _ _) ?_
      refine lv_icmp_ne (tgt := 105) hx hb dL_isTakenBack_79 (by decide) (fun c9 => absurd (z_eq (by omega)) c9) (fun _ => ?_)
      refine lv_aload_n hx hb dL_isTakenBack_82 rfl (lv_at hl 3 rfl) ?_
      refine lv_iload_n hx hb dL_isTakenBack_83 rfl (lv_at hl 5 rfl) ?_
      obtain ⟨g9, hch9, hwf9, hmx9⟩ := id hC
      refine g_calli (va_runV (As := [.int (nI y9)]) (rest := []) ⟨hx, hb, hml, hown, hts⟩ (c_place l D tys [gO h0 lo (nI n) 1] L S H.size (i := 0) rfl hwf9 hmx9 hch9 (nI y9)) (cwV 1 hts gL_isTakenBack_X1_placeOf rfl rfl rfl (by decide +kernel) ⟨Nat.le_of_ble_eq_true rfl, Nat.le_of_ble_eq_true rfl⟩) (gP_V (va_recv hK hP (ci := 1) rfl (g_inX (X := [gO h0 lo (nI n) 1]) (i := 0) rfl)) hP hK hD gBl_N (fun U _ hW => hGG.1.warm hW)) rfl rfl hl.1 rfl (lv_room (Nat.le_of_ble_eq_true rfl)) dL_isTakenBack_84 ⟨by show 1 + 0 + 0 + 0 + 5 + 0 + 0 + 3 + 0 ≤ 12; omega, by show 6 + 0 + 0 + 0 + 22 + 0 + 0 + 14 + 0 ≤ 60; omega⟩) hD hS hA (fun r9 u9 H locs hr9 hP hD hS => ?_)
      have hP : va_P D vwCl ([gO h0 lo (nI n) 1] ++ va_pl L (gE S)) H := hP
      have hD : va_D (va_A ([gO h0 lo (nI n) 1] ++ va_pl L0 (gE S0)) s.heap.size) ([gO h0 lo (nI n) 1] ++ va_pl L (gE S)) := hD
      have hr9 : r9 = P3 y9 := rg_place hp3e (by omega) hr9
      subst hr9
      refine lv_bipush (v := nI 8) hx hb dL_isTakenBack_87 (by decide) ?_
      refine lv_icmp_ne (tgt := 105) hx hb dL_isTakenBack_89 (by decide) (fun c9 => absurd (hP3y) c9) (fun _ => ?_)
      refine lv_aload_n hx hb dL_isTakenBack_92 rfl (lv_at hl 3 rfl) ?_
      refine g_calli (va_runV (As := []) (rest := []) ⟨hx, hb, hml, hown, hts⟩ (c_drunk l D tys [gO h0 lo (nI n) 1] L S H.size (i := 0) rfl hC) (cwV 0 hts gL_isTakenBack_X1_drunk rfl rfl rfl (by decide +kernel) ⟨Nat.le_of_ble_eq_true rfl, Nat.le_of_ble_eq_true rfl⟩) (gP_V (va_recv hK hP (ci := 1) rfl (g_inX (X := [gO h0 lo (nI n) 1]) (i := 0) rfl)) hP hK hD gBl_N (fun U _ hW => hGG.1.warm hW)) rfl rfl hl.1 rfl (lv_room (Nat.le_of_ble_eq_true rfl)) dL_isTakenBack_93 ⟨by show 1 + 0 + 0 + 0 + 5 + 0 + 0 + 3 + 0 + 0 ≤ 12; omega, by show 6 + 0 + 0 + 0 + 22 + 0 + 0 + 14 + 0 + 0 ≤ 60; omega⟩) hD hS hA (fun r9 u9 H locs hr9 hP hD hS => ?_)
      have hP : va_P D vwCl ([gO h0 lo (nI n) 1] ++ va_pl L (gE S)) H := hP
      have hD : va_D (va_A ([gO h0 lo (nI n) 1] ++ va_pl L0 (gE S0)) s.heap.size) ([gO h0 lo (nI n) 1] ++ va_pl L (gE S)) := hD
      have hr9 : r9 = nI (gct P3 9 5000) := hr9
      subst hr9
      refine lv_iload hx hb dL_isTakenBack_96 (lv_at hl 0 rfl) ?_
      refine lv_icmp_ne (tgt := 105) hx hb dL_isTakenBack_98 (by decide) (fun c9 => absurd (z_eq hP39) c9) (fun _ => ?_)
      refine lv_iconst (v := nI 1) hx hb dL_isTakenBack_101 (by decide) ?_
      refine lv_goto (tgt := 106) hx hb dL_isTakenBack_102 (by decide) ?_
      refine lv_istore (lv' := [(6, .int (nI 1)), (5, .int (nI (gct P 9 5000))), (4, .int (nI (gct P 8 5000))), (3, .int (P y9)), (0, .ref h0), (1, .int (nI gb)), (2, .int (nI y9))]) hx hb dL_isTakenBack_106 hl (by decide) rfl (fun ls hl => ?_)
      refine lv_iload hx hb dL_isTakenBack_108 (lv_at hl 0 rfl) ?_
      refine lv_if_eq (tgt := 132) hx hb dL_isTakenBack_110 (by decide) (fun c9 => absurd c9 (by decide)) (fun _ => ?_)
      refine lv_iload_n hx hb dL_isTakenBack_113 rfl (lv_at hl 3 rfl) ?_
      refine lv_bipush (v := nI 8) hx hb dL_isTakenBack_114 (by decide) ?_
      refine lv_icmp_ne (tgt := 128) hx hb dL_isTakenBack_116 (by decide) (fun c9 => absurd (hw) c9) (fun _ => ?_)
      refine lv_aload_n hx hb dL_isTakenBack_119 rfl (lv_at hl 4 rfl) ?_
      refine lv_iload_n hx hb dL_isTakenBack_120 rfl (lv_at hl 5 rfl) ?_
      refine g_xcalli (vx_runV (As := [.int (nI gb)]) (rest := []) ⟨hx, hb, hml, hown, hts⟩ (c_nextOf l hl9 D tys [gO h0 lo (nI n) 1] L S H.size (i := 0) rfl hC (nI gb)) (cwV 1 hts gL_isTakenBack_X1_nextOf rfl rfl rfl (by decide +kernel) ⟨Nat.le_of_ble_eq_true rfl, Nat.le_of_ble_eq_true rfl⟩) (gP_V (va_recv hK hP (ci := 1) rfl (g_inX (X := [gO h0 lo (nI n) 1]) (i := 0) rfl)) hP hK hD gBl_G (fun U hU hW => gG.call hGG hS (gA_sub hD hS hA) U hU hW)) rfl rfl hl.1 rfl (lv_room (Nat.le_of_ble_eq_true rfl)) dL_isTakenBack_121 ⟨by show 1 + 0 + 0 + 0 + 5 + 0 + 0 + 3 + 0 + 0 + 1 ≤ 12; omega, by show 6 + 0 + 0 + 0 + 22 + 0 + 0 + 14 + 0 + 0 + 6 ≤ 60; omega⟩) hD hS hA (fun E ce q9 u9 H locs hc hP hD hS e1 e2 e3 => False.elim (hc.1.2 (h_gob hgb))) (fun r9 u9 H locs hr9 hP hD hS => ?_)
      obtain ⟨⟨-, v, y, hv, hy, hr9⟩, hC⟩ := hr9
      obtain ⟨L, S⟩ := u9
      have hP : va_P D vwCl ([gO h0 lo (nI n) 1] ++ va_pl L (gE S)) H := hP
      have hD : va_D (va_A ([gO h0 lo (nI n) 1] ++ va_pl L0 (gE S0)) s.heap.size) ([gO h0 lo (nI n) 1] ++ va_pl L (gE S)) := hD
      have hr9 : r9 = nI (if v = 0 then y else v) := hr9
      subst hr9
      rw [he] at hv hy
      have hvy : (if v = 0 then y else v) = y9 := by
        by_cases z : v = 0
        · rw [if_pos z]
          rcases hyy with h | ⟨-, h⟩
          · exact absurd ((glow_one h hv).trans z) hy0
          · exact glow_one hy h
        · rw [if_neg z]
          rcases hyy with h | ⟨h, -⟩
          · exact glow_one hv h
          · exact absurd (glow_one hv h) z
      refine g_top (y := nI y9) (z_eq hvy) ?_
      refine lv_iload_n hx hb dL_isTakenBack_124 rfl (lv_at hl 6 rfl) ?_
      refine lv_icmp_ne (tgt := 132) hx hb dL_isTakenBack_125 (by decide) (fun c9 => absurd (rfl) c9) (fun _ => ?_)
      refine lv_iconst (v := nI 1) hx hb dL_isTakenBack_128 (by decide) ?_
      refine lv_goto (tgt := 133) hx hb dL_isTakenBack_129 (by decide) ?_
      exact g_retz (wo := fun u : List Nat × gS => [gO h0 lo (nI n) 1] ++ va_pl u.1 (gE u.2)) hx hb hr hlocks hK (nI 1) rfl (L, S) hP hD hS (by omega) (by omega) ⟨rfl, P3, hP3i, hC⟩ dL_isTakenBack_133
    · have h83 : gct P3 8 5000 = gct P 8 5000 + 1 := by rw [hP3p, up_to hy1 hw 5000, if_pos hy2]
      refine lv_icmp_ne (tgt := 77) hx hb dL_isTakenBack_70 (by decide) (fun _ => ?_) (fun c9 => absurd c9 (hw))
      refine lv_iconst (v := nI 1) hx hb dL_isTakenBack_77 (by decide) ?_
      refine lv_iadd hx hb dL_isTakenBack_78 ?_
      refine g_top (y := nI ((gct P 8 5000) + 1)) (nI_add _ _) ?_
      refine lv_icmp_ne (tgt := 105) hx hb dL_isTakenBack_79 (by decide) (fun c9 => absurd (z_eq (by omega)) c9) (fun _ => ?_)
      refine lv_aload_n hx hb dL_isTakenBack_82 rfl (lv_at hl 3 rfl) ?_
      refine lv_iload_n hx hb dL_isTakenBack_83 rfl (lv_at hl 5 rfl) ?_
      obtain ⟨g9, hch9, hwf9, hmx9⟩ := id hC
      refine g_calli (va_runV (As := [.int (nI y9)]) (rest := []) ⟨hx, hb, hml, hown, hts⟩ (c_place l D tys [gO h0 lo (nI n) 1] L S H.size (i := 0) rfl hwf9 hmx9 hch9 (nI y9)) (cwV 1 hts gL_isTakenBack_X1_placeOf rfl rfl rfl (by decide +kernel) ⟨Nat.le_of_ble_eq_true rfl, Nat.le_of_ble_eq_true rfl⟩) (gP_V (va_recv hK hP (ci := 1) rfl (g_inX (X := [gO h0 lo (nI n) 1]) (i := 0) rfl)) hP hK hD gBl_N (fun U _ hW => hGG.1.warm hW)) rfl rfl hl.1 rfl (lv_room (Nat.le_of_ble_eq_true rfl)) dL_isTakenBack_84 ⟨by show 1 + 0 + 0 + 0 + 5 + 0 + 0 + 3 + 0 ≤ 12; omega, by show 6 + 0 + 0 + 0 + 22 + 0 + 0 + 14 + 0 ≤ 60; omega⟩) hD hS hA (fun r9 u9 H locs hr9 hP hD hS => ?_)
      have hP : va_P D vwCl ([gO h0 lo (nI n) 1] ++ va_pl L (gE S)) H := hP
      have hD : va_D (va_A ([gO h0 lo (nI n) 1] ++ va_pl L0 (gE S0)) s.heap.size) ([gO h0 lo (nI n) 1] ++ va_pl L (gE S)) := hD
      have hr9 : r9 = P3 y9 := rg_place hp3e (by omega) hr9
      subst hr9
      refine lv_bipush (v := nI 8) hx hb dL_isTakenBack_87 (by decide) ?_
      refine lv_icmp_ne (tgt := 105) hx hb dL_isTakenBack_89 (by decide) (fun c9 => absurd (hP3y) c9) (fun _ => ?_)
      refine lv_aload_n hx hb dL_isTakenBack_92 rfl (lv_at hl 3 rfl) ?_
      refine g_calli (va_runV (As := []) (rest := []) ⟨hx, hb, hml, hown, hts⟩ (c_drunk l D tys [gO h0 lo (nI n) 1] L S H.size (i := 0) rfl hC) (cwV 0 hts gL_isTakenBack_X1_drunk rfl rfl rfl (by decide +kernel) ⟨Nat.le_of_ble_eq_true rfl, Nat.le_of_ble_eq_true rfl⟩) (gP_V (va_recv hK hP (ci := 1) rfl (g_inX (X := [gO h0 lo (nI n) 1]) (i := 0) rfl)) hP hK hD gBl_N (fun U _ hW => hGG.1.warm hW)) rfl rfl hl.1 rfl (lv_room (Nat.le_of_ble_eq_true rfl)) dL_isTakenBack_93 ⟨by show 1 + 0 + 0 + 0 + 5 + 0 + 0 + 3 + 0 + 0 ≤ 12; omega, by show 6 + 0 + 0 + 0 + 22 + 0 + 0 + 14 + 0 + 0 ≤ 60; omega⟩) hD hS hA (fun r9 u9 H locs hr9 hP hD hS => ?_)
      have hP : va_P D vwCl ([gO h0 lo (nI n) 1] ++ va_pl L (gE S)) H := hP
      have hD : va_D (va_A ([gO h0 lo (nI n) 1] ++ va_pl L0 (gE S0)) s.heap.size) ([gO h0 lo (nI n) 1] ++ va_pl L (gE S)) := hD
      have hr9 : r9 = nI (gct P3 9 5000) := hr9
      subst hr9
      refine lv_iload hx hb dL_isTakenBack_96 (lv_at hl 0 rfl) ?_
      refine lv_icmp_ne (tgt := 105) hx hb dL_isTakenBack_98 (by decide) (fun c9 => absurd (z_eq hP39) c9) (fun _ => ?_)
      refine lv_iconst (v := nI 1) hx hb dL_isTakenBack_101 (by decide) ?_
      refine lv_goto (tgt := 106) hx hb dL_isTakenBack_102 (by decide) ?_
      refine lv_istore (lv' := [(6, .int (nI 1)), (5, .int (nI (gct P 9 5000))), (4, .int (nI (gct P 8 5000))), (3, .int (P y9)), (0, .ref h0), (1, .int (nI gb)), (2, .int (nI y9))]) hx hb dL_isTakenBack_106 hl (by decide) rfl (fun ls hl => ?_)
      refine lv_iload hx hb dL_isTakenBack_108 (lv_at hl 0 rfl) ?_
      refine lv_if_eq (tgt := 132) hx hb dL_isTakenBack_110 (by decide) (fun c9 => absurd c9 (by decide)) (fun _ => ?_)
      refine lv_iload_n hx hb dL_isTakenBack_113 rfl (lv_at hl 3 rfl) ?_
      refine lv_bipush (v := nI 8) hx hb dL_isTakenBack_114 (by decide) ?_
      refine lv_icmp_ne (tgt := 128) hx hb dL_isTakenBack_116 (by decide) (fun _ => ?_) (fun c9 => absurd c9 (hw))
      refine lv_iconst (v := nI 1) hx hb dL_isTakenBack_128 (by decide) ?_
      refine lv_goto (tgt := 133) hx hb dL_isTakenBack_129 (by decide) ?_
      exact g_retz (wo := fun u : List Nat × gS => [gO h0 lo (nI n) 1] ++ va_pl u.1 (gE u.2)) hx hb hr hlocks hK (nI 1) rfl (L, S) hP hD hS (by omega) (by omega) ⟨rfl, P3, hP3i, hC⟩ dL_isTakenBack_133
  refine lv_aload_n hx hb dL_isTakenBack_0 rfl (lv_at hl 0 rfl) ?_
  refine lv_iload_n hx hb dL_isTakenBack_1 rfl (lv_at hl 1 rfl) ?_
  refine g_xcalli (vx_runV (As := [.int (nI gb)]) (rest := []) ⟨hx, hb, hml, hown, hts⟩ (c_nextOf l hl9 D tys [gO h0 lo (nI n) 1] L0 S0 s.heap.size (i := 0) rfl hC (nI gb)) (cwV 1 hts gL_isTakenBack_X1_nextOf rfl rfl rfl (by decide +kernel) ⟨Nat.le_of_ble_eq_true rfl, Nat.le_of_ble_eq_true rfl⟩) (gP_V (va_recv hK hP (ci := 1) rfl (g_inX (X := [gO h0 lo (nI n) 1]) (i := 0) rfl)) hP hK hD gBl_G (fun U hU hW => gG.call hGG hS (gA_sub hD hS hA) U hU hW)) rfl rfl hl.1 rfl (lv_room (Nat.le_of_ble_eq_true rfl)) dL_isTakenBack_2 ⟨by show 0 + 1 ≤ 12; omega, by show 0 + 6 ≤ 60; omega⟩) hD hS hA (fun E ce q9 u9 H locs hc hP hD hS e1 e2 e3 => False.elim (hc.1.2 (h_gob hgb))) (fun r9 u9 H locs hr9 hP hD hS => ?_)
  obtain ⟨⟨-, v, y, hv, hy, hr9⟩, hC⟩ := hr9
  obtain ⟨L, S⟩ := u9
  have hP : va_P D vwCl ([gO h0 lo (nI n) 1] ++ va_pl L (gE S)) H := hP
  have hD : va_D (va_A ([gO h0 lo (nI n) 1] ++ va_pl L0 (gE S0)) s.heap.size) ([gO h0 lo (nI n) 1] ++ va_pl L (gE S)) := hD
  have hr9 : r9 = nI (if v = 0 then y else v) := hr9
  subst hr9
  by_cases hv0 : v = 0
  · subst hv0
    by_cases hy0 : y = 0
    · subst hy0
      refine g_top (y := nI 0) (rfl) ?_
      refine lv_istore_n (lv' := [(2, .int (nI 0)), (0, .ref h0), (1, .int (nI gb))]) hx hb dL_isTakenBack_5 rfl hl (by decide) rfl (fun ls hl => ?_)
      refine lv_iload_n hx hb dL_isTakenBack_6 rfl (lv_at hl 0 rfl) ?_
      refine lv_if_ne (tgt := 12) hx hb dL_isTakenBack_7 (by decide) (fun c9 => absurd (rfl) c9) (fun _ => ?_)
      refine lv_iconst (v := nI 1) hx hb dL_isTakenBack_10 (by decide) ?_
      exact g_retz (wo := fun u : List Nat × gS => [gO h0 lo (nI n) 1] ++ va_pl u.1 (gE u.2)) hx hb hr hlocks hK (nI 1) rfl (L, S) hP hD hS (by omega) (by omega) ⟨rfl, P, hI, hC⟩ dL_isTakenBack_11
    · skip
      refine g_top (y := nI y) (by rw [if_pos rfl]) ?_
      refine lv_istore_n (lv' := [(2, .int (nI y)), (0, .ref h0), (1, .int (nI gb))]) hx hb dL_isTakenBack_5 rfl hl (by decide) rfl (fun ls hl => ?_)
      refine lv_iload_n hx hb dL_isTakenBack_6 rfl (lv_at hl 0 rfl) ?_
      refine lv_if_ne (tgt := 12) hx hb dL_isTakenBack_7 (by decide) (fun _ => ?_) (fun c9 => absurd c9 (z_ne (b := 0) (by have := glow_le hy; omega) (by omega) hy0))
      refine W.widen (k := 1) (n := 6) (by omega) (by omega) ?_
      exact hj12 y L S H locs ls hy0 (Or.inr ⟨hv, hy⟩) hC hP hD hS (lv_sub hl [1, 2, 0] rfl)
  · skip
    refine g_top (y := nI v) (by rw [if_neg hv0]) ?_
    refine lv_istore_n (lv' := [(2, .int (nI v)), (0, .ref h0), (1, .int (nI gb))]) hx hb dL_isTakenBack_5 rfl hl (by decide) rfl (fun ls hl => ?_)
    refine lv_iload_n hx hb dL_isTakenBack_6 rfl (lv_at hl 0 rfl) ?_
    refine lv_if_ne (tgt := 12) hx hb dL_isTakenBack_7 (by decide) (fun _ => ?_) (fun c9 => absurd c9 (z_ne (b := 0) (by have := glow_le hv; omega) (by omega) hv0))
    refine W.widen (k := 1) (n := 6) (by omega) (by omega) ?_
    exact hj12 v L S H locs ls hv0 (Or.inl hv) hC hP hD hS (lv_sub hl [1, 2, 0] rfl)
