/-! p25: isThereAndBack -/
/-- the first number that is poured is the jug's lowest -/
theorem tb_low {P Q : Nat → Int32} {n gb cn a b v : Nat} (hev : gEv P n) (hgb : gb < 8) (hc : 1 ≤ cn) (h0 : gct P (nI gb) 5000 = 0) (hr : gRg P 0 a b) (hQ : Q = gmv P 8 (nI gb) 0 cn) (hv : glow (fun j => Q j = nI gb) 5000 v) : v = a := by
  obtain ⟨q1, q2, q3, q4, q5, q6, q7⟩ := hr
  have hno := gct_none h0
  have hpa : P a = 8 := q4 a (Nat.le_refl _) q2
  have hno8 := gbg_none (h_0n hev) q7
  have e1 : gct P 8 (a - 1) = 0 := gct_zero hno8
  have e2 := gct_yes (P := P) (p := 8) (n := a - 1) (by rw [show a - 1 + 1 = a by omega]; exact hpa)
  rw [show a - 1 + 1 = a by omega] at e2
  have hqa : Q a = nI gb := by rw [hQ]; exact gmv_in hpa (by omega) (by omega)
  refine glow_one hv (Or.inr ⟨q1, by omega, hqa, fun j h1 h2 => ?_⟩)
  show ¬ Q j = nI gb
  rw [hQ, gmv_out (Or.inl (hno8 j h1 (by omega)))]
  exact hno j h1 (by omega)
set_option maxHeartbeats 4000000 in
set_option maxRecDepth 100000 in
/-- isThereAndBack: what an empty goblet got goes back -/
theorem w_isThereAndBack (l : Launch) (hl9 : l.stackTraces = false) (D : va_G) (tys : List (ClassId × FieldType)) (L0 : List Nat) (S0 : gS) (sz : Nat) {P : Nat → Int32} {n h0 lo : Nat} (hC : gCh P lo (L0, S0)) (hI : gInv P n) {gb cn : Nat} (hgb : gb < 8) (hc1 : 1 ≤ cn) (hc2 : cn ≤ 20) : Met l yL_isThereAndBack wsL_isThereAndBack ({ frames := 8, cells := 20, slots := 120, locals := 200 } : Room) (gP D tys [.ref h0, .int (nI gb), .int (nI cn)] ([gO h0 lo (nI n) 1] ++ va_pl L0 (gE S0)) sz (gG (va_A ([gO h0 lo (nI n) 1] ++ va_pl L0 (gE S0)) sz))) (va_Qi (fun (r : Int32) (u : List Nat × gS) => r = nI 1 ∧ gCh P lo u) (fun u t => gWd D tys (va_A ([gO h0 lo (nI n) 1] ++ va_pl L0 (gE S0)) sz) ([gO h0 lo (nI n) 1] ++ va_pl u.1 (gE u.2)) t) (va_A ([gO h0 lo (nI n) 1] ++ va_pl L0 (gE S0)) sz)) 20 120 (va_A ([gO h0 lo (nI n) 1] ++ va_pl L0 (gE S0)) sz) := by
  refine g_ofW (cc := cL_isThereAndBack) (maxL := 9) (ret := some .boolean) (by decide) rfl (Nat.le_of_ble_eq_true rfl) ?_
  intro p e s m below meth c hx hb hr hml hts hown hlocks hin hsz hP hK hD hA hS hGG ls hl
  subst hsz
  have hown : s.vm.findClass RL = some m.cls := hown
  have hev := hI.1
  have hn1 := hI.1.1
  have hn2 := hI.2.1
  have hl : lv_has ls 9 [(0, .ref h0), (1, .int (nI gb)), (2, .int (nI cn))] := hl
  have hg8 : ¬ nI gb = 8 := h_ne (b := 8) (by omega) (by omega) (by omega)
  have hf8 := h_few hev (k := 8) (by omega)
  have hf8 : gct P 8 5000 ≤ n := hf8
  have hfg := h_few hev (k := gb) (by omega)
  have hR := h_fewR hev (k := 8) (by omega)
  have hR : gbg P 8 5000 ≤ n := hR
  have hct := gbg_iff (m := 5000) (h_0n hev)
  refine lv_aload_n hx hb dL_isThereAndBack_0 rfl (lv_at hl 0 rfl) ?_
  refine lv_iload_n hx hb dL_isThereAndBack_1 rfl (lv_at hl 1 rfl) ?_
  refine g_xcalli (vx_runV (As := [.int (nI gb)]) (rest := []) ⟨hx, hb, hml, hown, hts⟩ (c_inGoblet l hl9 D tys [gO h0 lo (nI n) 1] L0 S0 s.heap.size (i := 0) rfl hC (nI gb)) (cwV 1 hts gL_isThereAndBack_X1_inGoblet rfl rfl rfl (by decide +kernel) ⟨Nat.le_of_ble_eq_true rfl, Nat.le_of_ble_eq_true rfl⟩) (gP_V (va_recv hK hP (ci := 1) rfl (g_inX (X := [gO h0 lo (nI n) 1]) (i := 0) rfl)) hP hK hD gBl_G (fun U hU hW => gG.call hGG hS (gA_sub hD hS hA) U hU hW)) rfl rfl hl.1 rfl (lv_room (Nat.le_of_ble_eq_true rfl)) dL_isThereAndBack_2 ⟨by show 0 + 1 ≤ 20; omega, by show 0 + 6 ≤ 120; omega⟩) hD hS hA (fun E ce q9 u9 H locs hc hP hD hS e1 e2 e3 => False.elim (hc.1.2 (h_gob hgb))) (fun r9 u9 H locs hr9 hP hD hS => ?_)
  obtain ⟨⟨-, hr9⟩, hC⟩ := hr9
  obtain ⟨L, S⟩ := u9
  have hP : va_P D vwCl ([gO h0 lo (nI n) 1] ++ va_pl L (gE S)) H := hP
  have hD : va_D (va_A ([gO h0 lo (nI n) 1] ++ va_pl L0 (gE S0)) s.heap.size) ([gO h0 lo (nI n) 1] ++ va_pl L (gE S)) := hD
  have hr9 : r9 = nI (gct P (nI gb) 5000) := hr9
  subst hr9
  by_cases hT : gct P (nI gb) 5000 = 0
  · skip
    refine lv_if_gt (tgt := 15) hx hb dL_isThereAndBack_5 (by decide) (fun c9 => absurd c9 ((z_nlt (by omega) (by omega) : ¬ nI 0 < nI (gct P (nI gb) 5000)))) (fun _ => ?_)
    refine lv_aload_n hx hb dL_isThereAndBack_8 rfl (lv_at hl 0 rfl) ?_
    refine g_calli (va_runV (As := []) (rest := []) ⟨hx, hb, hml, hown, hts⟩ (c_inJug l D tys [gO h0 lo (nI n) 1] L S H.size (i := 0) rfl hC) (cwV 0 hts gL_isThereAndBack_X1_inJug rfl rfl rfl (by decide +kernel) ⟨Nat.le_of_ble_eq_true rfl, Nat.le_of_ble_eq_true rfl⟩) (gP_V (va_recv hK hP (ci := 1) rfl (g_inX (X := [gO h0 lo (nI n) 1]) (i := 0) rfl)) hP hK hD gBl_N (fun U _ hW => hGG.1.warm hW)) rfl rfl hl.1 rfl (lv_room (Nat.le_of_ble_eq_true rfl)) dL_isThereAndBack_9 ⟨by show 0 + 1 + 0 ≤ 20; omega, by show 0 + 6 + 0 ≤ 120; omega⟩) hD hS hA (fun r9 u9 H locs hr9 hP hD hS => ?_)
    have hP : va_P D vwCl ([gO h0 lo (nI n) 1] ++ va_pl L (gE S)) H := hP
    have hD : va_D (va_A ([gO h0 lo (nI n) 1] ++ va_pl L0 (gE S0)) s.heap.size) ([gO h0 lo (nI n) 1] ++ va_pl L (gE S)) := hD
    have hr9 : r9 = nI (gct P 8 5000) := hr9
    subst hr9
    by_cases hJ : gct P 8 5000 = 0
    · skip
      refine lv_if_ne (tgt := 17) hx hb dL_isThereAndBack_12 (by decide) (fun c9 => absurd (z_eq hJ) c9) (fun _ => ?_)
      refine lv_iconst (v := nI 1) hx hb dL_isThereAndBack_15 (by decide) ?_
      exact g_retz (wo := fun u : List Nat × gS => [gO h0 lo (nI n) 1] ++ va_pl u.1 (gE u.2)) hx hb hr hlocks hK (nI 1) rfl (L, S) hP hD hS (by omega) (by omega) ⟨rfl, hC⟩ dL_isThereAndBack_16
    · obtain ⟨fa, fb, hrg, hbn⟩ := rg_ex hev (k := 0) (by have : ¬ gbg P 8 5000 = 0 := fun z => hJ (hct.mpr z); omega)
      obtain ⟨lv, hlv⟩ : ∃ x, x = nI (glg P 5000).1 - 1 := ⟨_, rfl⟩
      obtain ⟨Q, hQ⟩ : ∃ q, q = gmv P 8 (nI gb) 0 cn := ⟨_, rfl⟩
      have hQi : gInv Q n := by rw [hQ]; exact inv_mv (a := 8) (by omega) (by omega) hI
      have hqe := hQi.1
      have hsp := mv_split hev (h_neg (by omega)) hg8 hT hQ 5000 (Nat.le_refl _)
      have hback : gmv Q (nI gb) 8 0 5000 = P := by rw [hQ]; exact mv_back hev (h_neg (by omega)) hT
      have hmc := mv_ct (P := P) (st := 0) (cn := cn) (fun z => hg8 z.symm) 5000
      rw [← hQ, hT] at hmc
      have hrn := hrg.1
      have hrn2 := hrg.2.1
      refine lv_if_ne (tgt := 17) hx hb dL_isThereAndBack_12 (by decide) (fun _ => ?_) (fun c9 => absurd c9 (z_ne (b := 0) (by omega) (by omega) hJ))
      refine lv_aload_n hx hb dL_isThereAndBack_17 rfl (lv_at hl 0 rfl) ?_
      refine g_calli (va_runV (As := []) (rest := []) ⟨hx, hb, hml, hown, hts⟩ (c_inJug l D tys [gO h0 lo (nI n) 1] L S H.size (i := 0) rfl hC) (cwV 0 hts gL_isThereAndBack_X1_inJug rfl rfl rfl (by decide +kernel) ⟨Nat.le_of_ble_eq_true rfl, Nat.le_of_ble_eq_true rfl⟩) (gP_V (va_recv hK hP (ci := 1) rfl (g_inX (X := [gO h0 lo (nI n) 1]) (i := 0) rfl)) hP hK hD gBl_N (fun U _ hW => hGG.1.warm hW)) rfl rfl hl.1 rfl (lv_room (Nat.le_of_ble_eq_true rfl)) dL_isThereAndBack_18 ⟨by show 0 + 1 + 0 + 0 ≤ 20; omega, by show 0 + 6 + 0 + 0 ≤ 120; omega⟩) hD hS hA (fun r9 u9 H locs hr9 hP hD hS => ?_)
      have hP : va_P D vwCl ([gO h0 lo (nI n) 1] ++ va_pl L (gE S)) H := hP
      have hD : va_D (va_A ([gO h0 lo (nI n) 1] ++ va_pl L0 (gE S0)) s.heap.size) ([gO h0 lo (nI n) 1] ++ va_pl L (gE S)) := hD
      have hr9 : r9 = nI (gct P 8 5000) := hr9
      subst hr9
      refine lv_istore_n (lv' := [(3, .int (nI (gct P 8 5000))), (0, .ref h0), (1, .int (nI gb)), (2, .int (nI cn))]) hx hb dL_isThereAndBack_21 rfl hl (by decide) rfl (fun ls hl => ?_)
      refine lv_aload_n hx hb dL_isThereAndBack_22 rfl (lv_at hl 1 rfl) ?_
      refine g_calli (va_runV (As := []) (rest := []) ⟨hx, hb, hml, hown, hts⟩ (c_rangesP l D tys [gO h0 lo (nI n) 1] L S H.size (i := 0) rfl hC (h_0 hev)) (cwV 0 hts gL_isThereAndBack_X1_ranges rfl rfl rfl (by decide +kernel) ⟨Nat.le_of_ble_eq_true rfl, Nat.le_of_ble_eq_true rfl⟩) (gP_V (va_recv hK hP (ci := 1) rfl (g_inX (X := [gO h0 lo (nI n) 1]) (i := 0) rfl)) hP hK hD gBl_N (fun U _ hW => hGG.1.warm hW)) rfl rfl hl.1 rfl (lv_room (Nat.le_of_ble_eq_true rfl)) dL_isThereAndBack_23 ⟨by show 0 + 1 + 0 + 0 + 0 ≤ 20; omega, by show 0 + 6 + 0 + 0 + 0 ≤ 120; omega⟩) hD hS hA (fun r9 u9 H locs hr9 hP hD hS => ?_)
      have hP : va_P D vwCl ([gO h0 lo (nI n) 1] ++ va_pl L (gE S)) H := hP
      have hD : va_D (va_A ([gO h0 lo (nI n) 1] ++ va_pl L0 (gE S0)) s.heap.size) ([gO h0 lo (nI n) 1] ++ va_pl L (gE S)) := hD
      have hr9 : r9 = nI (gbg P 8 5000) := hr9
      subst hr9
      refine lv_istore (lv' := [(4, .int (nI (gbg P 8 5000))), (3, .int (nI (gct P 8 5000))), (0, .ref h0), (1, .int (nI gb)), (2, .int (nI cn))]) hx hb dL_isThereAndBack_26 hl (by decide) rfl (fun ls hl => ?_)
      refine lv_aload_n hx hb dL_isThereAndBack_28 rfl (lv_at hl 2 rfl) ?_
      refine lv_iconst (v := nI 0) hx hb dL_isThereAndBack_29 (by decide) ?_
      refine g_xcalli (vx_runV (As := [.int (nI 0)]) (rest := []) ⟨hx, hb, hml, hown, hts⟩ (c_rangeFrom l hl9 D tys [gO h0 lo (nI n) 1] L S H.size (i := 0) rfl hC (nI 0) (h_0 hev) (h_51 hev)) (cwV 1 hts gL_isThereAndBack_X1_rangeFrom rfl rfl rfl (by decide +kernel) ⟨Nat.le_of_ble_eq_true rfl, Nat.le_of_ble_eq_true rfl⟩) (gP_V (va_recv hK hP (ci := 1) rfl (g_inX (X := [gO h0 lo (nI n) 1]) (i := 0) rfl)) hP hK hD gBl_G (fun U hU hW => gG.call hGG hS (gA_sub hD hS hA) U hU hW)) rfl rfl hl.1 rfl (lv_room (Nat.le_of_ble_eq_true rfl)) dL_isThereAndBack_30 ⟨by show 0 + 1 + 0 + 0 + 0 + 1 ≤ 20; omega, by show 0 + 6 + 0 + 0 + 0 + 6 ≤ 120; omega⟩) hD hS hA (fun E ce q9 u9 H locs hc hP hD hS e1 e2 e3 => False.elim (rg_ok hrg hc.1.2)) (fun r9 u9 H locs hr9 hP hD hS => ?_)
      obtain ⟨hr9, hC⟩ := hr9
      obtain ⟨L, S⟩ := u9
      have hP : va_P D vwCl ([gO h0 lo (nI n) 1] ++ va_pl L (gE S)) H := hP
      have hD : va_D (va_A ([gO h0 lo (nI n) 1] ++ va_pl L0 (gE S0)) s.heap.size) ([gO h0 lo (nI n) 1] ++ va_pl L (gE S)) := hD
      have hr9 : r9 = nI fa := rg_from (by omega) hrg hr9
      subst hr9
      refine lv_istore (lv' := [(5, .int (nI fa)), (4, .int (nI (gbg P 8 5000))), (3, .int (nI (gct P 8 5000))), (0, .ref h0), (1, .int (nI gb)), (2, .int (nI cn))]) hx hb dL_isThereAndBack_33 hl (by decide) rfl (fun ls hl => ?_)
      refine lv_aload_n hx hb dL_isThereAndBack_35 rfl (lv_at hl 3 rfl) ?_
      obtain ⟨g9, hch9, hwf9, hmx9⟩ := id hC
      refine g_calli (va_runV (As := []) (rest := []) ⟨hx, hb, hml, hown, hts⟩ (c_longest l D tys [gO h0 lo (nI n) 1] L S H.size (i := 0) rfl hwf9 hmx9 hch9 (h_0 hev)) (cwV 0 hts gL_isThereAndBack_X1_longestRange rfl rfl rfl (by decide +kernel) ⟨Nat.le_of_ble_eq_true rfl, Nat.le_of_ble_eq_true rfl⟩) (gP_V (va_recv hK hP (ci := 1) rfl (g_inX (X := [gO h0 lo (nI n) 1]) (i := 0) rfl)) hP hK hD gBl_N (fun U _ hW => hGG.1.warm hW)) rfl rfl hl.1 rfl (lv_room (Nat.le_of_ble_eq_true rfl)) dL_isThereAndBack_36 ⟨by show 0 + 1 + 0 + 0 + 0 + 1 + 0 ≤ 20; omega, by show 0 + 6 + 0 + 0 + 0 + 6 + 0 ≤ 120; omega⟩) hD hS hA (fun r9 u9 H locs hr9 hP hD hS => ?_)
      have hP : va_P D vwCl ([gO h0 lo (nI n) 1] ++ va_pl L (gE S)) H := hP
      have hD : va_D (va_A ([gO h0 lo (nI n) 1] ++ va_pl L0 (gE S0)) s.heap.size) ([gO h0 lo (nI n) 1] ++ va_pl L (gE S)) := hD
      have hr9 : r9 = nI (glg P 5000).1 - 1 := hr9
      subst hr9
      refine g_top (y := lv) (hlv.symm) ?_
      refine lv_istore (lv' := [(6, .int lv), (5, .int (nI fa)), (4, .int (nI (gbg P 8 5000))), (3, .int (nI (gct P 8 5000))), (0, .ref h0), (1, .int (nI gb)), (2, .int (nI cn))]) hx hb dL_isThereAndBack_39 hl (by decide) rfl (fun ls hl => ?_)
      refine lv_aload_n hx hb dL_isThereAndBack_41 rfl (lv_at hl 4 rfl) ?_
      refine lv_iload_n hx hb dL_isThereAndBack_42 rfl (lv_at hl 5 rfl) ?_
      refine lv_iload_n hx hb dL_isThereAndBack_43 rfl (lv_at hl 6 rfl) ?_
      refine g_xcalli (vx_runV (As := [.int (nI gb), .int (nI cn)]) (rest := []) ⟨hx, hb, hml, hown, hts⟩ (c_pour l hl9 D tys [gO h0 lo (nI n) 1] L S H.size (i := 0) rfl hC (nI gb) (nI cn)) (cwV 2 hts gL_isThereAndBack_X1_pour rfl rfl rfl (by decide +kernel) ⟨Nat.le_of_ble_eq_true rfl, Nat.le_of_ble_eq_true rfl⟩) (gP_V (va_recv hK hP (ci := 1) rfl (g_inX (X := [gO h0 lo (nI n) 1]) (i := 0) rfl)) hP hK hD gBl_G (fun U hU hW => gG.call hGG hS (gA_sub hD hS hA) U hU hW)) rfl rfl hl.1 rfl (lv_room (Nat.le_of_ble_eq_true rfl)) dL_isThereAndBack_44 ⟨by show 0 + 1 + 0 + 0 + 0 + 1 + 0 + 4 ≤ 20; omega, by show 0 + 6 + 0 + 0 + 0 + 6 + 0 + 20 ≤ 120; omega⟩) hD hS hA (fun E ce q9 u9 H locs hc hP hD hS e1 e2 e3 => False.elim (xb_pour (h_gob hgb) (h_cnt hc1 (by omega)) hJ hc.1)) (fun r9 u9 H locs hr9 hP hD hS => ?_)
      obtain ⟨-, c8, c81, c82, c83, -, hr9, hC⟩ := hr9
      obtain ⟨L, S⟩ := u9
      have hP : va_P D vwCl ([gO h0 lo (nI n) 1] ++ va_pl L (gE S)) H := hP
      have hD : va_D (va_A ([gO h0 lo (nI n) 1] ++ va_pl L0 (gE S0)) s.heap.size) ([gO h0 lo (nI n) 1] ++ va_pl L (gE S)) := hD
      obtain rfl : cn = c8 := (nI_eq (by omega) (by omega)).mp c83
      have hr9 : r9 = nI (min cn (gct P 8 5000)) := hr9
      subst hr9
      rw [show gmv P 8 (nI gb) 0 cn = Q from hQ.symm] at hC
      refine lv_istore (lv' := [(7, .int (nI (min cn (gct P 8 5000)))), (6, .int lv), (5, .int (nI fa)), (4, .int (nI (gbg P 8 5000))), (3, .int (nI (gct P 8 5000))), (0, .ref h0), (1, .int (nI gb)), (2, .int (nI cn))]) hx hb dL_isThereAndBack_47 hl (by decide) rfl (fun ls hl => ?_)
      have hj64 : ∀ (L : List Nat) (S : gS) (H : Heap) (locs : List Loc) (ls : Array Slot), gCh Q lo (L, S) → va_P D vwCl ([gO h0 lo (nI n) 1] ++ va_pl L (gE S)) H → va_D (va_A ([gO h0 lo (nI n) 1] ++ va_pl L0 (gE S0)) s.heap.size) ([gO h0 lo (nI n) 1] ++ va_pl L (gE S)) → va_S (va_A ([gO h0 lo (nI n) 1] ++ va_pl L0 (gE S0)) s.heap.size) s.heap H locs → lv_has ls 9 [(7, .int (nI (min cn (gct P 8 5000)))), (6, .int lv), (5, .int (nI fa)), (4, .int (nI (gbg P 8 5000))), (3, .int (nI (gct P 8 5000))), (0, .ref h0), (1, .int (nI gb)), (2, .int (nI cn))] → W p l e ({ frames := 8, cells := 20, slots := 120, locals := 200 } : Room) s m ([.ref h0, .int (nI gb), .int (nI cn)] : List Value).toArray below meth c H locs (0 + 1 + 0 + 0 + 0 + 1 + 0 + 4) (0 + 6 + 0 + 0 + 0 + 6 + 0 + 20) (MQ below (va_Qi (fun (r : Int32) (u : List Nat × gS) => r = nI 1 ∧ gCh P lo u) (fun u t => gWd D tys (va_A ([gO h0 lo (nI n) 1] ++ va_pl L0 (gE S0)) s.heap.size) ([gO h0 lo (nI n) 1] ++ va_pl u.1 (gE u.2)) t) (va_A ([gO h0 lo (nI n) 1] ++ va_pl L0 (gE S0)) s.heap.size)) ([.ref h0, .int (nI gb), .int (nI cn)] : List Value).toArray s 20 120 (va_A ([gO h0 lo (nI n) 1] ++ va_pl L0 (gE S0)) s.heap.size)) (F0 m 64 ls []) := by
        intro L S H locs ls hC hP hD hS hl
        refine lv_aload_n hx hb dL_isThereAndBack_64 rfl (lv_at hl 5 rfl) ?_
        refine lv_iload_n hx hb dL_isThereAndBack_65 rfl (lv_at hl 6 rfl) ?_
        refine g_xcalli (vx_runV (As := [.int (nI gb)]) (rest := []) ⟨hx, hb, hml, hown, hts⟩ (c_nextOf l hl9 D tys [gO h0 lo (nI n) 1] L S H.size (i := 0) rfl hC (nI gb)) (cwV 1 hts gL_isThereAndBack_X1_nextOf rfl rfl rfl (by decide +kernel) ⟨Nat.le_of_ble_eq_true rfl, Nat.le_of_ble_eq_true rfl⟩) (gP_V (va_recv hK hP (ci := 1) rfl (g_inX (X := [gO h0 lo (nI n) 1]) (i := 0) rfl)) hP hK hD gBl_G (fun U hU hW => gG.call hGG hS (gA_sub hD hS hA) U hU hW)) rfl rfl hl.1 rfl (lv_room (Nat.le_of_ble_eq_true rfl)) dL_isThereAndBack_66 ⟨by show (0 + 1 + 0 + 0 + 0 + 1 + 0 + 4) + 1 ≤ 20; omega, by show (0 + 6 + 0 + 0 + 0 + 6 + 0 + 20) + 6 ≤ 120; omega⟩) hD hS hA (fun E ce q9 u9 H locs hc hP hD hS e1 e2 e3 => False.elim (hc.1.2 (h_gob hgb))) (fun r9 u9 H locs hr9 hP hD hS => ?_)
        obtain ⟨⟨-, v, y, hv, hy, hr9⟩, hC⟩ := hr9
        obtain ⟨L, S⟩ := u9
        have hP : va_P D vwCl ([gO h0 lo (nI n) 1] ++ va_pl L (gE S)) H := hP
        have hD : va_D (va_A ([gO h0 lo (nI n) 1] ++ va_pl L0 (gE S0)) s.heap.size) ([gO h0 lo (nI n) 1] ++ va_pl L (gE S)) := hD
        have hr9 : r9 = nI (if v = 0 then y else v) := hr9
        subst hr9
        have hva := tb_low hev hgb hc1 hT hrg hQ hv
        refine g_top (y := nI fa) (by rw [hva, if_neg (by omega)]) ?_
        refine lv_iload hx hb dL_isThereAndBack_69 (lv_at hl 2 rfl) ?_
        refine lv_icmp_ne (tgt := 121) hx hb dL_isThereAndBack_71 (by decide) (fun c9 => absurd (rfl) c9) (fun _ => ?_)
        refine lv_aload_n hx hb dL_isThereAndBack_74 rfl (lv_at hl 5 rfl) ?_
        refine g_calli (va_runV (As := []) (rest := []) ⟨hx, hb, hml, hown, hts⟩ (c_inJug l D tys [gO h0 lo (nI n) 1] L S H.size (i := 0) rfl hC) (cwV 0 hts gL_isThereAndBack_X1_inJug rfl rfl rfl (by decide +kernel) ⟨Nat.le_of_ble_eq_true rfl, Nat.le_of_ble_eq_true rfl⟩) (gP_V (va_recv hK hP (ci := 1) rfl (g_inX (X := [gO h0 lo (nI n) 1]) (i := 0) rfl)) hP hK hD gBl_N (fun U _ hW => hGG.1.warm hW)) rfl rfl hl.1 rfl (lv_room (Nat.le_of_ble_eq_true rfl)) dL_isThereAndBack_75 ⟨by show (0 + 1 + 0 + 0 + 0 + 1 + 0 + 4) + 1 + 0 ≤ 20; omega, by show (0 + 6 + 0 + 0 + 0 + 6 + 0 + 20) + 6 + 0 ≤ 120; omega⟩) hD hS hA (fun r9 u9 H locs hr9 hP hD hS => ?_)
        have hP : va_P D vwCl ([gO h0 lo (nI n) 1] ++ va_pl L (gE S)) H := hP
        have hD : va_D (va_A ([gO h0 lo (nI n) 1] ++ va_pl L0 (gE S0)) s.heap.size) ([gO h0 lo (nI n) 1] ++ va_pl L (gE S)) := hD
        have hr9 : r9 = nI (gct Q 8 5000) := hr9
        subst hr9
        refine lv_iload_n hx hb dL_isThereAndBack_78 rfl (lv_at hl 4 rfl) ?_
        refine lv_iload hx hb dL_isThereAndBack_79 (lv_at hl 0 rfl) ?_
        refine lv_isub hx hb dL_isThereAndBack_81 ?_
        refine g_top (y := nI ((gct P 8 5000) - (min cn (gct P 8 5000)))) (pk_sub (by omega)) ?_
        refine lv_icmp_ne (tgt := 121) hx hb dL_isThereAndBack_82 (by decide) (fun c9 => absurd (z_eq (by omega)) c9) (fun _ => ?_)
        refine lv_aload_n hx hb dL_isThereAndBack_85 rfl (lv_at hl 5 rfl) ?_
        refine lv_iload_n hx hb dL_isThereAndBack_86 rfl (lv_at hl 6 rfl) ?_
        refine g_xcalli (vx_runV (As := [.int (nI gb)]) (rest := []) ⟨hx, hb, hml, hown, hts⟩ (c_rangesOf l hl9 D tys [gO h0 lo (nI n) 1] L S H.size (i := 0) rfl hC (nI gb) (h_0 hqe)) (cwV 1 hts gL_isThereAndBack_X1_rangesOf rfl rfl rfl (by decide +kernel) ⟨Nat.le_of_ble_eq_true rfl, Nat.le_of_ble_eq_true rfl⟩) (gP_V (va_recv hK hP (ci := 1) rfl (g_inX (X := [gO h0 lo (nI n) 1]) (i := 0) rfl)) hP hK hD gBl_G (fun U hU hW => gG.call hGG hS (gA_sub hD hS hA) U hU hW)) rfl rfl hl.1 rfl (lv_room (Nat.le_of_ble_eq_true rfl)) dL_isThereAndBack_87 ⟨by show (0 + 1 + 0 + 0 + 0 + 1 + 0 + 4) + 1 + 0 + 1 ≤ 20; omega, by show (0 + 6 + 0 + 0 + 0 + 6 + 0 + 20) + 6 + 0 + 6 ≤ 120; omega⟩) hD hS hA (fun E ce q9 u9 H locs hc hP hD hS e1 e2 e3 => False.elim (hc.1.2 (h_gob hgb))) (fun r9 u9 H locs hr9 hP hD hS => ?_)
        obtain ⟨⟨-, hr9⟩, hC⟩ := hr9
        obtain ⟨L, S⟩ := u9
        have hP : va_P D vwCl ([gO h0 lo (nI n) 1] ++ va_pl L (gE S)) H := hP
        have hD : va_D (va_A ([gO h0 lo (nI n) 1] ++ va_pl L0 (gE S0)) s.heap.size) ([gO h0 lo (nI n) 1] ++ va_pl L (gE S)) := hD
        have hr9 : r9 = nI (gbg Q (nI gb) 5000) := hr9
        subst hr9
        refine lv_aload_n hx hb dL_isThereAndBack_90 rfl (lv_at hl 5 rfl) ?_
        refine g_calli (va_runV (As := []) (rest := [.int (nI (gbg Q (nI gb) 5000))]) ⟨hx, hb, hml, hown, hts⟩ (c_rangesP l D tys [gO h0 lo (nI n) 1] L S H.size (i := 0) rfl hC (h_0 hqe)) (cwV 0 hts gL_isThereAndBack_X1_ranges rfl rfl rfl (by decide +kernel) ⟨Nat.le_of_ble_eq_true rfl, Nat.le_of_ble_eq_true rfl⟩) (gP_V (va_recv hK hP (ci := 1) rfl (g_inX (X := [gO h0 lo (nI n) 1]) (i := 0) rfl)) hP hK hD gBl_N (fun U _ hW => hGG.1.warm hW)) rfl rfl hl.1 rfl (lv_room (Nat.le_of_ble_eq_true rfl)) dL_isThereAndBack_91 ⟨by show (0 + 1 + 0 + 0 + 0 + 1 + 0 + 4) + 1 + 0 + 1 + 0 ≤ 20; omega, by show (0 + 6 + 0 + 0 + 0 + 6 + 0 + 20) + 6 + 0 + 6 + 0 ≤ 120; omega⟩) hD hS hA (fun r9 u9 H locs hr9 hP hD hS => ?_)
        have hP : va_P D vwCl ([gO h0 lo (nI n) 1] ++ va_pl L (gE S)) H := hP
        have hD : va_D (va_A ([gO h0 lo (nI n) 1] ++ va_pl L0 (gE S0)) s.heap.size) ([gO h0 lo (nI n) 1] ++ va_pl L (gE S)) := hD
        have hr9 : r9 = nI (gbg Q 8 5000) := hr9
        subst hr9
        refine lv_iadd hx hb dL_isThereAndBack_94 ?_
        refine g_top (y := nI ((gbg Q (nI gb) 5000) + (gbg Q 8 5000))) (nI_add _ _) ?_
        refine lv_iload hx hb dL_isThereAndBack_95 (lv_at hl 3 rfl) ?_
        refine lv_icmp_lt (tgt := 121) hx hb dL_isThereAndBack_97 (by decide) (fun c9 => absurd c9 (z_nlt (by omega) (by omega))) (fun _ => ?_)
        refine lv_aload_n hx hb dL_isThereAndBack_100 rfl (lv_at hl 5 rfl) ?_
        refine lv_iload_n hx hb dL_isThereAndBack_101 rfl (lv_at hl 6 rfl) ?_
        refine g_xcalli (vx_runV (As := [.int (nI gb)]) (rest := []) ⟨hx, hb, hml, hown, hts⟩ (c_rangesOf l hl9 D tys [gO h0 lo (nI n) 1] L S H.size (i := 0) rfl hC (nI gb) (h_0 hqe)) (cwV 1 hts gL_isThereAndBack_X1_rangesOf rfl rfl rfl (by decide +kernel) ⟨Nat.le_of_ble_eq_true rfl, Nat.le_of_ble_eq_true rfl⟩) (gP_V (va_recv hK hP (ci := 1) rfl (g_inX (X := [gO h0 lo (nI n) 1]) (i := 0) rfl)) hP hK hD gBl_G (fun U hU hW => gG.call hGG hS (gA_sub hD hS hA) U hU hW)) rfl rfl hl.1 rfl (lv_room (Nat.le_of_ble_eq_true rfl)) dL_isThereAndBack_102 ⟨by show (0 + 1 + 0 + 0 + 0 + 1 + 0 + 4) + 1 + 0 + 1 + 0 + 1 ≤ 20; omega, by show (0 + 6 + 0 + 0 + 0 + 6 + 0 + 20) + 6 + 0 + 6 + 0 + 6 ≤ 120; omega⟩) hD hS hA (fun E ce q9 u9 H locs hc hP hD hS e1 e2 e3 => False.elim (hc.1.2 (h_gob hgb))) (fun r9 u9 H locs hr9 hP hD hS => ?_)
        obtain ⟨⟨-, hr9⟩, hC⟩ := hr9
        obtain ⟨L, S⟩ := u9
        have hP : va_P D vwCl ([gO h0 lo (nI n) 1] ++ va_pl L (gE S)) H := hP
        have hD : va_D (va_A ([gO h0 lo (nI n) 1] ++ va_pl L0 (gE S0)) s.heap.size) ([gO h0 lo (nI n) 1] ++ va_pl L (gE S)) := hD
        have hr9 : r9 = nI (gbg Q (nI gb) 5000) := hr9
        subst hr9
        refine lv_aload_n hx hb dL_isThereAndBack_105 rfl (lv_at hl 5 rfl) ?_
        refine g_calli (va_runV (As := []) (rest := [.int (nI (gbg Q (nI gb) 5000))]) ⟨hx, hb, hml, hown, hts⟩ (c_rangesP l D tys [gO h0 lo (nI n) 1] L S H.size (i := 0) rfl hC (h_0 hqe)) (cwV 0 hts gL_isThereAndBack_X1_ranges rfl rfl rfl (by decide +kernel) ⟨Nat.le_of_ble_eq_true rfl, Nat.le_of_ble_eq_true rfl⟩) (gP_V (va_recv hK hP (ci := 1) rfl (g_inX (X := [gO h0 lo (nI n) 1]) (i := 0) rfl)) hP hK hD gBl_N (fun U _ hW => hGG.1.warm hW)) rfl rfl hl.1 rfl (lv_room (Nat.le_of_ble_eq_true rfl)) dL_isThereAndBack_106 ⟨by show (0 + 1 + 0 + 0 + 0 + 1 + 0 + 4) + 1 + 0 + 1 + 0 + 1 + 0 ≤ 20; omega, by show (0 + 6 + 0 + 0 + 0 + 6 + 0 + 20) + 6 + 0 + 6 + 0 + 6 + 0 ≤ 120; omega⟩) hD hS hA (fun r9 u9 H locs hr9 hP hD hS => ?_)
        have hP : va_P D vwCl ([gO h0 lo (nI n) 1] ++ va_pl L (gE S)) H := hP
        have hD : va_D (va_A ([gO h0 lo (nI n) 1] ++ va_pl L0 (gE S0)) s.heap.size) ([gO h0 lo (nI n) 1] ++ va_pl L (gE S)) := hD
        have hr9 : r9 = nI (gbg Q 8 5000) := hr9
        subst hr9
        refine lv_iadd hx hb dL_isThereAndBack_109 ?_
        refine g_top (y := nI ((gbg Q (nI gb) 5000) + (gbg Q 8 5000))) (nI_add _ _) ?_
        refine lv_iload hx hb dL_isThereAndBack_110 (lv_at hl 3 rfl) ?_
        refine lv_iconst (v := nI 1) hx hb dL_isThereAndBack_112 (by decide) ?_
        refine lv_iadd hx hb dL_isThereAndBack_113 ?_
        refine g_top (y := nI ((gbg P 8 5000) + 1)) (nI_add _ _) ?_
        refine lv_icmp_gt (tgt := 121) hx hb dL_isThereAndBack_114 (by decide) (fun c9 => absurd c9 (z_nlt (by omega) (by omega))) (fun _ => ?_)
        refine lv_iconst (v := nI 1) hx hb dL_isThereAndBack_117 (by decide) ?_
        refine lv_goto (tgt := 122) hx hb dL_isThereAndBack_118 (by decide) ?_
        refine lv_istore (lv' := [(8, .int (nI 1)), (7, .int (nI (min cn (gct P 8 5000)))), (6, .int lv), (5, .int (nI fa)), (4, .int (nI (gbg P 8 5000))), (3, .int (nI (gct P 8 5000))), (0, .ref h0), (1, .int (nI gb)), (2, .int (nI cn))]) hx hb dL_isThereAndBack_122 hl (by decide) rfl (fun ls hl => ?_)
        refine lv_iload hx hb dL_isThereAndBack_124 (lv_at hl 0 rfl) ?_
        refine lv_if_eq (tgt := 179) hx hb dL_isThereAndBack_126 (by decide) (fun c9 => absurd c9 (by decide)) (fun _ => ?_)
        obtain ⟨P3, hP3⟩ : ∃ q, q = gmv Q (nI gb) 8 0 5000 := ⟨_, rfl⟩
        refine lv_aload_n hx hb dL_isThereAndBack_129 rfl (lv_at hl 6 rfl) ?_
        refine lv_iload_n hx hb dL_isThereAndBack_130 rfl (lv_at hl 7 rfl) ?_
        refine g_xcalli (vx_runV (As := [.int (nI gb)]) (rest := []) ⟨hx, hb, hml, hown, hts⟩ (c_pourBack l hl9 D tys [gO h0 lo (nI n) 1] L S H.size (i := 0) rfl hC (nI gb)) (cwV 1 hts gL_isThereAndBack_X1_pourBack rfl rfl rfl (by decide +kernel) ⟨Nat.le_of_ble_eq_true rfl, Nat.le_of_ble_eq_true rfl⟩) (gP_V (va_recv hK hP (ci := 1) rfl (g_inX (X := [gO h0 lo (nI n) 1]) (i := 0) rfl)) hP hK hD gBl_G (fun U hU hW => gG.call hGG hS (gA_sub hD hS hA) U hU hW)) rfl rfl hl.1 rfl (lv_room (Nat.le_of_ble_eq_true rfl)) dL_isThereAndBack_131 ⟨by show (0 + 1 + 0 + 0 + 0 + 1 + 0 + 4) + 1 + 0 + 1 + 0 + 1 + 0 + 3 ≤ 20; omega, by show (0 + 6 + 0 + 0 + 0 + 6 + 0 + 20) + 6 + 0 + 6 + 0 + 6 + 0 + 14 ≤ 120; omega⟩) hD hS hA (fun E ce q9 u9 H locs hc hP hD hS e1 e2 e3 => False.elim (hc.1.2 (h_gob hgb))) (fun r9 u9 H locs hr9 hP hD hS => ?_)
        obtain ⟨⟨-, hr9⟩, hC⟩ := hr9
        obtain ⟨L, S⟩ := u9
        have hP : va_P D vwCl ([gO h0 lo (nI n) 1] ++ va_pl L (gE S)) H := hP
        have hD : va_D (va_A ([gO h0 lo (nI n) 1] ++ va_pl L0 (gE S0)) s.heap.size) ([gO h0 lo (nI n) 1] ++ va_pl L (gE S)) := hD
        have hr9 : r9 = nI (gct Q (nI gb) 5000) := hr9
        subst hr9
        rw [show gmv Q (nI gb) 8 0 5000 = P3 from hP3.symm] at hC
        rw [hP3, hback] at hC
        refine lv_iload hx hb dL_isThereAndBack_134 (lv_at hl 1 rfl) ?_
        refine lv_icmp_ne (tgt := 179) hx hb dL_isThereAndBack_136 (by decide) (fun c9 => absurd (z_eq (by omega)) c9) (fun _ => ?_)
        refine lv_aload_n hx hb dL_isThereAndBack_139 rfl (lv_at hl 6 rfl) ?_
        refine g_calli (va_runV (As := []) (rest := []) ⟨hx, hb, hml, hown, hts⟩ (c_inJug l D tys [gO h0 lo (nI n) 1] L S H.size (i := 0) rfl hC) (cwV 0 hts gL_isThereAndBack_X1_inJug rfl rfl rfl (by decide +kernel) ⟨Nat.le_of_ble_eq_true rfl, Nat.le_of_ble_eq_true rfl⟩) (gP_V (va_recv hK hP (ci := 1) rfl (g_inX (X := [gO h0 lo (nI n) 1]) (i := 0) rfl)) hP hK hD gBl_N (fun U _ hW => hGG.1.warm hW)) rfl rfl hl.1 rfl (lv_room (Nat.le_of_ble_eq_true rfl)) dL_isThereAndBack_140 ⟨by show (0 + 1 + 0 + 0 + 0 + 1 + 0 + 4) + 1 + 0 + 1 + 0 + 1 + 0 + 3 + 0 ≤ 20; omega, by show (0 + 6 + 0 + 0 + 0 + 6 + 0 + 20) + 6 + 0 + 6 + 0 + 6 + 0 + 14 + 0 ≤ 120; omega⟩) hD hS hA (fun r9 u9 H locs hr9 hP hD hS => ?_)
        have hP : va_P D vwCl ([gO h0 lo (nI n) 1] ++ va_pl L (gE S)) H := hP
        have hD : va_D (va_A ([gO h0 lo (nI n) 1] ++ va_pl L0 (gE S0)) s.heap.size) ([gO h0 lo (nI n) 1] ++ va_pl L (gE S)) := hD
        have hr9 : r9 = nI (gct P 8 5000) := hr9
        subst hr9
        refine lv_iload_n hx hb dL_isThereAndBack_143 rfl (lv_at hl 5 rfl) ?_
        refine lv_icmp_ne (tgt := 179) hx hb dL_isThereAndBack_144 (by decide) (fun c9 => absurd (rfl) c9) (fun _ => ?_)
        refine lv_aload_n hx hb dL_isThereAndBack_147 rfl (lv_at hl 6 rfl) ?_
        refine g_calli (va_runV (As := []) (rest := []) ⟨hx, hb, hml, hown, hts⟩ (c_rangesP l D tys [gO h0 lo (nI n) 1] L S H.size (i := 0) rfl hC (h_0 hev)) (cwV 0 hts gL_isThereAndBack_X1_ranges rfl rfl rfl (by decide +kernel) ⟨Nat.le_of_ble_eq_true rfl, Nat.le_of_ble_eq_true rfl⟩) (gP_V (va_recv hK hP (ci := 1) rfl (g_inX (X := [gO h0 lo (nI n) 1]) (i := 0) rfl)) hP hK hD gBl_N (fun U _ hW => hGG.1.warm hW)) rfl rfl hl.1 rfl (lv_room (Nat.le_of_ble_eq_true rfl)) dL_isThereAndBack_148 ⟨by show (0 + 1 + 0 + 0 + 0 + 1 + 0 + 4) + 1 + 0 + 1 + 0 + 1 + 0 + 3 + 0 + 0 ≤ 20; omega, by show (0 + 6 + 0 + 0 + 0 + 6 + 0 + 20) + 6 + 0 + 6 + 0 + 6 + 0 + 14 + 0 + 0 ≤ 120; omega⟩) hD hS hA (fun r9 u9 H locs hr9 hP hD hS => ?_)
        have hP : va_P D vwCl ([gO h0 lo (nI n) 1] ++ va_pl L (gE S)) H := hP
        have hD : va_D (va_A ([gO h0 lo (nI n) 1] ++ va_pl L0 (gE S0)) s.heap.size) ([gO h0 lo (nI n) 1] ++ va_pl L (gE S)) := hD
        have hr9 : r9 = nI (gbg P 8 5000) := hr9
        subst hr9
        refine lv_iload hx hb dL_isThereAndBack_151 (lv_at hl 4 rfl) ?_
        refine lv_icmp_ne (tgt := 179) hx hb dL_isThereAndBack_153 (by decide) (fun c9 => absurd (rfl) c9) (fun _ => ?_)
        refine lv_aload_n hx hb dL_isThereAndBack_156 rfl (lv_at hl 6 rfl) ?_
        refine lv_iconst (v := nI 0) hx hb dL_isThereAndBack_157 (by decide) ?_
        refine g_xcalli (vx_runV (As := [.int (nI 0)]) (rest := []) ⟨hx, hb, hml, hown, hts⟩ (c_rangeFrom l hl9 D tys [gO h0 lo (nI n) 1] L S H.size (i := 0) rfl hC (nI 0) (h_0 hev) (h_51 hev)) (cwV 1 hts gL_isThereAndBack_X1_rangeFrom rfl rfl rfl (by decide +kernel) ⟨Nat.le_of_ble_eq_true rfl, Nat.le_of_ble_eq_true rfl⟩) (gP_V (va_recv hK hP (ci := 1) rfl (g_inX (X := [gO h0 lo (nI n) 1]) (i := 0) rfl)) hP hK hD gBl_G (fun U hU hW => gG.call hGG hS (gA_sub hD hS hA) U hU hW)) rfl rfl hl.1 rfl (lv_room (Nat.le_of_ble_eq_true rfl)) dL_isThereAndBack_158 ⟨by show (0 + 1 + 0 + 0 + 0 + 1 + 0 + 4) + 1 + 0 + 1 + 0 + 1 + 0 + 3 + 0 + 0 + 1 ≤ 20; omega, by show (0 + 6 + 0 + 0 + 0 + 6 + 0 + 20) + 6 + 0 + 6 + 0 + 6 + 0 + 14 + 0 + 0 + 6 ≤ 120; omega⟩) hD hS hA (fun E ce q9 u9 H locs hc hP hD hS e1 e2 e3 => False.elim (rg_ok hrg hc.1.2)) (fun r9 u9 H locs hr9 hP hD hS => ?_)
        obtain ⟨hr9, hC⟩ := hr9
        obtain ⟨L, S⟩ := u9
        have hP : va_P D vwCl ([gO h0 lo (nI n) 1] ++ va_pl L (gE S)) H := hP
        have hD : va_D (va_A ([gO h0 lo (nI n) 1] ++ va_pl L0 (gE S0)) s.heap.size) ([gO h0 lo (nI n) 1] ++ va_pl L (gE S)) := hD
        have hr9 : r9 = nI fa := rg_from (by omega) hrg hr9
        subst hr9
        refine lv_iload hx hb dL_isThereAndBack_161 (lv_at hl 3 rfl) ?_
        refine lv_icmp_ne (tgt := 179) hx hb dL_isThereAndBack_163 (by decide) (fun c9 => absurd (rfl) c9) (fun _ => ?_)
        refine lv_aload_n hx hb dL_isThereAndBack_166 rfl (lv_at hl 6 rfl) ?_
        obtain ⟨g9, hch9, hwf9, hmx9⟩ := id hC
        refine g_calli (va_runV (As := []) (rest := []) ⟨hx, hb, hml, hown, hts⟩ (c_longest l D tys [gO h0 lo (nI n) 1] L S H.size (i := 0) rfl hwf9 hmx9 hch9 (h_0 hev)) (cwV 0 hts gL_isThereAndBack_X1_longestRange rfl rfl rfl (by decide +kernel) ⟨Nat.le_of_ble_eq_true rfl, Nat.le_of_ble_eq_true rfl⟩) (gP_V (va_recv hK hP (ci := 1) rfl (g_inX (X := [gO h0 lo (nI n) 1]) (i := 0) rfl)) hP hK hD gBl_N (fun U _ hW => hGG.1.warm hW)) rfl rfl hl.1 rfl (lv_room (Nat.le_of_ble_eq_true rfl)) dL_isThereAndBack_167 ⟨by show (0 + 1 + 0 + 0 + 0 + 1 + 0 + 4) + 1 + 0 + 1 + 0 + 1 + 0 + 3 + 0 + 0 + 1 + 0 ≤ 20; omega, by show (0 + 6 + 0 + 0 + 0 + 6 + 0 + 20) + 6 + 0 + 6 + 0 + 6 + 0 + 14 + 0 + 0 + 6 + 0 ≤ 120; omega⟩) hD hS hA (fun r9 u9 H locs hr9 hP hD hS => ?_)
        have hP : va_P D vwCl ([gO h0 lo (nI n) 1] ++ va_pl L (gE S)) H := hP
        have hD : va_D (va_A ([gO h0 lo (nI n) 1] ++ va_pl L0 (gE S0)) s.heap.size) ([gO h0 lo (nI n) 1] ++ va_pl L (gE S)) := hD
        have hr9 : r9 = nI (glg P 5000).1 - 1 := hr9
        subst hr9
        refine g_top (y := lv) (hlv.symm) ?_
        refine lv_iload hx hb dL_isThereAndBack_170 (lv_at hl 2 rfl) ?_
        refine lv_icmp_ne (tgt := 179) hx hb dL_isThereAndBack_172 (by decide) (fun c9 => absurd (rfl) c9) (fun _ => ?_)
        refine lv_iconst (v := nI 1) hx hb dL_isThereAndBack_175 (by decide) ?_
        refine lv_goto (tgt := 180) hx hb dL_isThereAndBack_176 (by decide) ?_
        exact g_retz (wo := fun u : List Nat × gS => [gO h0 lo (nI n) 1] ++ va_pl u.1 (gE u.2)) hx hb hr hlocks hK (nI 1) rfl (L, S) hP hD hS (by omega) (by omega) ⟨rfl, hC⟩ dL_isThereAndBack_180
      refine lv_iload hx hb dL_isThereAndBack_49 (lv_at hl 0 rfl) ?_
      refine lv_iload_n hx hb dL_isThereAndBack_51 rfl (lv_at hl 7 rfl) ?_
      refine lv_iload_n hx hb dL_isThereAndBack_52 rfl (lv_at hl 4 rfl) ?_
      refine lv_icmp_ge (tgt := 60) hx hb dL_isThereAndBack_53 (by decide) (fun hcn => ?_) (fun hcn => ?_)
      · have hcn2 := (nI_leI (by omega) (by omega)).mp hcn
        refine lv_iload_n hx hb dL_isThereAndBack_60 rfl (lv_at hl 4 rfl) ?_
        refine lv_icmp_ne (tgt := 121) hx hb dL_isThereAndBack_61 (by decide) (fun c9 => absurd (z_eq (by omega)) c9) (fun _ => ?_)
        exact hj64 L S H locs ls hC hP hD hS (lv_sub hl [0, 1, 2, 3, 4, 5, 6, 7] rfl)
      · have hcn2 : ¬ gct P 8 5000 ≤ cn := fun z => hcn (nI_le z (by omega))
        refine lv_iload_n hx hb dL_isThereAndBack_56 rfl (lv_at hl 7 rfl) ?_
        refine lv_goto (tgt := 61) hx hb dL_isThereAndBack_57 (by decide) ?_
        refine lv_icmp_ne (tgt := 121) hx hb dL_isThereAndBack_61 (by decide) (fun c9 => absurd (z_eq (by omega)) c9) (fun _ => ?_)
        exact hj64 L S H locs ls hC hP hD hS (lv_sub hl [0, 1, 2, 3, 4, 5, 6, 7] rfl)
  · skip
    refine lv_if_gt (tgt := 15) hx hb dL_isThereAndBack_5 (by decide) (fun _ => ?_) (fun c9 => absurd ((z_lt (by omega) (by omega) : nI 0 < nI (gct P (nI gb) 5000))) c9)
    refine lv_iconst (v := nI 1) hx hb dL_isThereAndBack_15 (by decide) ?_
    exact g_retz (wo := fun u : List Nat × gS => [gO h0 lo (nI n) 1] ++ va_pl u.1 (gE u.2)) hx hb hr hlocks hK (nI 1) rfl (L, S) hP hD hS (by omega) (by omega) ⟨rfl, hC⟩ dL_isThereAndBack_16
