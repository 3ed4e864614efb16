/-! p25: isPassedRound -/
set_option maxHeartbeats 4000000 in
set_option maxRecDepth 100000 in
/-- isPassedRound: goblets that share and share back have as many -/
theorem w_isPassedRound (l : Launch) (hl9 : l.stackTraces = false) (D : va_G) (tys : List (ClassId × FieldType)) (L0 : List Nat) (S0 : gS) (sz : Nat) {P : Nat → Int32} {n h0 lo : Nat} (hC : gCh P lo (L0, S0)) (hI : gInv P n) {fa ta cn : Nat} (hfa : fa < 8) (hta : ta < 8) (hft : fa ≠ ta) (hc1 : 1 ≤ cn) (hc2 : cn ≤ 20) : Met l yL_isPassedRound wsL_isPassedRound ({ frames := 8, cells := 20, slots := 100, locals := 200 } : Room) (gP D tys [.ref h0, .int (nI fa), .int (nI ta), .int (nI cn)] ([gO h0 lo (nI n) 1] ++ va_pl L0 (gE S0)) sz (gG (va_A ([gO h0 lo (nI n) 1] ++ va_pl L0 (gE S0)) sz))) (va_Qi (fun (r : Int32) (u : List Nat × gS) => r = nI 1 ∧ ∃ P2 : Nat → Int32, gInv P2 n ∧ gCh P2 lo u) (fun u t => gWd D tys (va_A ([gO h0 lo (nI n) 1] ++ va_pl L0 (gE S0)) sz) ([gO h0 lo (nI n) 1] ++ va_pl u.1 (gE u.2)) t) (va_A ([gO h0 lo (nI n) 1] ++ va_pl L0 (gE S0)) sz)) 20 100 (va_A ([gO h0 lo (nI n) 1] ++ va_pl L0 (gE S0)) sz) := by
  refine g_ofW (cc := cL_isPassedRound) (maxL := 9) (ret := some .boolean) (by decide) rfl (Nat.le_of_ble_eq_true rfl) ?_
  intro p e s m below meth c hx hb hr hml hts hown hlocks hin hsz hP hK hD hA hS hGG ls hl
  subst hsz
  have hown : s.vm.findClass RL = some m.cls := hown
  have hev := hI.1
  have hn1 := hI.1.1
  have hn2 := hI.2.1
  have hl : lv_has ls 9 [(0, .ref h0), (1, .int (nI fa)), (2, .int (nI ta)), (3, .int (nI cn))] := hl
  have hne : ¬ nI fa = nI ta := h_ne (by omega) (by omega) hft
  have h8f : ¬ (8 : Int32) = nI fa := h_ne (a := 8) (by omega) (by omega) (by omega)
  have h8t : ¬ (8 : Int32) = nI ta := h_ne (a := 8) (by omega) (by omega) (by omega)
  have hf1 := h_few hev (k := fa) (by omega)
  have hf2 := h_few hev (k := ta) (by omega)
  have hf8 : gct P 8 5000 ≤ n := h_few hev (k := 8) (by omega)
  obtain ⟨Q, hQ⟩ : ∃ q, q = gmv P (nI fa) (nI ta) (gct P (nI fa) 5000 - cn) cn := ⟨_, rfl⟩
  have hQi : gInv Q n := by rw [hQ]; exact inv_mv (by omega) (by omega) hI
  have hqe := hQi.1
  have hmq := mv_ct (P := P) (st := gct P (nI fa) 5000 - cn) (cn := cn) hne 5000
  have hm8 : gct Q 8 5000 = gct P 8 5000 := by rw [hQ]; exact mv_ot h8f h8t
  rw [← hQ] at hmq
  have hfq1 := h_few hqe (k := fa) (by omega)
  have hfq2 := h_few hqe (k := ta) (by omega)
  refine lv_aload_n hx hb dL_isPassedRound_0 rfl (lv_at hl 0 rfl) ?_
  refine lv_iload_n hx hb dL_isPassedRound_1 rfl (lv_at hl 1 rfl) ?_
  refine g_xcalli (vx_runV (As := [.int (nI fa)]) (rest := []) ⟨hx, hb, hml, hown, hts⟩ (c_inGoblet l hl9 D tys [gO h0 lo (nI n) 1] L0 S0 s.heap.size (i := 0) rfl hC (nI fa)) (cwV 1 hts gL_isPassedRound_X1_inGoblet rfl rfl rfl (by decide +kernel) ⟨Nat.le_of_ble_eq_true rfl, Nat.le_of_ble_eq_true rfl⟩) (gP_V (va_recv hK hP (ci := 1) rfl (g_inX (X := [gO h0 lo (nI n) 1]) (i := 0) rfl)) hP hK hD gBl_G (fun U hU hW => gG.call hGG hS (gA_sub hD hS hA) U hU hW)) rfl rfl hl.1 rfl (lv_room (Nat.le_of_ble_eq_true rfl)) dL_isPassedRound_2 ⟨by show 0 + 1 ≤ 20; omega, by show 0 + 6 ≤ 100; omega⟩) hD hS hA (fun E ce q9 u9 H locs hc hP hD hS e1 e2 e3 => False.elim (hc.1.2 (h_gob hfa))) (fun r9 u9 H locs hr9 hP hD hS => ?_)
  obtain ⟨⟨-, hr9⟩, hC⟩ := hr9
  obtain ⟨L, S⟩ := u9
  have hP : va_P D vwCl ([gO h0 lo (nI n) 1] ++ va_pl L (gE S)) H := hP
  have hD : va_D (va_A ([gO h0 lo (nI n) 1] ++ va_pl L0 (gE S0)) s.heap.size) ([gO h0 lo (nI n) 1] ++ va_pl L (gE S)) := hD
  have hr9 : r9 = nI (gct P (nI fa) 5000) := hr9
  subst hr9
  refine lv_istore (lv' := [(4, .int (nI (gct P (nI fa) 5000))), (0, .ref h0), (1, .int (nI fa)), (2, .int (nI ta)), (3, .int (nI cn))]) hx hb dL_isPassedRound_5 hl (by decide) rfl (fun ls hl => ?_)
  refine lv_aload_n hx hb dL_isPassedRound_7 rfl (lv_at hl 1 rfl) ?_
  refine lv_iload_n hx hb dL_isPassedRound_8 rfl (lv_at hl 3 rfl) ?_
  refine g_xcalli (vx_runV (As := [.int (nI ta)]) (rest := []) ⟨hx, hb, hml, hown, hts⟩ (c_inGoblet l hl9 D tys [gO h0 lo (nI n) 1] L S H.size (i := 0) rfl hC (nI ta)) (cwV 1 hts gL_isPassedRound_X1_inGoblet rfl rfl rfl (by decide +kernel) ⟨Nat.le_of_ble_eq_true rfl, Nat.le_of_ble_eq_true rfl⟩) (gP_V (va_recv hK hP (ci := 1) rfl (g_inX (X := [gO h0 lo (nI n) 1]) (i := 0) rfl)) hP hK hD gBl_G (fun U hU hW => gG.call hGG hS (gA_sub hD hS hA) U hU hW)) rfl rfl hl.1 rfl (lv_room (Nat.le_of_ble_eq_true rfl)) dL_isPassedRound_9 ⟨by show 0 + 1 + 1 ≤ 20; omega, by show 0 + 6 + 6 ≤ 100; omega⟩) hD hS hA (fun E ce q9 u9 H locs hc hP hD hS e1 e2 e3 => False.elim (hc.1.2 (h_gob hta))) (fun r9 u9 H locs hr9 hP hD hS => ?_)
  obtain ⟨⟨-, hr9⟩, hC⟩ := hr9
  obtain ⟨L, S⟩ := u9
  have hP : va_P D vwCl ([gO h0 lo (nI n) 1] ++ va_pl L (gE S)) H := hP
  have hD : va_D (va_A ([gO h0 lo (nI n) 1] ++ va_pl L0 (gE S0)) s.heap.size) ([gO h0 lo (nI n) 1] ++ va_pl L (gE S)) := hD
  have hr9 : r9 = nI (gct P (nI ta) 5000) := hr9
  subst hr9
  refine lv_istore (lv' := [(5, .int (nI (gct P (nI ta) 5000))), (4, .int (nI (gct P (nI fa) 5000))), (0, .ref h0), (1, .int (nI fa)), (2, .int (nI ta)), (3, .int (nI cn))]) hx hb dL_isPassedRound_12 hl (by decide) rfl (fun ls hl => ?_)
  refine lv_aload_n hx hb dL_isPassedRound_14 rfl (lv_at hl 2 rfl) ?_
  refine g_calli (va_runV (As := []) (rest := []) ⟨hx, hb, hml, hown, hts⟩ (c_inJug l D tys [gO h0 lo (nI n) 1] L S H.size (i := 0) rfl hC) (cwV 0 hts gL_isPassedRound_X1_inJug rfl rfl rfl (by decide +kernel) ⟨Nat.le_of_ble_eq_true rfl, Nat.le_of_ble_eq_true rfl⟩) (gP_V (va_recv hK hP (ci := 1) rfl (g_inX (X := [gO h0 lo (nI n) 1]) (i := 0) rfl)) hP hK hD gBl_N (fun U _ hW => hGG.1.warm hW)) rfl rfl hl.1 rfl (lv_room (Nat.le_of_ble_eq_true rfl)) dL_isPassedRound_15 ⟨by show 0 + 1 + 1 + 0 ≤ 20; omega, by show 0 + 6 + 6 + 0 ≤ 100; omega⟩) hD hS hA (fun r9 u9 H locs hr9 hP hD hS => ?_)
  have hP : va_P D vwCl ([gO h0 lo (nI n) 1] ++ va_pl L (gE S)) H := hP
  have hD : va_D (va_A ([gO h0 lo (nI n) 1] ++ va_pl L0 (gE S0)) s.heap.size) ([gO h0 lo (nI n) 1] ++ va_pl L (gE S)) := hD
  have hr9 : r9 = nI (gct P 8 5000) := hr9
  subst hr9
  refine lv_istore (lv' := [(6, .int (nI (gct P 8 5000))), (5, .int (nI (gct P (nI ta) 5000))), (4, .int (nI (gct P (nI fa) 5000))), (0, .ref h0), (1, .int (nI fa)), (2, .int (nI ta)), (3, .int (nI cn))]) hx hb dL_isPassedRound_18 hl (by decide) rfl (fun ls hl => ?_)
  refine lv_aload_n hx hb dL_isPassedRound_20 rfl (lv_at hl 3 rfl) ?_
  refine lv_iload_n hx hb dL_isPassedRound_21 rfl (lv_at hl 4 rfl) ?_
  refine lv_iload_n hx hb dL_isPassedRound_22 rfl (lv_at hl 5 rfl) ?_
  refine lv_iload_n hx hb dL_isPassedRound_23 rfl (lv_at hl 6 rfl) ?_
  refine g_xcalli (vx_runV (As := [.int (nI fa), .int (nI ta), .int (nI cn)]) (rest := []) ⟨hx, hb, hml, hown, hts⟩ (c_share l hl9 D tys [gO h0 lo (nI n) 1] L S H.size (i := 0) rfl hC (nI fa) (nI ta) (nI cn)) (cwV 3 hts gL_isPassedRound_X1_share rfl rfl rfl (by decide +kernel) ⟨Nat.le_of_ble_eq_true rfl, Nat.le_of_ble_eq_true rfl⟩) (gP_V (va_recv hK hP (ci := 1) rfl (g_inX (X := [gO h0 lo (nI n) 1]) (i := 0) rfl)) hP hK hD gBl_G (fun U hU hW => gG.call hGG hS (gA_sub hD hS hA) U hU hW)) rfl rfl hl.1 rfl (lv_room (Nat.le_of_ble_eq_true rfl)) dL_isPassedRound_24 ⟨by show 0 + 1 + 1 + 0 + 5 ≤ 20; omega, by show 0 + 6 + 6 + 0 + 26 ≤ 100; omega⟩) hD hS hA (fun E ce q9 u9 H locs hc hP hD hS e1 e2 e3 => False.elim (xb_share (h_gob hfa) (h_gob hta) hne (h_cnt hc1 (by omega)) hc.1)) (fun r9 u9 H locs hr9 hP hD hS => ?_)
  obtain ⟨-, -, -, c8, c81, c82, c83, hr9, hC⟩ := hr9
  obtain ⟨L, S⟩ := u9
  have hP : va_P D vwCl ([gO h0 lo (nI n) 1] ++ va_pl L (gE S)) H := hP
  have hD : va_D (va_A ([gO h0 lo (nI n) 1] ++ va_pl L0 (gE S0)) s.heap.size) ([gO h0 lo (nI n) 1] ++ va_pl L (gE S)) := hD
  obtain rfl : cn = c8 := (nI_eq (by omega) (by omega)).mp c83
  have hr9 : r9 = nI (min cn (gct P (nI fa) 5000)) := hr9
  subst hr9
  rw [show gmv P (nI fa) (nI ta) (gct P (nI fa) 5000 - cn) cn = Q from hQ.symm] at hC
  refine lv_istore (lv' := [(7, .int (nI (min cn (gct P (nI fa) 5000)))), (6, .int (nI (gct P 8 5000))), (5, .int (nI (gct P (nI ta) 5000))), (4, .int (nI (gct P (nI fa) 5000))), (0, .ref h0), (1, .int (nI fa)), (2, .int (nI ta)), (3, .int (nI cn))]) hx hb dL_isPassedRound_27 hl (by decide) rfl (fun ls hl => ?_)
  have hj46 : ∀ (L : List Nat) (S : gS) (H : Heap) (locs : List Loc) (ls : Array Slot), gCh Q lo (L, S) → va_P D vwCl ([gO h0 lo (nI n) 1] ++ va_pl L (gE S)) H → va_D (va_A ([gO h0 lo (nI n) 1] ++ va_pl L0 (gE S0)) s.heap.size) ([gO h0 lo (nI n) 1] ++ va_pl L (gE S)) → va_S (va_A ([gO h0 lo (nI n) 1] ++ va_pl L0 (gE S0)) s.heap.size) s.heap H locs → lv_has ls 9 [(7, .int (nI (min cn (gct P (nI fa) 5000)))), (6, .int (nI (gct P 8 5000))), (5, .int (nI (gct P (nI ta) 5000))), (4, .int (nI (gct P (nI fa) 5000))), (0, .ref h0), (1, .int (nI fa)), (2, .int (nI ta)), (3, .int (nI cn))] → W p l e ({ frames := 8, cells := 20, slots := 100, locals := 200 } : Room) s m ([.ref h0, .int (nI fa), .int (nI ta), .int (nI cn)] : List Value).toArray below meth c H locs 7 38 (MQ below (va_Qi (fun (r : Int32) (u : List Nat × gS) => r = nI 1 ∧ ∃ P2 : Nat → Int32, gInv P2 n ∧ gCh P2 lo u) (fun u t => gWd D tys (va_A ([gO h0 lo (nI n) 1] ++ va_pl L0 (gE S0)) s.heap.size) ([gO h0 lo (nI n) 1] ++ va_pl u.1 (gE u.2)) t) (va_A ([gO h0 lo (nI n) 1] ++ va_pl L0 (gE S0)) s.heap.size)) ([.ref h0, .int (nI fa), .int (nI ta), .int (nI cn)] : List Value).toArray s 20 100 (va_A ([gO h0 lo (nI n) 1] ++ va_pl L0 (gE S0)) s.heap.size)) (F0 m 46 ls []) := by
    intro L S H locs ls hC hP hD hS hl
    obtain ⟨sh, hsh⟩ : ∃ x, x = min cn (gct P (nI fa) 5000) := ⟨_, rfl⟩
    rw [← hsh] at hl
    have hj122 : ∀ (Z : Nat → Int32) (L : List Nat) (S : gS) (H : Heap) (locs : List Loc) (ls : Array Slot), gInv Z n → gct Z 8 5000 = gct P 8 5000 → gCh Z lo (L, S) → va_P D vwCl ([gO h0 lo (nI n) 1] ++ va_pl L (gE S)) H → va_D (va_A ([gO h0 lo (nI n) 1] ++ va_pl L0 (gE S0)) s.heap.size) ([gO h0 lo (nI n) 1] ++ va_pl L (gE S)) → va_S (va_A ([gO h0 lo (nI n) 1] ++ va_pl L0 (gE S0)) s.heap.size) s.heap H locs → lv_has ls 9 [(0, .ref h0), (6, .int (nI (gct P 8 5000)))] → W p l e ({ frames := 8, cells := 20, slots := 100, locals := 200 } : Room) s m ([.ref h0, .int (nI fa), .int (nI ta), .int (nI cn)] : List Value).toArray below meth c H locs 16 88 (MQ below (va_Qi (fun (r : Int32) (u : List Nat × gS) => r = nI 1 ∧ ∃ P2 : Nat → Int32, gInv P2 n ∧ gCh P2 lo u) (fun u t => gWd D tys (va_A ([gO h0 lo (nI n) 1] ++ va_pl L0 (gE S0)) s.heap.size) ([gO h0 lo (nI n) 1] ++ va_pl u.1 (gE u.2)) t) (va_A ([gO h0 lo (nI n) 1] ++ va_pl L0 (gE S0)) s.heap.size)) ([.ref h0, .int (nI fa), .int (nI ta), .int (nI cn)] : List Value).toArray s 20 100 (va_A ([gO h0 lo (nI n) 1] ++ va_pl L0 (gE S0)) s.heap.size)) (F0 m 122 ls []) := by
      intro Z L S H locs ls hZ hz8 hC hP hD hS hl
      refine lv_aload_n hx hb dL_isPassedRound_122 rfl (lv_at hl 0 rfl) ?_
      refine g_calli (va_runV (As := []) (rest := []) ⟨hx, hb, hml, hown, hts⟩ (c_inJug l D tys [gO h0 lo (nI n) 1] L S H.size (i := 0) rfl hC) (cwV 0 hts gL_isPassedRound_X1_inJug rfl rfl rfl (by decide +kernel) ⟨Nat.le_of_ble_eq_true rfl, Nat.le_of_ble_eq_true rfl⟩) (gP_V (va_recv hK hP (ci := 1) rfl (g_inX (X := [gO h0 lo (nI n) 1]) (i := 0) rfl)) hP hK hD gBl_N (fun U _ hW => hGG.1.warm hW)) rfl rfl hl.1 rfl (lv_room (Nat.le_of_ble_eq_true rfl)) dL_isPassedRound_123 ⟨by show 16 + 0 ≤ 20; omega, by show 88 + 0 ≤ 100; omega⟩) hD hS hA (fun r9 u9 H locs hr9 hP hD hS => ?_)
      have hP : va_P D vwCl ([gO h0 lo (nI n) 1] ++ va_pl L (gE S)) H := hP
      have hD : va_D (va_A ([gO h0 lo (nI n) 1] ++ va_pl L0 (gE S0)) s.heap.size) ([gO h0 lo (nI n) 1] ++ va_pl L (gE S)) := hD
      have hr9 : r9 = nI (gct Z 8 5000) := hr9
      subst hr9
      refine lv_iload hx hb dL_isPassedRound_126 (lv_at hl 1 rfl) ?_
      refine lv_icmp_ne (tgt := 135) hx hb dL_isPassedRound_128 (by decide) (fun c9 => absurd (z_eq hz8) c9) (fun _ => ?_)
      refine lv_iconst (v := nI 1) hx hb dL_isPassedRound_131 (by decide) ?_
      refine lv_goto (tgt := 136) hx hb dL_isPassedRound_132 (by decide) ?_
      exact g_retz (wo := fun u : List Nat × gS => [gO h0 lo (nI n) 1] ++ va_pl u.1 (gE u.2)) hx hb hr hlocks hK (nI 1) rfl (L, S) hP hD hS (by omega) (by omega) ⟨rfl, Z, hZ, hC⟩ dL_isPassedRound_136
    refine lv_aload_n hx hb dL_isPassedRound_46 rfl (lv_at hl 4 rfl) ?_
    refine lv_iload_n hx hb dL_isPassedRound_47 rfl (lv_at hl 5 rfl) ?_
    refine g_xcalli (vx_runV (As := [.int (nI fa)]) (rest := []) ⟨hx, hb, hml, hown, hts⟩ (c_inGoblet l hl9 D tys [gO h0 lo (nI n) 1] L S H.size (i := 0) rfl hC (nI fa)) (cwV 1 hts gL_isPassedRound_X1_inGoblet rfl rfl rfl (by decide +kernel) ⟨Nat.le_of_ble_eq_true rfl, Nat.le_of_ble_eq_true rfl⟩) (gP_V (va_recv hK hP (ci := 1) rfl (g_inX (X := [gO h0 lo (nI n) 1]) (i := 0) rfl)) hP hK hD gBl_G (fun U hU hW => gG.call hGG hS (gA_sub hD hS hA) U hU hW)) rfl rfl hl.1 rfl (lv_room (Nat.le_of_ble_eq_true rfl)) dL_isPassedRound_48 ⟨by show 7 + 1 ≤ 20; omega, by show 38 + 6 ≤ 100; omega⟩) hD hS hA (fun E ce q9 u9 H locs hc hP hD hS e1 e2 e3 => False.elim (hc.1.2 (h_gob hfa))) (fun r9 u9 H locs hr9 hP hD hS => ?_)
    obtain ⟨⟨-, hr9⟩, hC⟩ := hr9
    obtain ⟨L, S⟩ := u9
    have hP : va_P D vwCl ([gO h0 lo (nI n) 1] ++ va_pl L (gE S)) H := hP
    have hD : va_D (va_A ([gO h0 lo (nI n) 1] ++ va_pl L0 (gE S0)) s.heap.size) ([gO h0 lo (nI n) 1] ++ va_pl L (gE S)) := hD
    have hr9 : r9 = nI (gct Q (nI fa) 5000) := hr9
    subst hr9
    refine lv_iload hx hb dL_isPassedRound_51 (lv_at hl 3 rfl) ?_
    refine lv_iload hx hb dL_isPassedRound_53 (lv_at hl 0 rfl) ?_
    refine lv_isub hx hb dL_isPassedRound_55 ?_
    refine g_top (y := nI ((gct P (nI fa) 5000) - sh)) (pk_sub (by omega)) ?_
    refine lv_icmp_ne (tgt := 76) hx hb dL_isPassedRound_56 (by decide) (fun c9 => absurd (z_eq (by omega)) c9) (fun _ => ?_)
    refine lv_aload_n hx hb dL_isPassedRound_59 rfl (lv_at hl 4 rfl) ?_
    refine lv_iload_n hx hb dL_isPassedRound_60 rfl (lv_at hl 6 rfl) ?_
    refine g_xcalli (vx_runV (As := [.int (nI ta)]) (rest := []) ⟨hx, hb, hml, hown, hts⟩ (c_inGoblet l hl9 D tys [gO h0 lo (nI n) 1] L S H.size (i := 0) rfl hC (nI ta)) (cwV 1 hts gL_isPassedRound_X1_inGoblet rfl rfl rfl (by decide +kernel) ⟨Nat.le_of_ble_eq_true rfl, Nat.le_of_ble_eq_true rfl⟩) (gP_V (va_recv hK hP (ci := 1) rfl (g_inX (X := [gO h0 lo (nI n) 1]) (i := 0) rfl)) hP hK hD gBl_G (fun U hU hW => gG.call hGG hS (gA_sub hD hS hA) U hU hW)) rfl rfl hl.1 rfl (lv_room (Nat.le_of_ble_eq_true rfl)) dL_isPassedRound_61 ⟨by show 7 + 1 + 1 ≤ 20; omega, by show 38 + 6 + 6 ≤ 100; omega⟩) hD hS hA (fun E ce q9 u9 H locs hc hP hD hS e1 e2 e3 => False.elim (hc.1.2 (h_gob hta))) (fun r9 u9 H locs hr9 hP hD hS => ?_)
    obtain ⟨⟨-, hr9⟩, hC⟩ := hr9
    obtain ⟨L, S⟩ := u9
    have hP : va_P D vwCl ([gO h0 lo (nI n) 1] ++ va_pl L (gE S)) H := hP
    have hD : va_D (va_A ([gO h0 lo (nI n) 1] ++ va_pl L0 (gE S0)) s.heap.size) ([gO h0 lo (nI n) 1] ++ va_pl L (gE S)) := hD
    have hr9 : r9 = nI (gct Q (nI ta) 5000) := hr9
    subst hr9
    refine lv_iload hx hb dL_isPassedRound_64 (lv_at hl 2 rfl) ?_
    refine lv_iload hx hb dL_isPassedRound_66 (lv_at hl 0 rfl) ?_
    refine lv_iadd hx hb dL_isPassedRound_68 ?_
    refine g_top (y := nI ((gct P (nI ta) 5000) + sh)) (nI_add _ _) ?_
    refine lv_icmp_ne (tgt := 76) hx hb dL_isPassedRound_69 (by decide) (fun c9 => absurd (z_eq (by omega)) c9) (fun _ => ?_)
    refine lv_iconst (v := nI 1) hx hb dL_isPassedRound_72 (by decide) ?_
    refine lv_goto (tgt := 77) hx hb dL_isPassedRound_73 (by decide) ?_
    refine lv_istore (lv' := [(8, .int (nI 1)), (7, .int (nI sh)), (6, .int (nI (gct P 8 5000))), (5, .int (nI (gct P (nI ta) 5000))), (4, .int (nI (gct P (nI fa) 5000))), (0, .ref h0), (1, .int (nI fa)), (2, .int (nI ta)), (3, .int (nI cn))]) hx hb dL_isPassedRound_77 hl (by decide) rfl (fun ls hl => ?_)
    refine lv_iload hx hb dL_isPassedRound_79 (lv_at hl 0 rfl) ?_
    refine lv_if_eq (tgt := 135) hx hb dL_isPassedRound_81 (by decide) (fun c9 => absurd c9 (by decide)) (fun _ => ?_)
    refine lv_iload hx hb dL_isPassedRound_84 (lv_at hl 1 rfl) ?_
    by_cases hs0 : sh = 0
    · skip
      refine lv_if_eq (tgt := 122) hx hb dL_isPassedRound_86 (by decide) (fun _ => ?_) (fun c9 => absurd (z_eq hs0) c9)
      refine W.widen (k := 16) (n := 88) (by omega) (by omega) ?_
      exact hj122 Q L S H locs ls hQi hm8 hC hP hD hS (lv_sub hl [5, 2] rfl)
    · obtain ⟨Z, hZ⟩ : ∃ q, q = gmv Q (nI ta) (nI fa) (gct Q (nI ta) 5000 - sh) sh := ⟨_, rfl⟩
      have hZi : gInv Z n := by rw [hZ]; exact inv_mv (by omega) (by omega) hQi
      have hze := hZi.1
      have hmz := mv_ct (P := Q) (st := gct Q (nI ta) 5000 - sh) (cn := sh) (fun z => hne z.symm) 5000
      have hz8 : gct Z 8 5000 = gct P 8 5000 := by rw [hZ]; exact (mv_ot h8t h8f).trans hm8
      rw [← hZ] at hmz
      refine lv_if_eq (tgt := 122) hx hb dL_isPassedRound_86 (by decide) (fun c9 => absurd c9 (z_ne (b := 0) (by omega) (by omega) hs0)) (fun _ => ?_)
      refine lv_aload_n hx hb dL_isPassedRound_89 rfl (lv_at hl 5 rfl) ?_
      refine lv_iload_n hx hb dL_isPassedRound_90 rfl (lv_at hl 7 rfl) ?_
      refine lv_iload_n hx hb dL_isPassedRound_91 rfl (lv_at hl 6 rfl) ?_
      refine lv_iload hx hb dL_isPassedRound_92 (lv_at hl 1 rfl) ?_
      refine g_xcalli (vx_runV (As := [.int (nI ta), .int (nI fa), .int (nI sh)]) (rest := []) ⟨hx, hb, hml, hown, hts⟩ (c_share l hl9 D tys [gO h0 lo (nI n) 1] L S H.size (i := 0) rfl hC (nI ta) (nI fa) (nI sh)) (cwV 3 hts gL_isPassedRound_X1_share rfl rfl rfl (by decide +kernel) ⟨Nat.le_of_ble_eq_true rfl, Nat.le_of_ble_eq_true rfl⟩) (gP_V (va_recv hK hP (ci := 1) rfl (g_inX (X := [gO h0 lo (nI n) 1]) (i := 0) rfl)) hP hK hD gBl_G (fun U hU hW => gG.call hGG hS (gA_sub hD hS hA) U hU hW)) rfl rfl hl.1 rfl (lv_room (Nat.le_of_ble_eq_true rfl)) dL_isPassedRound_94 ⟨by show 7 + 1 + 1 + 5 ≤ 20; omega, by show 38 + 6 + 6 + 26 ≤ 100; omega⟩) hD hS hA (fun E ce q9 u9 H locs hc hP hD hS e1 e2 e3 => False.elim (xb_share (h_gob hta) (h_gob hfa) (fun z => hne z.symm) (h_cnt (by omega) (by omega)) hc.1)) (fun r9 u9 H locs hr9 hP hD hS => ?_)
      obtain ⟨-, -, -, c8, c81, c82, c83, hr9, hC⟩ := hr9
      obtain ⟨L, S⟩ := u9
      have hP : va_P D vwCl ([gO h0 lo (nI n) 1] ++ va_pl L (gE S)) H := hP
      have hD : va_D (va_A ([gO h0 lo (nI n) 1] ++ va_pl L0 (gE S0)) s.heap.size) ([gO h0 lo (nI n) 1] ++ va_pl L (gE S)) := hD
      obtain rfl : sh = c8 := (nI_eq (by omega) (by omega)).mp c83
      have hr9 : r9 = nI (min sh (gct Q (nI ta) 5000)) := hr9
      subst hr9
      rw [show gmv Q (nI ta) (nI fa) (gct Q (nI ta) 5000 - sh) sh = Z from hZ.symm] at hC
      refine lv_iload hx hb dL_isPassedRound_97 (lv_at hl 1 rfl) ?_
      refine lv_icmp_ne (tgt := 135) hx hb dL_isPassedRound_99 (by decide) (fun c9 => absurd (z_eq (by omega)) c9) (fun _ => ?_)
      refine lv_aload_n hx hb dL_isPassedRound_102 rfl (lv_at hl 5 rfl) ?_
      refine lv_iload_n hx hb dL_isPassedRound_103 rfl (lv_at hl 6 rfl) ?_
      refine g_xcalli (vx_runV (As := [.int (nI fa)]) (rest := []) ⟨hx, hb, hml, hown, hts⟩ (c_inGoblet l hl9 D tys [gO h0 lo (nI n) 1] L S H.size (i := 0) rfl hC (nI fa)) (cwV 1 hts gL_isPassedRound_X1_inGoblet rfl rfl rfl (by decide +kernel) ⟨Nat.le_of_ble_eq_true rfl, Nat.le_of_ble_eq_true rfl⟩) (gP_V (va_recv hK hP (ci := 1) rfl (g_inX (X := [gO h0 lo (nI n) 1]) (i := 0) rfl)) hP hK hD gBl_G (fun U hU hW => gG.call hGG hS (gA_sub hD hS hA) U hU hW)) rfl rfl hl.1 rfl (lv_room (Nat.le_of_ble_eq_true rfl)) dL_isPassedRound_104 ⟨by show 7 + 1 + 1 + 5 + 1 ≤ 20; omega, by show 38 + 6 + 6 + 26 + 6 ≤ 100; omega⟩) hD hS hA (fun E ce q9 u9 H locs hc hP hD hS e1 e2 e3 => False.elim (hc.1.2 (h_gob hfa))) (fun r9 u9 H locs hr9 hP hD hS => ?_)
      obtain ⟨⟨-, hr9⟩, hC⟩ := hr9
      obtain ⟨L, S⟩ := u9
      have hP : va_P D vwCl ([gO h0 lo (nI n) 1] ++ va_pl L (gE S)) H := hP
      have hD : va_D (va_A ([gO h0 lo (nI n) 1] ++ va_pl L0 (gE S0)) s.heap.size) ([gO h0 lo (nI n) 1] ++ va_pl L (gE S)) := hD
      have hr9 : r9 = nI (gct Z (nI fa) 5000) := hr9
      subst hr9
      refine lv_iload hx hb dL_isPassedRound_107 (lv_at hl 4 rfl) ?_
      refine lv_icmp_ne (tgt := 135) hx hb dL_isPassedRound_109 (by decide) (fun c9 => absurd (z_eq (by omega)) c9) (fun _ => ?_)
      refine lv_aload_n hx hb dL_isPassedRound_112 rfl (lv_at hl 5 rfl) ?_
      refine lv_iload_n hx hb dL_isPassedRound_113 rfl (lv_at hl 7 rfl) ?_
      refine g_xcalli (vx_runV (As := [.int (nI ta)]) (rest := []) ⟨hx, hb, hml, hown, hts⟩ (c_inGoblet l hl9 D tys [gO h0 lo (nI n) 1] L S H.size (i := 0) rfl hC (nI ta)) (cwV 1 hts gL_isPassedRound_X1_inGoblet rfl rfl rfl (by decide +kernel) ⟨Nat.le_of_ble_eq_true rfl, Nat.le_of_ble_eq_true rfl⟩) (gP_V (va_recv hK hP (ci := 1) rfl (g_inX (X := [gO h0 lo (nI n) 1]) (i := 0) rfl)) hP hK hD gBl_G (fun U hU hW => gG.call hGG hS (gA_sub hD hS hA) U hU hW)) rfl rfl hl.1 rfl (lv_room (Nat.le_of_ble_eq_true rfl)) dL_isPassedRound_114 ⟨by show 7 + 1 + 1 + 5 + 1 + 1 ≤ 20; omega, by show 38 + 6 + 6 + 26 + 6 + 6 ≤ 100; omega⟩) hD hS hA (fun E ce q9 u9 H locs hc hP hD hS e1 e2 e3 => False.elim (hc.1.2 (h_gob hta))) (fun r9 u9 H locs hr9 hP hD hS => ?_)
      obtain ⟨⟨-, hr9⟩, hC⟩ := hr9
      obtain ⟨L, S⟩ := u9
      have hP : va_P D vwCl ([gO h0 lo (nI n) 1] ++ va_pl L (gE S)) H := hP
      have hD : va_D (va_A ([gO h0 lo (nI n) 1] ++ va_pl L0 (gE S0)) s.heap.size) ([gO h0 lo (nI n) 1] ++ va_pl L (gE S)) := hD
      have hr9 : r9 = nI (gct Z (nI ta) 5000) := hr9
      subst hr9
      refine lv_iload hx hb dL_isPassedRound_117 (lv_at hl 3 rfl) ?_
      refine lv_icmp_ne (tgt := 135) hx hb dL_isPassedRound_119 (by decide) (fun c9 => absurd (z_eq (by omega)) c9) (fun _ => ?_)
      refine W.widen (k := 16) (n := 88) (by omega) (by omega) ?_
      exact hj122 Z L S H locs ls hZi hz8 hC hP hD hS (lv_sub hl [5, 2] rfl)
  refine lv_iload hx hb dL_isPassedRound_29 (lv_at hl 0 rfl) ?_
  refine lv_iload hx hb dL_isPassedRound_31 (lv_at hl 3 rfl) ?_
  refine lv_iload_n hx hb dL_isPassedRound_33 rfl (lv_at hl 7 rfl) ?_
  refine lv_icmp_ge (tgt := 42) hx hb dL_isPassedRound_34 (by decide) (fun hcn => ?_) (fun hcn => ?_)
  · have hcn2 := (nI_leI (by omega) (by omega)).mp hcn
    refine lv_iload_n hx hb dL_isPassedRound_42 rfl (lv_at hl 7 rfl) ?_
    refine lv_icmp_ne (tgt := 76) hx hb dL_isPassedRound_43 (by decide) (fun c9 => absurd (z_eq (by omega)) c9) (fun _ => ?_)
    refine W.widen (k := 7) (n := 38) (by omega) (by omega) ?_
    exact hj46 L S H locs ls hC hP hD hS (lv_sub hl [0, 1, 2, 3, 4, 5, 6, 7] rfl)
  · have hcn2 : ¬ cn ≤ gct P (nI fa) 5000 := fun z => hcn (nI_le z (by omega))
    refine lv_iload hx hb dL_isPassedRound_37 (lv_at hl 3 rfl) ?_
    refine lv_goto (tgt := 43) hx hb dL_isPassedRound_39 (by decide) ?_
    refine lv_icmp_ne (tgt := 76) hx hb dL_isPassedRound_43 (by decide) (fun c9 => absurd (z_eq (by omega)) c9) (fun _ => ?_)
    refine W.widen (k := 7) (n := 38) (by omega) (by omega) ?_
    exact hj46 L S H locs ls hC hP hD hS (lv_sub hl [0, 1, 2, 3, 4, 5, 6, 7] rfl)
