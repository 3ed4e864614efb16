/-! p25: isAllSomewhere -/
set_option maxHeartbeats 4000000 in
set_option maxRecDepth 100000 in
/-- isAllSomewhere: every number is at one place -/
theorem w_isAllSomewhere (l : Launch) (hl9 : l.stackTraces = false) (D : va_G) (tys : List (ClassId × FieldType)) (L0 : List Nat) (S0 : gS) (sz : Nat) {P : Nat → Int32} {n h0 lo : Nat} (hC : gCh P lo (L0, S0)) (hI : gInv P n)  : Met l yL_isAllSomewhere wsL_isAllSomewhere ({ frames := 9, cells := 60, slots := 340, locals := 200 } : Room) (gP D tys [.ref h0] ([gO h0 lo (nI n) 1] ++ va_pl L0 (gE S0)) sz (gG (va_A ([gO h0 lo (nI n) 1] ++ va_pl L0 (gE S0)) sz))) (va_Qi (fun (r : Int32) (u : List Nat × gS) => r = nI 1 ∧ gCh P lo u) (fun u t => gWd D tys (va_A ([gO h0 lo (nI n) 1] ++ va_pl L0 (gE S0)) sz) ([gO h0 lo (nI n) 1] ++ va_pl u.1 (gE u.2)) t) (va_A ([gO h0 lo (nI n) 1] ++ va_pl L0 (gE S0)) sz)) 60 340 (va_A ([gO h0 lo (nI n) 1] ++ va_pl L0 (gE S0)) sz) := by
  refine g_ofW (cc := cL_isAllSomewhere) (maxL := 5) (ret := some .boolean) (by decide) rfl (Nat.le_of_ble_eq_true rfl) ?_
  intro p e s m below meth c hx hb hr hml hts hown hlocks hin hsz hP hK hD hA hS hGG ls hl
  subst hsz
  have hown : s.vm.findClass RL = some m.cls := hown
  have hev := hI.1
  have hn1 := hI.1.1
  have hn2 := hI.2.1
  have hl : lv_has ls 5 [(0, .ref h0)] := hl
  have hsum := h_sum hI
  have hP1 := hI.1.2.2.2 1 (by omega) (by omega)
  have hloop : ∀ (d i : Nat) (L : List Nat) (S : gS) (H : Heap) (locs : List Loc) (ls : Array Slot), i + d = 8 → gCh P lo (L, S) → va_P D vwCl ([gO h0 lo (nI n) 1] ++ va_pl L (gE S)) H → va_D (va_A ([gO h0 lo (nI n) 1] ++ va_pl L0 (gE S0)) s.heap.size) ([gO h0 lo (nI n) 1] ++ va_pl L (gE S)) → va_S (va_A ([gO h0 lo (nI n) 1] ++ va_pl L0 (gE S0)) s.heap.size) s.heap H locs → lv_has ls 5 [(0, .ref h0), (2, .int (nI 1)), (3, .int (nI i))] → W p l e ({ frames := 9, cells := 60, slots := 340, locals := 200 } : Room) s m ([.ref h0] : List Value).toArray below meth c H locs (8 + 6 * i) (48 + 36 * i) (MQ below (va_Qi (fun (r : Int32) (u : List Nat × gS) => r = nI 1 ∧ gCh P lo u) (fun u t => gWd D tys (va_A ([gO h0 lo (nI n) 1] ++ va_pl L0 (gE S0)) s.heap.size) ([gO h0 lo (nI n) 1] ++ va_pl u.1 (gE u.2)) t) (va_A ([gO h0 lo (nI n) 1] ++ va_pl L0 (gE S0)) s.heap.size)) ([.ref h0] : List Value).toArray s 60 340 (va_A ([gO h0 lo (nI n) 1] ++ va_pl L0 (gE S0)) s.heap.size)) (F0 m 90 ls []) := by
    intro d
    induction d with
    | zero =>
      intro i L S H locs ls hi hC hP hD hS hl
      refine lv_iload_n hx hb dL_isAllSomewhere_90 rfl (lv_at hl 2 rfl) ?_
      refine lv_bipush (v := nI 8) hx hb dL_isAllSomewhere_91 (by decide) ?_
      refine lv_icmp_ge (tgt := 207) hx hb dL_isAllSomewhere_93 (by decide) (fun _ => ?_) (fun c9 => absurd (z_le (by omega) (by omega)) c9)
      refine lv_iload_n hx hb dL_isAllSomewhere_207 rfl (lv_at hl 1 rfl) ?_
      exact g_retz (wo := fun u : List Nat × gS => [gO h0 lo (nI n) 1] ++ va_pl u.1 (gE u.2)) hx hb hr hlocks hK (nI 1) rfl (L, S) hP hD hS (by omega) (by omega) ⟨rfl, hC⟩ dL_isAllSomewhere_208
    | succ d ih =>
      intro i L S H locs ls hi hC hP hD hS hl
      have hi8 : i < 8 := by omega
      have hg1 := h_few hev (k := i) (by omega)
      have hg2 := gbg_ct P (nI i) 5000
      have hg3 := gbg_iff (P := P) (p := nI i) (m := 5000) (h_0p hev (by omega))
      have hg4 := h_few hev (k := 8) (by omega)
      have hj195 : ∀ (L : List Nat) (S : gS) (H : Heap) (locs : List Loc) (ls : Array Slot), gCh P lo (L, S) → va_P D vwCl ([gO h0 lo (nI n) 1] ++ va_pl L (gE S)) H → va_D (va_A ([gO h0 lo (nI n) 1] ++ va_pl L0 (gE S0)) s.heap.size) ([gO h0 lo (nI n) 1] ++ va_pl L (gE S)) → va_S (va_A ([gO h0 lo (nI n) 1] ++ va_pl L0 (gE S0)) s.heap.size) s.heap H locs → lv_has ls 5 [(0, .ref h0), (2, .int (nI 1)), (3, .int (nI i))] → W p l e ({ frames := 9, cells := 60, slots := 340, locals := 200 } : Room) s m ([.ref h0] : List Value).toArray below meth c H locs (8 + 6 * i + 6) (48 + 36 * i + 36) (MQ below (va_Qi (fun (r : Int32) (u : List Nat × gS) => r = nI 1 ∧ gCh P lo u) (fun u t => gWd D tys (va_A ([gO h0 lo (nI n) 1] ++ va_pl L0 (gE S0)) s.heap.size) ([gO h0 lo (nI n) 1] ++ va_pl u.1 (gE u.2)) t) (va_A ([gO h0 lo (nI n) 1] ++ va_pl L0 (gE S0)) s.heap.size)) ([.ref h0] : List Value).toArray s 60 340 (va_A ([gO h0 lo (nI n) 1] ++ va_pl L0 (gE S0)) s.heap.size)) (F0 m 195 ls []) := by
        intro L S H locs ls hC hP hD hS hl
        refine lv_iconst (v := nI 1) hx hb dL_isAllSomewhere_195 (by decide) ?_
        refine lv_goto (tgt := 200) hx hb dL_isAllSomewhere_196 (by decide) ?_
        refine lv_istore_n (lv' := [(2, .int (nI 1)), (0, .ref h0), (3, .int (nI i))]) hx hb dL_isAllSomewhere_200 rfl hl (by decide) rfl (fun ls hl => ?_)
        refine lv_iinc (v := nI (i + 1)) (lv' := [(3, .int (nI (i + 1))), (2, .int (nI 1)), (0, .ref h0)]) hx hb dL_isAllSomewhere_201 hl (k := 2) rfl (nI_1 _) (by decide) rfl (fun ls hl => ?_)
        refine lv_goto (tgt := 90) hx hb dL_isAllSomewhere_204 (by decide) ?_
        refine W.widen (k := (8 + 6 * (i + 1))) (n := (48 + 36 * (i + 1))) (by omega) (by omega) ?_
        exact ih (i + 1) L S H locs ls (by omega) hC hP hD hS (lv_sub hl [2, 1, 0] rfl)
      refine lv_iload_n hx hb dL_isAllSomewhere_90 rfl (lv_at hl 2 rfl) ?_
      refine lv_bipush (v := nI 8) hx hb dL_isAllSomewhere_91 (by decide) ?_
      refine lv_icmp_ge (tgt := 207) hx hb dL_isAllSomewhere_93 (by decide) (fun c9 => absurd c9 (z_nle (by omega) (by omega))) (fun _ => ?_)
      refine lv_aload_n hx hb dL_isAllSomewhere_96 rfl (lv_at hl 0 rfl) ?_
      refine lv_iload_n hx hb dL_isAllSomewhere_97 rfl (lv_at hl 2 rfl) ?_
      refine g_xcalli (vx_runV (As := [.int (nI i)]) (rest := []) ⟨hx, hb, hml, hown, hts⟩ (c_nextOf l hl9 D tys [gO h0 lo (nI n) 1] L S H.size (i := 0) rfl hC (nI i)) (cwV 1 hts gL_isAllSomewhere_X1_nextOf rfl rfl rfl (by decide +kernel) ⟨Nat.le_of_ble_eq_true rfl, Nat.le_of_ble_eq_true rfl⟩) (gP_V (va_recv hK hP (ci := 1) rfl (g_inX (X := [gO h0 lo (nI n) 1]) (i := 0) rfl)) hP hK hD gBl_G (fun U hU hW => gG.call hGG hS (gA_sub hD hS hA) U hU hW)) rfl rfl hl.1 rfl (lv_room (Nat.le_of_ble_eq_true rfl)) dL_isAllSomewhere_98 ⟨by show (8 + 6 * i) + 1 ≤ 60; omega, by show (48 + 36 * i) + 6 ≤ 340; omega⟩) hD hS hA (fun E ce q9 u9 H locs hc hP hD hS e1 e2 e3 => False.elim (hc.1.2 (h_gob hi8))) (fun r9 u9 H locs hr9 hP hD hS => ?_)
      obtain ⟨⟨-, v, y, hv, hy, hr9⟩, hC⟩ := hr9
      obtain ⟨L, S⟩ := u9
      have hP : va_P D vwCl ([gO h0 lo (nI n) 1] ++ va_pl L (gE S)) H := hP
      have hD : va_D (va_A ([gO h0 lo (nI n) 1] ++ va_pl L0 (gE S0)) s.heap.size) ([gO h0 lo (nI n) 1] ++ va_pl L (gE S)) := hD
      have hr9 : r9 = nI (if v = 0 then y else v) := hr9
      subst hr9
      have hv1 := glow_ct hv
      have hy1 := glow_ct hy
      by_cases hv0 : v = 0
      · have hg0 : gct P (nI i) 5000 = 0 := hv1.mp hv0
        by_cases hy0 : y = 0
        · have hj0 : gct P 8 5000 = 0 := hy1.mp hy0
          refine g_top (y := nI 0) (by rw [if_pos hv0, hy0]) ?_
          refine lv_istore (lv' := [(4, .int (nI 0)), (0, .ref h0), (2, .int (nI 1)), (3, .int (nI i))]) hx hb dL_isAllSomewhere_101 hl (by decide) rfl (fun ls hl => ?_)
          refine lv_iload_n hx hb dL_isAllSomewhere_103 rfl (lv_at hl 2 rfl) ?_
          refine lv_if_eq (tgt := 199) hx hb dL_isAllSomewhere_104 (by decide) (fun c9 => absurd c9 (by decide)) (fun _ => ?_)
          refine lv_aload_n hx hb dL_isAllSomewhere_107 rfl (lv_at hl 1 rfl) ?_
          refine lv_iload_n hx hb dL_isAllSomewhere_108 rfl (lv_at hl 3 rfl) ?_
          refine g_xcalli (vx_runV (As := [.int (nI i)]) (rest := []) ⟨hx, hb, hml, hown, hts⟩ (c_inGoblet l hl9 D tys [gO h0 lo (nI n) 1] L S H.size (i := 0) rfl hC (nI i)) (cwV 1 hts gL_isAllSomewhere_X1_inGoblet rfl rfl rfl (by decide +kernel) ⟨Nat.le_of_ble_eq_true rfl, Nat.le_of_ble_eq_true rfl⟩) (gP_V (va_recv hK hP (ci := 1) rfl (g_inX (X := [gO h0 lo (nI n) 1]) (i := 0) rfl)) hP hK hD gBl_G (fun U hU hW => gG.call hGG hS (gA_sub hD hS hA) U hU hW)) rfl rfl hl.1 rfl (lv_room (Nat.le_of_ble_eq_true rfl)) dL_isAllSomewhere_109 ⟨by show (8 + 6 * i) + 1 + 1 ≤ 60; omega, by show (48 + 36 * i) + 6 + 6 ≤ 340; omega⟩) hD hS hA (fun E ce q9 u9 H locs hc hP hD hS e1 e2 e3 => False.elim (hc.1.2 (h_gob hi8))) (fun r9 u9 H locs hr9 hP hD hS => ?_)
          obtain ⟨⟨-, hr9⟩, hC⟩ := hr9
          obtain ⟨L, S⟩ := u9
          have hP : va_P D vwCl ([gO h0 lo (nI n) 1] ++ va_pl L (gE S)) H := hP
          have hD : va_D (va_A ([gO h0 lo (nI n) 1] ++ va_pl L0 (gE S0)) s.heap.size) ([gO h0 lo (nI n) 1] ++ va_pl L (gE S)) := hD
          have hr9 : r9 = nI (gct P (nI i) 5000) := hr9
          subst hr9
          refine lv_if_ne (tgt := 119) hx hb dL_isAllSomewhere_112 (by decide) (fun c9 => absurd (z_eq (b := 0) (by omega)) c9) (fun _ => ?_)
          refine lv_iconst (v := nI 1) hx hb dL_isAllSomewhere_115 (by decide) ?_
          refine lv_goto (tgt := 120) hx hb dL_isAllSomewhere_116 (by decide) ?_
          refine lv_aload_n hx hb dL_isAllSomewhere_120 rfl (lv_at hl 1 rfl) ?_
          refine lv_iload_n hx hb dL_isAllSomewhere_121 rfl (lv_at hl 3 rfl) ?_
          refine g_xcalli (vx_runV (As := [.int (nI i)]) (rest := [.int (nI 1)]) ⟨hx, hb, hml, hown, hts⟩ (c_rangesOf l hl9 D tys [gO h0 lo (nI n) 1] L S H.size (i := 0) rfl hC (nI i) (h_0 hev)) (cwV 1 hts gL_isAllSomewhere_X1_rangesOf rfl rfl rfl (by decide +kernel) ⟨Nat.le_of_ble_eq_true rfl, Nat.le_of_ble_eq_true rfl⟩) (gP_V (va_recv hK hP (ci := 1) rfl (g_inX (X := [gO h0 lo (nI n) 1]) (i := 0) rfl)) hP hK hD gBl_G (fun U hU hW => gG.call hGG hS (gA_sub hD hS hA) U hU hW)) rfl rfl hl.1 rfl (lv_room (Nat.le_of_ble_eq_true rfl)) dL_isAllSomewhere_122 ⟨by show (8 + 6 * i) + 1 + 1 + 1 ≤ 60; omega, by show (48 + 36 * i) + 6 + 6 + 6 ≤ 340; omega⟩) hD hS hA (fun E ce q9 u9 H locs hc hP hD hS e1 e2 e3 => False.elim (hc.1.2 (h_gob hi8))) (fun r9 u9 H locs hr9 hP hD hS => ?_)
          obtain ⟨⟨-, hr9⟩, hC⟩ := hr9
          obtain ⟨L, S⟩ := u9
          have hP : va_P D vwCl ([gO h0 lo (nI n) 1] ++ va_pl L (gE S)) H := hP
          have hD : va_D (va_A ([gO h0 lo (nI n) 1] ++ va_pl L0 (gE S0)) s.heap.size) ([gO h0 lo (nI n) 1] ++ va_pl L (gE S)) := hD
          have hr9 : r9 = nI (gbg P (nI i) 5000) := hr9
          subst hr9
          refine lv_if_ne (tgt := 132) hx hb dL_isAllSomewhere_125 (by decide) (fun c9 => absurd (z_eq (b := 0) (by omega)) c9) (fun _ => ?_)
          refine lv_iconst (v := nI 1) hx hb dL_isAllSomewhere_128 (by decide) ?_
          refine lv_goto (tgt := 133) hx hb dL_isAllSomewhere_129 (by decide) ?_
          refine lv_icmp_ne (tgt := 199) hx hb dL_isAllSomewhere_133 (by decide) (fun c9 => absurd (rfl) c9) (fun _ => ?_)
          refine lv_aload_n hx hb dL_isAllSomewhere_136 rfl (lv_at hl 1 rfl) ?_
          refine lv_iload_n hx hb dL_isAllSomewhere_137 rfl (lv_at hl 3 rfl) ?_
          refine g_xcalli (vx_runV (As := [.int (nI i)]) (rest := []) ⟨hx, hb, hml, hown, hts⟩ (c_rangesOf l hl9 D tys [gO h0 lo (nI n) 1] L S H.size (i := 0) rfl hC (nI i) (h_0 hev)) (cwV 1 hts gL_isAllSomewhere_X1_rangesOf rfl rfl rfl (by decide +kernel) ⟨Nat.le_of_ble_eq_true rfl, Nat.le_of_ble_eq_true rfl⟩) (gP_V (va_recv hK hP (ci := 1) rfl (g_inX (X := [gO h0 lo (nI n) 1]) (i := 0) rfl)) hP hK hD gBl_G (fun U hU hW => gG.call hGG hS (gA_sub hD hS hA) U hU hW)) rfl rfl hl.1 rfl (lv_room (Nat.le_of_ble_eq_true rfl)) dL_isAllSomewhere_138 ⟨by show (8 + 6 * i) + 1 + 1 + 1 + 1 ≤ 60; omega, by show (48 + 36 * i) + 6 + 6 + 6 + 6 ≤ 340; omega⟩) hD hS hA (fun E ce q9 u9 H locs hc hP hD hS e1 e2 e3 => False.elim (hc.1.2 (h_gob hi8))) (fun r9 u9 H locs hr9 hP hD hS => ?_)
          obtain ⟨⟨-, hr9⟩, hC⟩ := hr9
          obtain ⟨L, S⟩ := u9
          have hP : va_P D vwCl ([gO h0 lo (nI n) 1] ++ va_pl L (gE S)) H := hP
          have hD : va_D (va_A ([gO h0 lo (nI n) 1] ++ va_pl L0 (gE S0)) s.heap.size) ([gO h0 lo (nI n) 1] ++ va_pl L (gE S)) := hD
          have hr9 : r9 = nI (gbg P (nI i) 5000) := hr9
          subst hr9
          refine lv_aload_n hx hb dL_isAllSomewhere_141 rfl (lv_at hl 1 rfl) ?_
          refine lv_iload_n hx hb dL_isAllSomewhere_142 rfl (lv_at hl 3 rfl) ?_
          refine g_xcalli (vx_runV (As := [.int (nI i)]) (rest := [.int (nI (gbg P (nI i) 5000))]) ⟨hx, hb, hml, hown, hts⟩ (c_inGoblet l hl9 D tys [gO h0 lo (nI n) 1] L S H.size (i := 0) rfl hC (nI i)) (cwV 1 hts gL_isAllSomewhere_X1_inGoblet rfl rfl rfl (by decide +kernel) ⟨Nat.le_of_ble_eq_true rfl, Nat.le_of_ble_eq_true rfl⟩) (gP_V (va_recv hK hP (ci := 1) rfl (g_inX (X := [gO h0 lo (nI n) 1]) (i := 0) rfl)) hP hK hD gBl_G (fun U hU hW => gG.call hGG hS (gA_sub hD hS hA) U hU hW)) rfl rfl hl.1 rfl (lv_room (Nat.le_of_ble_eq_true rfl)) dL_isAllSomewhere_143 ⟨by show (8 + 6 * i) + 1 + 1 + 1 + 1 + 1 ≤ 60; omega, by show (48 + 36 * i) + 6 + 6 + 6 + 6 + 6 ≤ 340; omega⟩) hD hS hA (fun E ce q9 u9 H locs hc hP hD hS e1 e2 e3 => False.elim (hc.1.2 (h_gob hi8))) (fun r9 u9 H locs hr9 hP hD hS => ?_)
          obtain ⟨⟨-, hr9⟩, hC⟩ := hr9
          obtain ⟨L, S⟩ := u9
          have hP : va_P D vwCl ([gO h0 lo (nI n) 1] ++ va_pl L (gE S)) H := hP
          have hD : va_D (va_A ([gO h0 lo (nI n) 1] ++ va_pl L0 (gE S0)) s.heap.size) ([gO h0 lo (nI n) 1] ++ va_pl L (gE S)) := hD
          have hr9 : r9 = nI (gct P (nI i) 5000) := hr9
          subst hr9
          refine lv_icmp_gt (tgt := 199) hx hb dL_isAllSomewhere_146 (by decide) (fun c9 => absurd c9 (z_nlt (by omega) (by omega))) (fun _ => ?_)
          refine lv_iload hx hb dL_isAllSomewhere_149 (lv_at hl 0 rfl) ?_
          refine lv_if_ne (tgt := 172) hx hb dL_isAllSomewhere_151 (by decide) (fun c9 => absurd (rfl) c9) (fun _ => ?_)
          refine lv_aload_n hx hb dL_isAllSomewhere_154 rfl (lv_at hl 1 rfl) ?_
          refine g_calli (va_runV (As := []) (rest := []) ⟨hx, hb, hml, hown, hts⟩ (c_inJug l D tys [gO h0 lo (nI n) 1] L S H.size (i := 0) rfl hC) (cwV 0 hts gL_isAllSomewhere_X1_inJug rfl rfl rfl (by decide +kernel) ⟨Nat.le_of_ble_eq_true rfl, Nat.le_of_ble_eq_true rfl⟩) (gP_V (va_recv hK hP (ci := 1) rfl (g_inX (X := [gO h0 lo (nI n) 1]) (i := 0) rfl)) hP hK hD gBl_N (fun U _ hW => hGG.1.warm hW)) rfl rfl hl.1 rfl (lv_room (Nat.le_of_ble_eq_true rfl)) dL_isAllSomewhere_155 ⟨by show (8 + 6 * i) + 1 + 1 + 1 + 1 + 1 + 0 ≤ 60; omega, by show (48 + 36 * i) + 6 + 6 + 6 + 6 + 6 + 0 ≤ 340; omega⟩) hD hS hA (fun r9 u9 H locs hr9 hP hD hS => ?_)
          have hP : va_P D vwCl ([gO h0 lo (nI n) 1] ++ va_pl L (gE S)) H := hP
          have hD : va_D (va_A ([gO h0 lo (nI n) 1] ++ va_pl L0 (gE S0)) s.heap.size) ([gO h0 lo (nI n) 1] ++ va_pl L (gE S)) := hD
          have hr9 : r9 = nI (gct P 8 5000) := hr9
          subst hr9
          refine lv_if_ne (tgt := 199) hx hb dL_isAllSomewhere_158 (by decide) (fun c9 => absurd (z_eq (b := 0) (by omega)) c9) (fun _ => ?_)
          refine lv_aload_n hx hb dL_isAllSomewhere_161 rfl (lv_at hl 1 rfl) ?_
          refine lv_iload_n hx hb dL_isAllSomewhere_162 rfl (lv_at hl 3 rfl) ?_
          refine g_xcalli (vx_runV (As := [.int (nI i)]) (rest := []) ⟨hx, hb, hml, hown, hts⟩ (c_inGoblet l hl9 D tys [gO h0 lo (nI n) 1] L S H.size (i := 0) rfl hC (nI i)) (cwV 1 hts gL_isAllSomewhere_X1_inGoblet rfl rfl rfl (by decide +kernel) ⟨Nat.le_of_ble_eq_true rfl, Nat.le_of_ble_eq_true rfl⟩) (gP_V (va_recv hK hP (ci := 1) rfl (g_inX (X := [gO h0 lo (nI n) 1]) (i := 0) rfl)) hP hK hD gBl_G (fun U hU hW => gG.call hGG hS (gA_sub hD hS hA) U hU hW)) rfl rfl hl.1 rfl (lv_room (Nat.le_of_ble_eq_true rfl)) dL_isAllSomewhere_163 ⟨by show (8 + 6 * i) + 1 + 1 + 1 + 1 + 1 + 0 + 1 ≤ 60; omega, by show (48 + 36 * i) + 6 + 6 + 6 + 6 + 6 + 0 + 6 ≤ 340; omega⟩) hD hS hA (fun E ce q9 u9 H locs hc hP hD hS e1 e2 e3 => False.elim (hc.1.2 (h_gob hi8))) (fun r9 u9 H locs hr9 hP hD hS => ?_)
          obtain ⟨⟨-, hr9⟩, hC⟩ := hr9
          obtain ⟨L, S⟩ := u9
          have hP : va_P D vwCl ([gO h0 lo (nI n) 1] ++ va_pl L (gE S)) H := hP
          have hD : va_D (va_A ([gO h0 lo (nI n) 1] ++ va_pl L0 (gE S0)) s.heap.size) ([gO h0 lo (nI n) 1] ++ va_pl L (gE S)) := hD
          have hr9 : r9 = nI (gct P (nI i) 5000) := hr9
          subst hr9
          refine lv_if_ne (tgt := 199) hx hb dL_isAllSomewhere_166 (by decide) (fun c9 => absurd (z_eq (b := 0) (by omega)) c9) (fun _ => ?_)
          refine lv_goto (tgt := 195) hx hb dL_isAllSomewhere_169 (by decide) ?_
          refine W.widen (k := (8 + 6 * i + 6)) (n := (48 + 36 * i + 36)) (by omega) (by omega) ?_
          exact hj195 L S H locs ls hC hP hD hS (lv_sub hl [1, 2, 3] rfl)
        · have hya := glow_at hy hy0
          refine g_top (y := nI y) (by rw [if_pos hv0]) ?_
          refine lv_istore (lv' := [(4, .int (nI y)), (0, .ref h0), (2, .int (nI 1)), (3, .int (nI i))]) hx hb dL_isAllSomewhere_101 hl (by decide) rfl (fun ls hl => ?_)
          refine lv_iload_n hx hb dL_isAllSomewhere_103 rfl (lv_at hl 2 rfl) ?_
          refine lv_if_eq (tgt := 199) hx hb dL_isAllSomewhere_104 (by decide) (fun c9 => absurd c9 (by decide)) (fun _ => ?_)
          refine lv_aload_n hx hb dL_isAllSomewhere_107 rfl (lv_at hl 1 rfl) ?_
          refine lv_iload_n hx hb dL_isAllSomewhere_108 rfl (lv_at hl 3 rfl) ?_
          refine g_xcalli (vx_runV (As := [.int (nI i)]) (rest := []) ⟨hx, hb, hml, hown, hts⟩ (c_inGoblet l hl9 D tys [gO h0 lo (nI n) 1] L S H.size (i := 0) rfl hC (nI i)) (cwV 1 hts gL_isAllSomewhere_X1_inGoblet rfl rfl rfl (by decide +kernel) ⟨Nat.le_of_ble_eq_true rfl, Nat.le_of_ble_eq_true rfl⟩) (gP_V (va_recv hK hP (ci := 1) rfl (g_inX (X := [gO h0 lo (nI n) 1]) (i := 0) rfl)) hP hK hD gBl_G (fun U hU hW => gG.call hGG hS (gA_sub hD hS hA) U hU hW)) rfl rfl hl.1 rfl (lv_room (Nat.le_of_ble_eq_true rfl)) dL_isAllSomewhere_109 ⟨by show (8 + 6 * i) + 1 + 1 ≤ 60; omega, by show (48 + 36 * i) + 6 + 6 ≤ 340; omega⟩) hD hS hA (fun E ce q9 u9 H locs hc hP hD hS e1 e2 e3 => False.elim (hc.1.2 (h_gob hi8))) (fun r9 u9 H locs hr9 hP hD hS => ?_)
          obtain ⟨⟨-, hr9⟩, hC⟩ := hr9
          obtain ⟨L, S⟩ := u9
          have hP : va_P D vwCl ([gO h0 lo (nI n) 1] ++ va_pl L (gE S)) H := hP
          have hD : va_D (va_A ([gO h0 lo (nI n) 1] ++ va_pl L0 (gE S0)) s.heap.size) ([gO h0 lo (nI n) 1] ++ va_pl L (gE S)) := hD
          have hr9 : r9 = nI (gct P (nI i) 5000) := hr9
          subst hr9
          refine lv_if_ne (tgt := 119) hx hb dL_isAllSomewhere_112 (by decide) (fun c9 => absurd (z_eq (b := 0) (by omega)) c9) (fun _ => ?_)
          refine lv_iconst (v := nI 1) hx hb dL_isAllSomewhere_115 (by decide) ?_
          refine lv_goto (tgt := 120) hx hb dL_isAllSomewhere_116 (by decide) ?_
          refine lv_aload_n hx hb dL_isAllSomewhere_120 rfl (lv_at hl 1 rfl) ?_
          refine lv_iload_n hx hb dL_isAllSomewhere_121 rfl (lv_at hl 3 rfl) ?_
          refine g_xcalli (vx_runV (As := [.int (nI i)]) (rest := [.int (nI 1)]) ⟨hx, hb, hml, hown, hts⟩ (c_rangesOf l hl9 D tys [gO h0 lo (nI n) 1] L S H.size (i := 0) rfl hC (nI i) (h_0 hev)) (cwV 1 hts gL_isAllSomewhere_X1_rangesOf rfl rfl rfl (by decide +kernel) ⟨Nat.le_of_ble_eq_true rfl, Nat.le_of_ble_eq_true rfl⟩) (gP_V (va_recv hK hP (ci := 1) rfl (g_inX (X := [gO h0 lo (nI n) 1]) (i := 0) rfl)) hP hK hD gBl_G (fun U hU hW => gG.call hGG hS (gA_sub hD hS hA) U hU hW)) rfl rfl hl.1 rfl (lv_room (Nat.le_of_ble_eq_true rfl)) dL_isAllSomewhere_122 ⟨by show (8 + 6 * i) + 1 + 1 + 1 ≤ 60; omega, by show (48 + 36 * i) + 6 + 6 + 6 ≤ 340; omega⟩) hD hS hA (fun E ce q9 u9 H locs hc hP hD hS e1 e2 e3 => False.elim (hc.1.2 (h_gob hi8))) (fun r9 u9 H locs hr9 hP hD hS => ?_)
          obtain ⟨⟨-, hr9⟩, hC⟩ := hr9
          obtain ⟨L, S⟩ := u9
          have hP : va_P D vwCl ([gO h0 lo (nI n) 1] ++ va_pl L (gE S)) H := hP
          have hD : va_D (va_A ([gO h0 lo (nI n) 1] ++ va_pl L0 (gE S0)) s.heap.size) ([gO h0 lo (nI n) 1] ++ va_pl L (gE S)) := hD
          have hr9 : r9 = nI (gbg P (nI i) 5000) := hr9
          subst hr9
          refine lv_if_ne (tgt := 132) hx hb dL_isAllSomewhere_125 (by decide) (fun c9 => absurd (z_eq (b := 0) (by omega)) c9) (fun _ => ?_)
          refine lv_iconst (v := nI 1) hx hb dL_isAllSomewhere_128 (by decide) ?_
          refine lv_goto (tgt := 133) hx hb dL_isAllSomewhere_129 (by decide) ?_
          refine lv_icmp_ne (tgt := 199) hx hb dL_isAllSomewhere_133 (by decide) (fun c9 => absurd (rfl) c9) (fun _ => ?_)
          refine lv_aload_n hx hb dL_isAllSomewhere_136 rfl (lv_at hl 1 rfl) ?_
          refine lv_iload_n hx hb dL_isAllSomewhere_137 rfl (lv_at hl 3 rfl) ?_
          refine g_xcalli (vx_runV (As := [.int (nI i)]) (rest := []) ⟨hx, hb, hml, hown, hts⟩ (c_rangesOf l hl9 D tys [gO h0 lo (nI n) 1] L S H.size (i := 0) rfl hC (nI i) (h_0 hev)) (cwV 1 hts gL_isAllSomewhere_X1_rangesOf rfl rfl rfl (by decide +kernel) ⟨Nat.le_of_ble_eq_true rfl, Nat.le_of_ble_eq_true rfl⟩) (gP_V (va_recv hK hP (ci := 1) rfl (g_inX (X := [gO h0 lo (nI n) 1]) (i := 0) rfl)) hP hK hD gBl_G (fun U hU hW => gG.call hGG hS (gA_sub hD hS hA) U hU hW)) rfl rfl hl.1 rfl (lv_room (Nat.le_of_ble_eq_true rfl)) dL_isAllSomewhere_138 ⟨by show (8 + 6 * i) + 1 + 1 + 1 + 1 ≤ 60; omega, by show (48 + 36 * i) + 6 + 6 + 6 + 6 ≤ 340; omega⟩) hD hS hA (fun E ce q9 u9 H locs hc hP hD hS e1 e2 e3 => False.elim (hc.1.2 (h_gob hi8))) (fun r9 u9 H locs hr9 hP hD hS => ?_)
          obtain ⟨⟨-, hr9⟩, hC⟩ := hr9
          obtain ⟨L, S⟩ := u9
          have hP : va_P D vwCl ([gO h0 lo (nI n) 1] ++ va_pl L (gE S)) H := hP
          have hD : va_D (va_A ([gO h0 lo (nI n) 1] ++ va_pl L0 (gE S0)) s.heap.size) ([gO h0 lo (nI n) 1] ++ va_pl L (gE S)) := hD
          have hr9 : r9 = nI (gbg P (nI i) 5000) := hr9
          subst hr9
          refine lv_aload_n hx hb dL_isAllSomewhere_141 rfl (lv_at hl 1 rfl) ?_
          refine lv_iload_n hx hb dL_isAllSomewhere_142 rfl (lv_at hl 3 rfl) ?_
          refine g_xcalli (vx_runV (As := [.int (nI i)]) (rest := [.int (nI (gbg P (nI i) 5000))]) ⟨hx, hb, hml, hown, hts⟩ (c_inGoblet l hl9 D tys [gO h0 lo (nI n) 1] L S H.size (i := 0) rfl hC (nI i)) (cwV 1 hts gL_isAllSomewhere_X1_inGoblet rfl rfl rfl (by decide +kernel) ⟨Nat.le_of_ble_eq_true rfl, Nat.le_of_ble_eq_true rfl⟩) (gP_V (va_recv hK hP (ci := 1) rfl (g_inX (X := [gO h0 lo (nI n) 1]) (i := 0) rfl)) hP hK hD gBl_G (fun U hU hW => gG.call hGG hS (gA_sub hD hS hA) U hU hW)) rfl rfl hl.1 rfl (lv_room (Nat.le_of_ble_eq_true rfl)) dL_isAllSomewhere_143 ⟨by show (8 + 6 * i) + 1 + 1 + 1 + 1 + 1 ≤ 60; omega, by show (48 + 36 * i) + 6 + 6 + 6 + 6 + 6 ≤ 340; omega⟩) hD hS hA (fun E ce q9 u9 H locs hc hP hD hS e1 e2 e3 => False.elim (hc.1.2 (h_gob hi8))) (fun r9 u9 H locs hr9 hP hD hS => ?_)
          obtain ⟨⟨-, hr9⟩, hC⟩ := hr9
          obtain ⟨L, S⟩ := u9
          have hP : va_P D vwCl ([gO h0 lo (nI n) 1] ++ va_pl L (gE S)) H := hP
          have hD : va_D (va_A ([gO h0 lo (nI n) 1] ++ va_pl L0 (gE S0)) s.heap.size) ([gO h0 lo (nI n) 1] ++ va_pl L (gE S)) := hD
          have hr9 : r9 = nI (gct P (nI i) 5000) := hr9
          subst hr9
          refine lv_icmp_gt (tgt := 199) hx hb dL_isAllSomewhere_146 (by decide) (fun c9 => absurd c9 (z_nlt (by omega) (by omega))) (fun _ => ?_)
          refine lv_iload hx hb dL_isAllSomewhere_149 (lv_at hl 0 rfl) ?_
          refine lv_if_ne (tgt := 172) hx hb dL_isAllSomewhere_151 (by decide) (fun _ => ?_) (fun c9 => absurd c9 (z_ne (b := 0) (by omega) (by omega) (by omega)))
          refine lv_aload_n hx hb dL_isAllSomewhere_172 rfl (lv_at hl 1 rfl) ?_
          refine lv_iload hx hb dL_isAllSomewhere_173 (lv_at hl 0 rfl) ?_
          obtain ⟨g9, hch9, hwf9, hmx9⟩ := id hC
          refine g_calli (va_runV (As := [.int (nI y)]) (rest := []) ⟨hx, hb, hml, hown, hts⟩ (c_place l D tys [gO h0 lo (nI n) 1] L S H.size (i := 0) rfl hwf9 hmx9 hch9 (nI y)) (cwV 1 hts gL_isAllSomewhere_X1_placeOf rfl rfl rfl (by decide +kernel) ⟨Nat.le_of_ble_eq_true rfl, Nat.le_of_ble_eq_true rfl⟩) (gP_V (va_recv hK hP (ci := 1) rfl (g_inX (X := [gO h0 lo (nI n) 1]) (i := 0) rfl)) hP hK hD gBl_N (fun U _ hW => hGG.1.warm hW)) rfl rfl hl.1 rfl (lv_room (Nat.le_of_ble_eq_true rfl)) dL_isAllSomewhere_175 ⟨by show (8 + 6 * i) + 1 + 1 + 1 + 1 + 1 + 0 ≤ 60; omega, by show (48 + 36 * i) + 6 + 6 + 6 + 6 + 6 + 0 ≤ 340; omega⟩) hD hS hA (fun r9 u9 H locs hr9 hP hD hS => ?_)
          have hP : va_P D vwCl ([gO h0 lo (nI n) 1] ++ va_pl L (gE S)) H := hP
          have hD : va_D (va_A ([gO h0 lo (nI n) 1] ++ va_pl L0 (gE S0)) s.heap.size) ([gO h0 lo (nI n) 1] ++ va_pl L (gE S)) := hD
          have hr9 : r9 = P y := rg_place hev (by omega) hr9
          subst hr9
          refine lv_aload_n hx hb dL_isAllSomewhere_178 rfl (lv_at hl 1 rfl) ?_
          refine lv_iload_n hx hb dL_isAllSomewhere_179 rfl (lv_at hl 3 rfl) ?_
          refine g_xcalli (vx_runV (As := [.int (nI i)]) (rest := [.int (P y)]) ⟨hx, hb, hml, hown, hts⟩ (c_inGoblet l hl9 D tys [gO h0 lo (nI n) 1] L S H.size (i := 0) rfl hC (nI i)) (cwV 1 hts gL_isAllSomewhere_X1_inGoblet rfl rfl rfl (by decide +kernel) ⟨Nat.le_of_ble_eq_true rfl, Nat.le_of_ble_eq_true rfl⟩) (gP_V (va_recv hK hP (ci := 1) rfl (g_inX (X := [gO h0 lo (nI n) 1]) (i := 0) rfl)) hP hK hD gBl_G (fun U hU hW => gG.call hGG hS (gA_sub hD hS hA) U hU hW)) rfl rfl hl.1 rfl (lv_room (Nat.le_of_ble_eq_true rfl)) dL_isAllSomewhere_180 ⟨by show (8 + 6 * i) + 1 + 1 + 1 + 1 + 1 + 0 + 1 ≤ 60; omega, by show (48 + 36 * i) + 6 + 6 + 6 + 6 + 6 + 0 + 6 ≤ 340; omega⟩) hD hS hA (fun E ce q9 u9 H locs hc hP hD hS e1 e2 e3 => False.elim (hc.1.2 (h_gob hi8))) (fun r9 u9 H locs hr9 hP hD hS => ?_)
          obtain ⟨⟨-, hr9⟩, hC⟩ := hr9
          obtain ⟨L, S⟩ := u9
          have hP : va_P D vwCl ([gO h0 lo (nI n) 1] ++ va_pl L (gE S)) H := hP
          have hD : va_D (va_A ([gO h0 lo (nI n) 1] ++ va_pl L0 (gE S0)) s.heap.size) ([gO h0 lo (nI n) 1] ++ va_pl L (gE S)) := hD
          have hr9 : r9 = nI (gct P (nI i) 5000) := hr9
          subst hr9
          refine lv_if_ne (tgt := 191) hx hb dL_isAllSomewhere_183 (by decide) (fun c9 => absurd (z_eq (b := 0) (by omega)) c9) (fun _ => ?_)
          refine lv_bipush (v := nI 8) hx hb dL_isAllSomewhere_186 (by decide) ?_
          refine lv_goto (tgt := 192) hx hb dL_isAllSomewhere_188 (by decide) ?_
          refine lv_icmp_ne (tgt := 199) hx hb dL_isAllSomewhere_192 (by decide) (fun c9 => absurd (hya.2.2) c9) (fun _ => ?_)
          refine W.widen (k := (8 + 6 * i + 6)) (n := (48 + 36 * i + 36)) (by omega) (by omega) ?_
          exact hj195 L S H locs ls hC hP hD hS (lv_sub hl [1, 2, 3] rfl)
      · have hva := glow_at hv hv0
        have hg0 : ¬ gct P (nI i) 5000 = 0 := fun z => hv0 (hv1.mpr z)
        refine g_top (y := nI v) (by rw [if_neg hv0]) ?_
        refine lv_istore (lv' := [(4, .int (nI v)), (0, .ref h0), (2, .int (nI 1)), (3, .int (nI i))]) hx hb dL_isAllSomewhere_101 hl (by decide) rfl (fun ls hl => ?_)
        refine lv_iload_n hx hb dL_isAllSomewhere_103 rfl (lv_at hl 2 rfl) ?_
        refine lv_if_eq (tgt := 199) hx hb dL_isAllSomewhere_104 (by decide) (fun c9 => absurd c9 (by decide)) (fun _ => ?_)
        refine lv_aload_n hx hb dL_isAllSomewhere_107 rfl (lv_at hl 1 rfl) ?_
        refine lv_iload_n hx hb dL_isAllSomewhere_108 rfl (lv_at hl 3 rfl) ?_
        refine g_xcalli (vx_runV (As := [.int (nI i)]) (rest := []) ⟨hx, hb, hml, hown, hts⟩ (c_inGoblet l hl9 D tys [gO h0 lo (nI n) 1] L S H.size (i := 0) rfl hC (nI i)) (cwV 1 hts gL_isAllSomewhere_X1_inGoblet rfl rfl rfl (by decide +kernel) ⟨Nat.le_of_ble_eq_true rfl, Nat.le_of_ble_eq_true rfl⟩) (gP_V (va_recv hK hP (ci := 1) rfl (g_inX (X := [gO h0 lo (nI n) 1]) (i := 0) rfl)) hP hK hD gBl_G (fun U hU hW => gG.call hGG hS (gA_sub hD hS hA) U hU hW)) rfl rfl hl.1 rfl (lv_room (Nat.le_of_ble_eq_true rfl)) dL_isAllSomewhere_109 ⟨by show (8 + 6 * i) + 1 + 1 ≤ 60; omega, by show (48 + 36 * i) + 6 + 6 ≤ 340; omega⟩) hD hS hA (fun E ce q9 u9 H locs hc hP hD hS e1 e2 e3 => False.elim (hc.1.2 (h_gob hi8))) (fun r9 u9 H locs hr9 hP hD hS => ?_)
        obtain ⟨⟨-, hr9⟩, hC⟩ := hr9
        obtain ⟨L, S⟩ := u9
        have hP : va_P D vwCl ([gO h0 lo (nI n) 1] ++ va_pl L (gE S)) H := hP
        have hD : va_D (va_A ([gO h0 lo (nI n) 1] ++ va_pl L0 (gE S0)) s.heap.size) ([gO h0 lo (nI n) 1] ++ va_pl L (gE S)) := hD
        have hr9 : r9 = nI (gct P (nI i) 5000) := hr9
        subst hr9
        refine lv_if_ne (tgt := 119) hx hb dL_isAllSomewhere_112 (by decide) (fun _ => ?_) (fun c9 => absurd c9 (z_ne (b := 0) (by omega) (by omega) (by omega)))
        refine lv_iconst (v := nI 0) hx hb dL_isAllSomewhere_119 (by decide) ?_
        refine lv_aload_n hx hb dL_isAllSomewhere_120 rfl (lv_at hl 1 rfl) ?_
        refine lv_iload_n hx hb dL_isAllSomewhere_121 rfl (lv_at hl 3 rfl) ?_
        refine g_xcalli (vx_runV (As := [.int (nI i)]) (rest := [.int (nI 0)]) ⟨hx, hb, hml, hown, hts⟩ (c_rangesOf l hl9 D tys [gO h0 lo (nI n) 1] L S H.size (i := 0) rfl hC (nI i) (h_0 hev)) (cwV 1 hts gL_isAllSomewhere_X1_rangesOf rfl rfl rfl (by decide +kernel) ⟨Nat.le_of_ble_eq_true rfl, Nat.le_of_ble_eq_true rfl⟩) (gP_V (va_recv hK hP (ci := 1) rfl (g_inX (X := [gO h0 lo (nI n) 1]) (i := 0) rfl)) hP hK hD gBl_G (fun U hU hW => gG.call hGG hS (gA_sub hD hS hA) U hU hW)) rfl rfl hl.1 rfl (lv_room (Nat.le_of_ble_eq_true rfl)) dL_isAllSomewhere_122 ⟨by show (8 + 6 * i) + 1 + 1 + 1 ≤ 60; omega, by show (48 + 36 * i) + 6 + 6 + 6 ≤ 340; omega⟩) hD hS hA (fun E ce q9 u9 H locs hc hP hD hS e1 e2 e3 => False.elim (hc.1.2 (h_gob hi8))) (fun r9 u9 H locs hr9 hP hD hS => ?_)
        obtain ⟨⟨-, hr9⟩, hC⟩ := hr9
        obtain ⟨L, S⟩ := u9
        have hP : va_P D vwCl ([gO h0 lo (nI n) 1] ++ va_pl L (gE S)) H := hP
        have hD : va_D (va_A ([gO h0 lo (nI n) 1] ++ va_pl L0 (gE S0)) s.heap.size) ([gO h0 lo (nI n) 1] ++ va_pl L (gE S)) := hD
        have hr9 : r9 = nI (gbg P (nI i) 5000) := hr9
        subst hr9
        refine lv_if_ne (tgt := 132) hx hb dL_isAllSomewhere_125 (by decide) (fun _ => ?_) (fun c9 => absurd c9 (z_ne (b := 0) (by omega) (by omega) (by omega)))
        refine lv_iconst (v := nI 0) hx hb dL_isAllSomewhere_132 (by decide) ?_
        refine lv_icmp_ne (tgt := 199) hx hb dL_isAllSomewhere_133 (by decide) (fun c9 => absurd (rfl) c9) (fun _ => ?_)
        refine lv_aload_n hx hb dL_isAllSomewhere_136 rfl (lv_at hl 1 rfl) ?_
        refine lv_iload_n hx hb dL_isAllSomewhere_137 rfl (lv_at hl 3 rfl) ?_
        refine g_xcalli (vx_runV (As := [.int (nI i)]) (rest := []) ⟨hx, hb, hml, hown, hts⟩ (c_rangesOf l hl9 D tys [gO h0 lo (nI n) 1] L S H.size (i := 0) rfl hC (nI i) (h_0 hev)) (cwV 1 hts gL_isAllSomewhere_X1_rangesOf rfl rfl rfl (by decide +kernel) ⟨Nat.le_of_ble_eq_true rfl, Nat.le_of_ble_eq_true rfl⟩) (gP_V (va_recv hK hP (ci := 1) rfl (g_inX (X := [gO h0 lo (nI n) 1]) (i := 0) rfl)) hP hK hD gBl_G (fun U hU hW => gG.call hGG hS (gA_sub hD hS hA) U hU hW)) rfl rfl hl.1 rfl (lv_room (Nat.le_of_ble_eq_true rfl)) dL_isAllSomewhere_138 ⟨by show (8 + 6 * i) + 1 + 1 + 1 + 1 ≤ 60; omega, by show (48 + 36 * i) + 6 + 6 + 6 + 6 ≤ 340; omega⟩) hD hS hA (fun E ce q9 u9 H locs hc hP hD hS e1 e2 e3 => False.elim (hc.1.2 (h_gob hi8))) (fun r9 u9 H locs hr9 hP hD hS => ?_)
        obtain ⟨⟨-, hr9⟩, hC⟩ := hr9
        obtain ⟨L, S⟩ := u9
        have hP : va_P D vwCl ([gO h0 lo (nI n) 1] ++ va_pl L (gE S)) H := hP
        have hD : va_D (va_A ([gO h0 lo (nI n) 1] ++ va_pl L0 (gE S0)) s.heap.size) ([gO h0 lo (nI n) 1] ++ va_pl L (gE S)) := hD
        have hr9 : r9 = nI (gbg P (nI i) 5000) := hr9
        subst hr9
        refine lv_aload_n hx hb dL_isAllSomewhere_141 rfl (lv_at hl 1 rfl) ?_
        refine lv_iload_n hx hb dL_isAllSomewhere_142 rfl (lv_at hl 3 rfl) ?_
        refine g_xcalli (vx_runV (As := [.int (nI i)]) (rest := [.int (nI (gbg P (nI i) 5000))]) ⟨hx, hb, hml, hown, hts⟩ (c_inGoblet l hl9 D tys [gO h0 lo (nI n) 1] L S H.size (i := 0) rfl hC (nI i)) (cwV 1 hts gL_isAllSomewhere_X1_inGoblet rfl rfl rfl (by decide +kernel) ⟨Nat.le_of_ble_eq_true rfl, Nat.le_of_ble_eq_true rfl⟩) (gP_V (va_recv hK hP (ci := 1) rfl (g_inX (X := [gO h0 lo (nI n) 1]) (i := 0) rfl)) hP hK hD gBl_G (fun U hU hW => gG.call hGG hS (gA_sub hD hS hA) U hU hW)) rfl rfl hl.1 rfl (lv_room (Nat.le_of_ble_eq_true rfl)) dL_isAllSomewhere_143 ⟨by show (8 + 6 * i) + 1 + 1 + 1 + 1 + 1 ≤ 60; omega, by show (48 + 36 * i) + 6 + 6 + 6 + 6 + 6 ≤ 340; omega⟩) hD hS hA (fun E ce q9 u9 H locs hc hP hD hS e1 e2 e3 => False.elim (hc.1.2 (h_gob hi8))) (fun r9 u9 H locs hr9 hP hD hS => ?_)
        obtain ⟨⟨-, hr9⟩, hC⟩ := hr9
        obtain ⟨L, S⟩ := u9
        have hP : va_P D vwCl ([gO h0 lo (nI n) 1] ++ va_pl L (gE S)) H := hP
        have hD : va_D (va_A ([gO h0 lo (nI n) 1] ++ va_pl L0 (gE S0)) s.heap.size) ([gO h0 lo (nI n) 1] ++ va_pl L (gE S)) := hD
        have hr9 : r9 = nI (gct P (nI i) 5000) := hr9
        subst hr9
        refine lv_icmp_gt (tgt := 199) hx hb dL_isAllSomewhere_146 (by decide) (fun c9 => absurd c9 (z_nlt (by omega) (by omega))) (fun _ => ?_)
        refine lv_iload hx hb dL_isAllSomewhere_149 (lv_at hl 0 rfl) ?_
        refine lv_if_ne (tgt := 172) hx hb dL_isAllSomewhere_151 (by decide) (fun _ => ?_) (fun c9 => absurd c9 (z_ne (b := 0) (by omega) (by omega) (by omega)))
        refine lv_aload_n hx hb dL_isAllSomewhere_172 rfl (lv_at hl 1 rfl) ?_
        refine lv_iload hx hb dL_isAllSomewhere_173 (lv_at hl 0 rfl) ?_
        obtain ⟨g9, hch9, hwf9, hmx9⟩ := id hC
        refine g_calli (va_runV (As := [.int (nI v)]) (rest := []) ⟨hx, hb, hml, hown, hts⟩ (c_place l D tys [gO h0 lo (nI n) 1] L S H.size (i := 0) rfl hwf9 hmx9 hch9 (nI v)) (cwV 1 hts gL_isAllSomewhere_X1_placeOf rfl rfl rfl (by decide +kernel) ⟨Nat.le_of_ble_eq_true rfl, Nat.le_of_ble_eq_true rfl⟩) (gP_V (va_recv hK hP (ci := 1) rfl (g_inX (X := [gO h0 lo (nI n) 1]) (i := 0) rfl)) hP hK hD gBl_N (fun U _ hW => hGG.1.warm hW)) rfl rfl hl.1 rfl (lv_room (Nat.le_of_ble_eq_true rfl)) dL_isAllSomewhere_175 ⟨by show (8 + 6 * i) + 1 + 1 + 1 + 1 + 1 + 0 ≤ 60; omega, by show (48 + 36 * i) + 6 + 6 + 6 + 6 + 6 + 0 ≤ 340; omega⟩) hD hS hA (fun r9 u9 H locs hr9 hP hD hS => ?_)
        have hP : va_P D vwCl ([gO h0 lo (nI n) 1] ++ va_pl L (gE S)) H := hP
        have hD : va_D (va_A ([gO h0 lo (nI n) 1] ++ va_pl L0 (gE S0)) s.heap.size) ([gO h0 lo (nI n) 1] ++ va_pl L (gE S)) := hD
        have hr9 : r9 = P v := rg_place hev (by omega) hr9
        subst hr9
        refine lv_aload_n hx hb dL_isAllSomewhere_178 rfl (lv_at hl 1 rfl) ?_
        refine lv_iload_n hx hb dL_isAllSomewhere_179 rfl (lv_at hl 3 rfl) ?_
        refine g_xcalli (vx_runV (As := [.int (nI i)]) (rest := [.int (P v)]) ⟨hx, hb, hml, hown, hts⟩ (c_inGoblet l hl9 D tys [gO h0 lo (nI n) 1] L S H.size (i := 0) rfl hC (nI i)) (cwV 1 hts gL_isAllSomewhere_X1_inGoblet rfl rfl rfl (by decide +kernel) ⟨Nat.le_of_ble_eq_true rfl, Nat.le_of_ble_eq_true rfl⟩) (gP_V (va_recv hK hP (ci := 1) rfl (g_inX (X := [gO h0 lo (nI n) 1]) (i := 0) rfl)) hP hK hD gBl_G (fun U hU hW => gG.call hGG hS (gA_sub hD hS hA) U hU hW)) rfl rfl hl.1 rfl (lv_room (Nat.le_of_ble_eq_true rfl)) dL_isAllSomewhere_180 ⟨by show (8 + 6 * i) + 1 + 1 + 1 + 1 + 1 + 0 + 1 ≤ 60; omega, by show (48 + 36 * i) + 6 + 6 + 6 + 6 + 6 + 0 + 6 ≤ 340; omega⟩) hD hS hA (fun E ce q9 u9 H locs hc hP hD hS e1 e2 e3 => False.elim (hc.1.2 (h_gob hi8))) (fun r9 u9 H locs hr9 hP hD hS => ?_)
        obtain ⟨⟨-, hr9⟩, hC⟩ := hr9
        obtain ⟨L, S⟩ := u9
        have hP : va_P D vwCl ([gO h0 lo (nI n) 1] ++ va_pl L (gE S)) H := hP
        have hD : va_D (va_A ([gO h0 lo (nI n) 1] ++ va_pl L0 (gE S0)) s.heap.size) ([gO h0 lo (nI n) 1] ++ va_pl L (gE S)) := hD
        have hr9 : r9 = nI (gct P (nI i) 5000) := hr9
        subst hr9
        refine lv_if_ne (tgt := 191) hx hb dL_isAllSomewhere_183 (by decide) (fun _ => ?_) (fun c9 => absurd c9 (z_ne (b := 0) (by omega) (by omega) (by omega)))
        refine lv_iload_n hx hb dL_isAllSomewhere_191 rfl (lv_at hl 3 rfl) ?_
        refine lv_icmp_ne (tgt := 199) hx hb dL_isAllSomewhere_192 (by decide) (fun c9 => absurd (hva.2.2) c9) (fun _ => ?_)
        refine W.widen (k := (8 + 6 * i + 6)) (n := (48 + 36 * i + 36)) (by omega) (by omega) ?_
        exact hj195 L S H locs ls hC hP hD hS (lv_sub hl [1, 2, 3] rfl)
  have hj73 : ∀ (L : List Nat) (S : gS) (H : Heap) (locs : List Loc) (ls : Array Slot), gCh P lo (L, S) → va_P D vwCl ([gO h0 lo (nI n) 1] ++ va_pl L (gE S)) H → va_D (va_A ([gO h0 lo (nI n) 1] ++ va_pl L0 (gE S0)) s.heap.size) ([gO h0 lo (nI n) 1] ++ va_pl L (gE S)) → va_S (va_A ([gO h0 lo (nI n) 1] ++ va_pl L0 (gE S0)) s.heap.size) s.heap H locs → lv_has ls 5 [(0, .ref h0)] → W p l e ({ frames := 9, cells := 60, slots := 340, locals := 200 } : Room) s m ([.ref h0] : List Value).toArray below meth c H locs 8 48 (MQ below (va_Qi (fun (r : Int32) (u : List Nat × gS) => r = nI 1 ∧ gCh P lo u) (fun u t => gWd D tys (va_A ([gO h0 lo (nI n) 1] ++ va_pl L0 (gE S0)) s.heap.size) ([gO h0 lo (nI n) 1] ++ va_pl u.1 (gE u.2)) t) (va_A ([gO h0 lo (nI n) 1] ++ va_pl L0 (gE S0)) s.heap.size)) ([.ref h0] : List Value).toArray s 60 340 (va_A ([gO h0 lo (nI n) 1] ++ va_pl L0 (gE S0)) s.heap.size)) (F0 m 73 ls []) := by
    intro L S H locs ls hC hP hD hS hl
    refine lv_aload_n hx hb dL_isAllSomewhere_73 rfl (lv_at hl 0 rfl) ?_
    refine lv_iconst (v := nI 1) hx hb dL_isAllSomewhere_74 (by decide) ?_
    obtain ⟨g9, hch9, hwf9, hmx9⟩ := id hC
    refine g_calli (va_runV (As := [.int (nI 1)]) (rest := []) ⟨hx, hb, hml, hown, hts⟩ (c_place l D tys [gO h0 lo (nI n) 1] L S H.size (i := 0) rfl hwf9 hmx9 hch9 (nI 1)) (cwV 1 hts gL_isAllSomewhere_X1_placeOf rfl rfl rfl (by decide +kernel) ⟨Nat.le_of_ble_eq_true rfl, Nat.le_of_ble_eq_true rfl⟩) (gP_V (va_recv hK hP (ci := 1) rfl (g_inX (X := [gO h0 lo (nI n) 1]) (i := 0) rfl)) hP hK hD gBl_N (fun U _ hW => hGG.1.warm hW)) rfl rfl hl.1 rfl (lv_room (Nat.le_of_ble_eq_true rfl)) dL_isAllSomewhere_75 ⟨by show 8 + 0 ≤ 60; omega, by show 48 + 0 ≤ 340; omega⟩) hD hS hA (fun r9 u9 H locs hr9 hP hD hS => ?_)
    have hP : va_P D vwCl ([gO h0 lo (nI n) 1] ++ va_pl L (gE S)) H := hP
    have hD : va_D (va_A ([gO h0 lo (nI n) 1] ++ va_pl L0 (gE S0)) s.heap.size) ([gO h0 lo (nI n) 1] ++ va_pl L (gE S)) := hD
    have hr9 : r9 = P 1 := rg_place hev (by omega) hr9
    subst hr9
    refine lv_iconst (v := -1) hx hb dL_isAllSomewhere_78 (by decide) ?_
    refine lv_icmp_eq (tgt := 86) hx hb dL_isAllSomewhere_79 (by decide) (fun c9 => absurd c9 (hP1)) (fun _ => ?_)
    refine lv_iconst (v := nI 1) hx hb dL_isAllSomewhere_82 (by decide) ?_
    refine lv_goto (tgt := 87) hx hb dL_isAllSomewhere_83 (by decide) ?_
    refine lv_istore_n (lv' := [(2, .int (nI 1)), (0, .ref h0)]) hx hb dL_isAllSomewhere_87 rfl hl (by decide) rfl (fun ls hl => ?_)
    refine lv_iconst (v := nI 0) hx hb dL_isAllSomewhere_88 (by decide) ?_
    refine lv_istore_n (lv' := [(3, .int (nI 0)), (2, .int (nI 1)), (0, .ref h0)]) hx hb dL_isAllSomewhere_89 rfl hl (by decide) rfl (fun ls hl => ?_)
    refine W.widen (k := (8 + 6 * 0)) (n := (48 + 36 * 0)) (by omega) (by omega) ?_
    exact hloop 8 0 L S H locs ls rfl hC hP hD hS (lv_sub hl [2, 1, 0] rfl)
  refine lv_aload_n hx hb dL_isAllSomewhere_0 rfl (lv_at hl 0 rfl) ?_
  obtain ⟨g9, hch9, hwf9, hmx9⟩ := id hC
  refine g_calli (va_runV (As := []) (rest := []) ⟨hx, hb, hml, hown, hts⟩ (c_left l D tys [gO h0 lo (nI n) 1] L0 S0 s.heap.size (i := 0) rfl hwf9 hmx9 hch9) (cwV 0 hts gL_isAllSomewhere_X1_lowestLeft rfl rfl rfl (by decide +kernel) ⟨Nat.le_of_ble_eq_true rfl, Nat.le_of_ble_eq_true rfl⟩) (gP_V (va_recv hK hP (ci := 1) rfl (g_inX (X := [gO h0 lo (nI n) 1]) (i := 0) rfl)) hP hK hD gBl_N (fun U _ hW => hGG.1.warm hW)) rfl rfl hl.1 rfl (lv_room (Nat.le_of_ble_eq_true rfl)) dL_isAllSomewhere_1 ⟨by show 0 + 0 ≤ 60; omega, by show 0 + 0 ≤ 340; omega⟩) hD hS hA (fun r9 u9 H locs hr9 hP hD hS => ?_)
  have hP : va_P D vwCl ([gO h0 lo (nI n) 1] ++ va_pl L0 (gE S0)) H := hP
  have hD : va_D (va_A ([gO h0 lo (nI n) 1] ++ va_pl L0 (gE S0)) s.heap.size) ([gO h0 lo (nI n) 1] ++ va_pl L0 (gE S0)) := hD
  obtain ⟨v, rfl, hv⟩ := hr9
  have hv1 := left_ct hev hv
  have hv2 := glow_le hv
  refine lv_istore_n (lv' := [(1, .int (nI v)), (0, .ref h0)]) hx hb dL_isAllSomewhere_4 rfl hl (by decide) rfl (fun ls hl => ?_)
  refine lv_aload_n hx hb dL_isAllSomewhere_5 rfl (lv_at hl 1 rfl) ?_
  refine g_calli (va_runV (As := []) (rest := []) ⟨hx, hb, hml, hown, hts⟩ (c_inJug l D tys [gO h0 lo (nI n) 1] L0 S0 H.size (i := 0) rfl hC) (cwV 0 hts gL_isAllSomewhere_X1_inJug rfl rfl rfl (by decide +kernel) ⟨Nat.le_of_ble_eq_true rfl, Nat.le_of_ble_eq_true rfl⟩) (gP_V (va_recv hK hP (ci := 1) rfl (g_inX (X := [gO h0 lo (nI n) 1]) (i := 0) rfl)) hP hK hD gBl_N (fun U _ hW => hGG.1.warm hW)) rfl rfl hl.1 rfl (lv_room (Nat.le_of_ble_eq_true rfl)) dL_isAllSomewhere_6 ⟨by show 0 + 0 + 0 ≤ 60; omega, by show 0 + 0 + 0 ≤ 340; omega⟩) hD hS hA (fun r9 u9 H locs hr9 hP hD hS => ?_)
  have hP : va_P D vwCl ([gO h0 lo (nI n) 1] ++ va_pl L0 (gE S0)) H := hP
  have hD : va_D (va_A ([gO h0 lo (nI n) 1] ++ va_pl L0 (gE S0)) s.heap.size) ([gO h0 lo (nI n) 1] ++ va_pl L0 (gE S0)) := hD
  have hr9 : r9 = nI (gct P 8 5000) := hr9
  subst hr9
  refine lv_aload_n hx hb dL_isAllSomewhere_9 rfl (lv_at hl 1 rfl) ?_
  refine g_calli (va_runS (As := [.ref h0]) (rest := [.int (nI (gct P 8 5000))]) ⟨hx, hb, hml, hown, hts⟩ (w_inGoblets l hl9 D tys L0 S0 H.size hC hI) (va_cwS 1 hts gL_isAllSomewhere_L_inGoblets rfl rfl rfl (by decide +kernel) ⟨Nat.le_of_ble_eq_true rfl, Nat.le_of_ble_eq_true rfl⟩) (gP_S hP hK hD gBl_G (fun U hU hW => gG.call hGG hS (gA_sub hD hS hA) U hU hW)) rfl rfl hl.1 rfl (lv_room (Nat.le_of_ble_eq_true rfl)) dL_isAllSomewhere_10 ⟨by show 0 + 0 + 0 + 8 ≤ 60; omega, by show 0 + 0 + 0 + 48 ≤ 340; omega⟩) hD hS hA (fun r9 u9 H locs hr9 hP hD hS => ?_)
  obtain ⟨hr9, hC⟩ := hr9
  obtain ⟨L, S⟩ := u9
  have hP : va_P D vwCl ([gO h0 lo (nI n) 1] ++ va_pl L (gE S)) H := hP
  have hD : va_D (va_A ([gO h0 lo (nI n) 1] ++ va_pl L0 (gE S0)) s.heap.size) ([gO h0 lo (nI n) 1] ++ va_pl L (gE S)) := hD
  have hr9 : r9 = nI (gsum (fun q => gct P (nI q) 5000) 8) := hr9
  subst hr9
  refine lv_iadd hx hb dL_isAllSomewhere_13 ?_
  refine g_top (y := nI ((gct P 8 5000) + (gsum (fun q => gct P (nI q) 5000) 8))) (nI_add _ _) ?_
  refine lv_aload_n hx hb dL_isAllSomewhere_14 rfl (lv_at hl 1 rfl) ?_
  refine g_calli (va_runV (As := []) (rest := [.int (nI ((gct P 8 5000) + (gsum (fun q => gct P (nI q) 5000) 8)))]) ⟨hx, hb, hml, hown, hts⟩ (c_drunk l D tys [gO h0 lo (nI n) 1] L S H.size (i := 0) rfl hC) (cwV 0 hts gL_isAllSomewhere_X1_drunk rfl rfl rfl (by decide +kernel) ⟨Nat.le_of_ble_eq_true rfl, Nat.le_of_ble_eq_true rfl⟩) (gP_V (va_recv hK hP (ci := 1) rfl (g_inX (X := [gO h0 lo (nI n) 1]) (i := 0) rfl)) hP hK hD gBl_N (fun U _ hW => hGG.1.warm hW)) rfl rfl hl.1 rfl (lv_room (Nat.le_of_ble_eq_true rfl)) dL_isAllSomewhere_15 ⟨by show 0 + 0 + 0 + 8 + 0 ≤ 60; omega, by show 0 + 0 + 0 + 48 + 0 ≤ 340; omega⟩) hD hS hA (fun r9 u9 H locs hr9 hP hD hS => ?_)
  have hP : va_P D vwCl ([gO h0 lo (nI n) 1] ++ va_pl L (gE S)) H := hP
  have hD : va_D (va_A ([gO h0 lo (nI n) 1] ++ va_pl L0 (gE S0)) s.heap.size) ([gO h0 lo (nI n) 1] ++ va_pl L (gE S)) := hD
  have hr9 : r9 = nI (gct P 9 5000) := hr9
  subst hr9
  refine lv_iadd hx hb dL_isAllSomewhere_18 ?_
  refine g_top (y := nI (((gct P 8 5000) + (gsum (fun q => gct P (nI q) 5000) 8)) + (gct P 9 5000))) (nI_add _ _) ?_
  refine lv_aload_n hx hb dL_isAllSomewhere_19 rfl (lv_at hl 1 rfl) ?_
  refine g_calli (va_runV (As := []) (rest := [.int (nI (((gct P 8 5000) + (gsum (fun q => gct P (nI q) 5000) 8)) + (gct P 9 5000)))]) ⟨hx, hb, hml, hown, hts⟩ (c_spilt l D tys [gO h0 lo (nI n) 1] L S H.size (i := 0) rfl hC) (cwV 0 hts gL_isAllSomewhere_X1_spilt rfl rfl rfl (by decide +kernel) ⟨Nat.le_of_ble_eq_true rfl, Nat.le_of_ble_eq_true rfl⟩) (gP_V (va_recv hK hP (ci := 1) rfl (g_inX (X := [gO h0 lo (nI n) 1]) (i := 0) rfl)) hP hK hD gBl_N (fun U _ hW => hGG.1.warm hW)) rfl rfl hl.1 rfl (lv_room (Nat.le_of_ble_eq_true rfl)) dL_isAllSomewhere_20 ⟨by show 0 + 0 + 0 + 8 + 0 + 0 ≤ 60; omega, by show 0 + 0 + 0 + 48 + 0 + 0 ≤ 340; omega⟩) hD hS hA (fun r9 u9 H locs hr9 hP hD hS => ?_)
  have hP : va_P D vwCl ([gO h0 lo (nI n) 1] ++ va_pl L (gE S)) H := hP
  have hD : va_D (va_A ([gO h0 lo (nI n) 1] ++ va_pl L0 (gE S0)) s.heap.size) ([gO h0 lo (nI n) 1] ++ va_pl L (gE S)) := hD
  have hr9 : r9 = nI (gct P 10 5000) := hr9
  subst hr9
  refine lv_iadd hx hb dL_isAllSomewhere_23 ?_
  refine g_top (y := nI ((((gct P 8 5000) + (gsum (fun q => gct P (nI q) 5000) 8)) + (gct P 9 5000)) + (gct P 10 5000))) (nI_add _ _) ?_
  refine lv_aload_n hx hb dL_isAllSomewhere_24 rfl (lv_at hl 1 rfl) ?_
  refine g_calli (va_runV (As := []) (rest := [.int (nI ((((gct P 8 5000) + (gsum (fun q => gct P (nI q) 5000) 8)) + (gct P 9 5000)) + (gct P 10 5000)))]) ⟨hx, hb, hml, hown, hts⟩ (c_size l D tys [gO h0 lo (nI n) 1] L S H.size (i := 0) rfl hC) (cwV 0 hts gL_isAllSomewhere_X1_size rfl rfl rfl (by decide +kernel) ⟨Nat.le_of_ble_eq_true rfl, Nat.le_of_ble_eq_true rfl⟩) (gP_V (va_recv hK hP (ci := 1) rfl (g_inX (X := [gO h0 lo (nI n) 1]) (i := 0) rfl)) hP hK hD gBl_N (fun U _ hW => hGG.1.warm hW)) rfl rfl hl.1 rfl (lv_room (Nat.le_of_ble_eq_true rfl)) dL_isAllSomewhere_25 ⟨by show 0 + 0 + 0 + 8 + 0 + 0 + 0 ≤ 60; omega, by show 0 + 0 + 0 + 48 + 0 + 0 + 0 ≤ 340; omega⟩) hD hS hA (fun r9 u9 H locs hr9 hP hD hS => ?_)
  have hP : va_P D vwCl ([gO h0 lo (nI n) 1] ++ va_pl L (gE S)) H := hP
  have hD : va_D (va_A ([gO h0 lo (nI n) 1] ++ va_pl L0 (gE S0)) s.heap.size) ([gO h0 lo (nI n) 1] ++ va_pl L (gE S)) := hD
  have hr9 : r9 = nI n := hr9
  subst hr9
  refine lv_icmp_ne (tgt := 86) hx hb dL_isAllSomewhere_28 (by decide) (fun c9 => absurd (z_eq (by omega)) c9) (fun _ => ?_)
  refine lv_iload_n hx hb dL_isAllSomewhere_31 rfl (lv_at hl 0 rfl) ?_
  by_cases hv0 : v = 0
  · have hd := hv1.mp hv0
    refine lv_if_ne (tgt := 39) hx hb dL_isAllSomewhere_32 (by decide) (fun c9 => absurd (z_eq hv0) c9) (fun _ => ?_)
    refine lv_iconst (v := nI 1) hx hb dL_isAllSomewhere_35 (by decide) ?_
    refine lv_goto (tgt := 40) hx hb dL_isAllSomewhere_36 (by decide) ?_
    refine lv_aload_n hx hb dL_isAllSomewhere_40 rfl (lv_at hl 1 rfl) ?_
    refine g_calli (va_runV (As := []) (rest := [.int (nI 1)]) ⟨hx, hb, hml, hown, hts⟩ (c_drunk l D tys [gO h0 lo (nI n) 1] L S H.size (i := 0) rfl hC) (cwV 0 hts gL_isAllSomewhere_X1_drunk rfl rfl rfl (by decide +kernel) ⟨Nat.le_of_ble_eq_true rfl, Nat.le_of_ble_eq_true rfl⟩) (gP_V (va_recv hK hP (ci := 1) rfl (g_inX (X := [gO h0 lo (nI n) 1]) (i := 0) rfl)) hP hK hD gBl_N (fun U _ hW => hGG.1.warm hW)) rfl rfl hl.1 rfl (lv_room (Nat.le_of_ble_eq_true rfl)) dL_isAllSomewhere_41 ⟨by show 0 + 0 + 0 + 8 + 0 + 0 + 0 + 0 ≤ 60; omega, by show 0 + 0 + 0 + 48 + 0 + 0 + 0 + 0 ≤ 340; omega⟩) hD hS hA (fun r9 u9 H locs hr9 hP hD hS => ?_)
    have hP : va_P D vwCl ([gO h0 lo (nI n) 1] ++ va_pl L (gE S)) H := hP
    have hD : va_D (va_A ([gO h0 lo (nI n) 1] ++ va_pl L0 (gE S0)) s.heap.size) ([gO h0 lo (nI n) 1] ++ va_pl L (gE S)) := hD
    have hr9 : r9 = nI (gct P 9 5000) := hr9
    subst hr9
    refine lv_aload_n hx hb dL_isAllSomewhere_44 rfl (lv_at hl 1 rfl) ?_
    refine g_calli (va_runV (As := []) (rest := [.int (nI (gct P 9 5000)), .int (nI 1)]) ⟨hx, hb, hml, hown, hts⟩ (c_size l D tys [gO h0 lo (nI n) 1] L S H.size (i := 0) rfl hC) (cwV 0 hts gL_isAllSomewhere_X1_size rfl rfl rfl (by decide +kernel) ⟨Nat.le_of_ble_eq_true rfl, Nat.le_of_ble_eq_true rfl⟩) (gP_V (va_recv hK hP (ci := 1) rfl (g_inX (X := [gO h0 lo (nI n) 1]) (i := 0) rfl)) hP hK hD gBl_N (fun U _ hW => hGG.1.warm hW)) rfl rfl hl.1 rfl (lv_room (Nat.le_of_ble_eq_true rfl)) dL_isAllSomewhere_45 ⟨by show 0 + 0 + 0 + 8 + 0 + 0 + 0 + 0 + 0 ≤ 60; omega, by show 0 + 0 + 0 + 48 + 0 + 0 + 0 + 0 + 0 ≤ 340; omega⟩) hD hS hA (fun r9 u9 H locs hr9 hP hD hS => ?_)
    have hP : va_P D vwCl ([gO h0 lo (nI n) 1] ++ va_pl L (gE S)) H := hP
    have hD : va_D (va_A ([gO h0 lo (nI n) 1] ++ va_pl L0 (gE S0)) s.heap.size) ([gO h0 lo (nI n) 1] ++ va_pl L (gE S)) := hD
    have hr9 : r9 = nI n := hr9
    subst hr9
    refine lv_icmp_ne (tgt := 55) hx hb dL_isAllSomewhere_48 (by decide) (fun c9 => absurd (z_eq hd) c9) (fun _ => ?_)
    refine lv_iconst (v := nI 1) hx hb dL_isAllSomewhere_51 (by decide) ?_
    refine lv_goto (tgt := 56) hx hb dL_isAllSomewhere_52 (by decide) ?_
    refine lv_icmp_ne (tgt := 86) hx hb dL_isAllSomewhere_56 (by decide) (fun c9 => absurd (rfl) c9) (fun _ => ?_)
    refine lv_iload_n hx hb dL_isAllSomewhere_59 rfl (lv_at hl 0 rfl) ?_
    refine lv_if_eq (tgt := 73) hx hb dL_isAllSomewhere_60 (by decide) (fun _ => ?_) (fun c9 => absurd (z_eq hv0) c9)
    refine W.widen (k := 8) (n := 48) (by omega) (by omega) ?_
    exact hj73 L S H locs ls hC hP hD hS (lv_sub hl [1] rfl)
  · have hd : ¬ gct P 9 5000 = n := fun z => hv0 (hv1.mpr z)
    have hd2 := h_few hev (k := 9) (by omega)
    have hd2 : gct P 9 5000 ≤ n := hd2
    have h9 : ¬ P v = 9 := by rcases hv with ⟨y, -⟩ | ⟨-, -, y, -⟩; exact absurd y hv0; exact y.1
    refine lv_if_ne (tgt := 39) hx hb dL_isAllSomewhere_32 (by decide) (fun _ => ?_) (fun c9 => absurd c9 (z_ne (b := 0) (by omega) (by omega) hv0))
    refine lv_iconst (v := nI 0) hx hb dL_isAllSomewhere_39 (by decide) ?_
    refine lv_aload_n hx hb dL_isAllSomewhere_40 rfl (lv_at hl 1 rfl) ?_
    refine g_calli (va_runV (As := []) (rest := [.int (nI 0)]) ⟨hx, hb, hml, hown, hts⟩ (c_drunk l D tys [gO h0 lo (nI n) 1] L S H.size (i := 0) rfl hC) (cwV 0 hts gL_isAllSomewhere_X1_drunk rfl rfl rfl (by decide +kernel) ⟨Nat.le_of_ble_eq_true rfl, Nat.le_of_ble_eq_true rfl⟩) (gP_V (va_recv hK hP (ci := 1) rfl (g_inX (X := [gO h0 lo (nI n) 1]) (i := 0) rfl)) hP hK hD gBl_N (fun U _ hW => hGG.1.warm hW)) rfl rfl hl.1 rfl (lv_room (Nat.le_of_ble_eq_true rfl)) dL_isAllSomewhere_41 ⟨by show 0 + 0 + 0 + 8 + 0 + 0 + 0 + 0 ≤ 60; omega, by show 0 + 0 + 0 + 48 + 0 + 0 + 0 + 0 ≤ 340; omega⟩) hD hS hA (fun r9 u9 H locs hr9 hP hD hS => ?_)
    have hP : va_P D vwCl ([gO h0 lo (nI n) 1] ++ va_pl L (gE S)) H := hP
    have hD : va_D (va_A ([gO h0 lo (nI n) 1] ++ va_pl L0 (gE S0)) s.heap.size) ([gO h0 lo (nI n) 1] ++ va_pl L (gE S)) := hD
    have hr9 : r9 = nI (gct P 9 5000) := hr9
    subst hr9
    refine lv_aload_n hx hb dL_isAllSomewhere_44 rfl (lv_at hl 1 rfl) ?_
    refine g_calli (va_runV (As := []) (rest := [.int (nI (gct P 9 5000)), .int (nI 0)]) ⟨hx, hb, hml, hown, hts⟩ (c_size l D tys [gO h0 lo (nI n) 1] L S H.size (i := 0) rfl hC) (cwV 0 hts gL_isAllSomewhere_X1_size rfl rfl rfl (by decide +kernel) ⟨Nat.le_of_ble_eq_true rfl, Nat.le_of_ble_eq_true rfl⟩) (gP_V (va_recv hK hP (ci := 1) rfl (g_inX (X := [gO h0 lo (nI n) 1]) (i := 0) rfl)) hP hK hD gBl_N (fun U _ hW => hGG.1.warm hW)) rfl rfl hl.1 rfl (lv_room (Nat.le_of_ble_eq_true rfl)) dL_isAllSomewhere_45 ⟨by show 0 + 0 + 0 + 8 + 0 + 0 + 0 + 0 + 0 ≤ 60; omega, by show 0 + 0 + 0 + 48 + 0 + 0 + 0 + 0 + 0 ≤ 340; omega⟩) hD hS hA (fun r9 u9 H locs hr9 hP hD hS => ?_)
    have hP : va_P D vwCl ([gO h0 lo (nI n) 1] ++ va_pl L (gE S)) H := hP
    have hD : va_D (va_A ([gO h0 lo (nI n) 1] ++ va_pl L0 (gE S0)) s.heap.size) ([gO h0 lo (nI n) 1] ++ va_pl L (gE S)) := hD
    have hr9 : r9 = nI n := hr9
    subst hr9
    refine lv_icmp_ne (tgt := 55) hx hb dL_isAllSomewhere_48 (by decide) (fun _ => ?_) (fun c9 => absurd c9 (z_ne (by omega) (by omega) hd))
    refine lv_iconst (v := nI 0) hx hb dL_isAllSomewhere_55 (by decide) ?_
    refine lv_icmp_ne (tgt := 86) hx hb dL_isAllSomewhere_56 (by decide) (fun c9 => absurd (rfl) c9) (fun _ => ?_)
    refine lv_iload_n hx hb dL_isAllSomewhere_59 rfl (lv_at hl 0 rfl) ?_
    refine lv_if_eq (tgt := 73) hx hb dL_isAllSomewhere_60 (by decide) (fun c9 => absurd c9 (z_ne (b := 0) (by omega) (by omega) hv0)) (fun _ => ?_)
    refine lv_aload_n hx hb dL_isAllSomewhere_63 rfl (lv_at hl 1 rfl) ?_
    refine lv_iload_n hx hb dL_isAllSomewhere_64 rfl (lv_at hl 0 rfl) ?_
    obtain ⟨g9, hch9, hwf9, hmx9⟩ := id hC
    refine g_calli (va_runV (As := [.int (nI v)]) (rest := []) ⟨hx, hb, hml, hown, hts⟩ (c_place l D tys [gO h0 lo (nI n) 1] L S H.size (i := 0) rfl hwf9 hmx9 hch9 (nI v)) (cwV 1 hts gL_isAllSomewhere_X1_placeOf rfl rfl rfl (by decide +kernel) ⟨Nat.le_of_ble_eq_true rfl, Nat.le_of_ble_eq_true rfl⟩) (gP_V (va_recv hK hP (ci := 1) rfl (g_inX (X := [gO h0 lo (nI n) 1]) (i := 0) rfl)) hP hK hD gBl_N (fun U _ hW => hGG.1.warm hW)) rfl rfl hl.1 rfl (lv_room (Nat.le_of_ble_eq_true rfl)) dL_isAllSomewhere_65 ⟨by show 0 + 0 + 0 + 8 + 0 + 0 + 0 + 0 + 0 + 0 ≤ 60; omega, by show 0 + 0 + 0 + 48 + 0 + 0 + 0 + 0 + 0 + 0 ≤ 340; omega⟩) hD hS hA (fun r9 u9 H locs hr9 hP hD hS => ?_)
    have hP : va_P D vwCl ([gO h0 lo (nI n) 1] ++ va_pl L (gE S)) H := hP
    have hD : va_D (va_A ([gO h0 lo (nI n) 1] ++ va_pl L0 (gE S0)) s.heap.size) ([gO h0 lo (nI n) 1] ++ va_pl L (gE S)) := hD
    have hr9 : r9 = P v := rg_place hev (by omega) hr9
    subst hr9
    refine lv_bipush (v := nI 9) hx hb dL_isAllSomewhere_68 (by decide) ?_
    refine lv_icmp_eq (tgt := 86) hx hb dL_isAllSomewhere_70 (by decide) (fun c9 => absurd c9 (h9)) (fun _ => ?_)
    refine W.widen (k := 8) (n := 48) (by omega) (by omega) ?_
    exact hj73 L S H locs ls hC hP hD hS (lv_sub hl [1] rfl)
