/-! p25: areRangesApart -/
set_option maxHeartbeats 4000000 in
set_option maxRecDepth 100000 in
/-- areRangesApart: the ranges of the jug rise and do not touch -/
theorem w_areRangesApart (l : Launch) (hl9 : l.stackTraces = false) (D : va_G) (tys : List (ClassId × FieldType)) (L0 : List Nat) (S0 : gS) (sz : Nat) {P : Nat → Int32} {n h0 lo : Nat} (hC : gCh P lo (L0, S0)) (hI : gInv P n)  : Met l yL_areRangesApart wsL_areRangesApart ({ frames := 8, cells := 450, slots := 2700, locals := 200 } : Room) (gP D tys [.ref h0] ([gO h0 lo (nI n) 1] ++ va_pl L0 (gE S0)) sz (gG (va_A ([gO h0 lo (nI n) 1] ++ va_pl L0 (gE S0)) sz))) (va_Qi (fun (r : Int32) (u : List Nat × gS) => r = nI 1 ∧ gCh P lo u) (fun u t => gWd D tys (va_A ([gO h0 lo (nI n) 1] ++ va_pl L0 (gE S0)) sz) ([gO h0 lo (nI n) 1] ++ va_pl u.1 (gE u.2)) t) (va_A ([gO h0 lo (nI n) 1] ++ va_pl L0 (gE S0)) sz)) 450 2700 (va_A ([gO h0 lo (nI n) 1] ++ va_pl L0 (gE S0)) sz) := by
  refine g_ofW (cc := cL_areRangesApart) (maxL := 10) (ret := some .boolean) (by decide) rfl (Nat.le_of_ble_eq_true rfl) ?_
  intro p e s m below meth c hx hb hr hml hts hown hlocks hin hsz hP hK hD hA hS hGG ls hl
  subst hsz
  have hown : s.vm.findClass RL = some m.cls := hown
  have hev := hI.1
  have hn1 := hI.1.1
  have hn2 := hI.2.1
  have hl : lv_has ls 10 [(0, .ref h0)] := hl
  have hR := h_fewR hev (k := 8) (by omega)
  have hR : gbg P 8 5000 ≤ n := hR
  have h00 := h_0n hev
  have hloop : ∀ (lv : Int32) (mo : Nat) (hmo : mo ≤ 5000) (hM : (∀ i a b, gRg P i a b → b - a + 1 ≤ mo ∧ (nI i < lv → b - a + 1 < mo))) (d i e9 : Nat) (bv : Int32) (L : List Nat) (S : gS) (H : Heap) (locs : List Loc) (ls : Array Slot), i + d = gbg P 8 5000 → gbg P 8 e9 = i → e9 ≤ 5000 → ¬ (P e9 = 8 ∧ P (e9 + 1) = 8) → ((bv = -1 ∧ e9 = 0) ∨ (bv = nI e9 ∧ ¬ P (e9 + 1) = 8)) → gCh P lo (L, S) → va_P D vwCl ([gO h0 lo (nI n) 1] ++ va_pl L (gE S)) H → va_D (va_A ([gO h0 lo (nI n) 1] ++ va_pl L0 (gE S0)) s.heap.size) ([gO h0 lo (nI n) 1] ++ va_pl L (gE S)) → va_S (va_A ([gO h0 lo (nI n) 1] ++ va_pl L0 (gE S0)) s.heap.size) s.heap H locs → lv_has ls 10 [(0, .ref h0), (1, .int (nI (gct P 8 e9))), (2, .int bv), (3, .int lv), (4, .int (nI mo)), (5, .int (nI 1)), (6, .int (nI i))] → W p l e ({ frames := 8, cells := 450, slots := 2700, locals := 200 } : Room) s m ([.ref h0] : List Value).toArray below meth c H locs (2 + 2 * i) (12 + 12 * i) (MQ below (va_Qi (fun (r : Int32) (u : List Nat × gS) => r = nI 1 ∧ gCh P lo u) (fun u t => gWd D tys (va_A ([gO h0 lo (nI n) 1] ++ va_pl L0 (gE S0)) s.heap.size) ([gO h0 lo (nI n) 1] ++ va_pl u.1 (gE u.2)) t) (va_A ([gO h0 lo (nI n) 1] ++ va_pl L0 (gE S0)) s.heap.size)) ([.ref h0] : List Value).toArray s 450 2700 (va_A ([gO h0 lo (nI n) 1] ++ va_pl L0 (gE S0)) s.heap.size)) (F0 m 66 ls []) := by
    intro lv mo hmo hM d
    induction d with
    | zero =>
      intro i e9 bv L S H locs ls hi he1 he2 he3 he4 hC hP hD hS hl
      have hlast := rg_last he2 (by omega) he3
      have hfew := h_few hev (k := 8) (by omega)
      refine lv_iload hx hb dL_areRangesApart_66 (lv_at hl 6 rfl) ?_
      refine lv_aload_n hx hb dL_areRangesApart_68 rfl (lv_at hl 0 rfl) ?_
      refine g_calli (va_runV (As := []) (rest := [.int (nI i)]) ⟨hx, hb, hml, hown, hts⟩ (c_rangesP l D tys [gO h0 lo (nI n) 1] L S H.size (i := 0) rfl hC (h_0 hev)) (cwV 0 hts gL_areRangesApart_X1_ranges rfl rfl rfl (by decide +kernel) ⟨Nat.le_of_ble_eq_true rfl, Nat.le_of_ble_eq_true rfl⟩) (gP_V (va_recv hK hP (ci := 1) rfl (g_inX (X := [gO h0 lo (nI n) 1]) (i := 0) rfl)) hP hK hD gBl_N (fun U _ hW => hGG.1.warm hW)) rfl rfl hl.1 rfl (lv_room (Nat.le_of_ble_eq_true rfl)) dL_areRangesApart_69 ⟨by show (2 + 2 * i) + 0 ≤ 450; omega, by show (12 + 12 * i) + 0 ≤ 2700; omega⟩) hD hS hA (fun r9 u9 H locs hr9 hP hD hS => ?_)
      have hP : va_P D vwCl ([gO h0 lo (nI n) 1] ++ va_pl L (gE S)) H := hP
      have hD : va_D (va_A ([gO h0 lo (nI n) 1] ++ va_pl L0 (gE S0)) s.heap.size) ([gO h0 lo (nI n) 1] ++ va_pl L (gE S)) := hD
      have hr9 : r9 = nI (gbg P 8 5000) := hr9
      subst hr9
      refine lv_icmp_ge (tgt := 221) hx hb dL_areRangesApart_72 (by decide) (fun _ => ?_) (fun c9 => absurd (z_le (by omega) (by omega)) c9)
      refine lv_iload hx hb dL_areRangesApart_221 (lv_at hl 5 rfl) ?_
      refine lv_if_eq (tgt := 238) hx hb dL_areRangesApart_223 (by decide) (fun c9 => absurd c9 (by decide)) (fun _ => ?_)
      refine lv_iload_n hx hb dL_areRangesApart_226 rfl (lv_at hl 1 rfl) ?_
      refine lv_aload_n hx hb dL_areRangesApart_227 rfl (lv_at hl 0 rfl) ?_
      refine g_calli (va_runV (As := []) (rest := [.int (nI (gct P 8 e9))]) ⟨hx, hb, hml, hown, hts⟩ (c_inJug l D tys [gO h0 lo (nI n) 1] L S H.size (i := 0) rfl hC) (cwV 0 hts gL_areRangesApart_X1_inJug rfl rfl rfl (by decide +kernel) ⟨Nat.le_of_ble_eq_true rfl, Nat.le_of_ble_eq_true rfl⟩) (gP_V (va_recv hK hP (ci := 1) rfl (g_inX (X := [gO h0 lo (nI n) 1]) (i := 0) rfl)) hP hK hD gBl_N (fun U _ hW => hGG.1.warm hW)) rfl rfl hl.1 rfl (lv_room (Nat.le_of_ble_eq_true rfl)) dL_areRangesApart_228 ⟨by show (2 + 2 * i) + 0 + 0 ≤ 450; omega, by show (12 + 12 * i) + 0 + 0 ≤ 2700; omega⟩) hD hS hA (fun r9 u9 H locs hr9 hP hD hS => ?_)
      have hP : va_P D vwCl ([gO h0 lo (nI n) 1] ++ va_pl L (gE S)) H := hP
      have hD : va_D (va_A ([gO h0 lo (nI n) 1] ++ va_pl L0 (gE S0)) s.heap.size) ([gO h0 lo (nI n) 1] ++ va_pl L (gE S)) := hD
      have hr9 : r9 = nI (gct P 8 5000) := hr9
      subst hr9
      refine lv_icmp_ne (tgt := 238) hx hb dL_areRangesApart_231 (by decide) (fun c9 => absurd (z_eq hlast.symm) c9) (fun _ => ?_)
      refine lv_iconst (v := nI 1) hx hb dL_areRangesApart_234 (by decide) ?_
      refine lv_goto (tgt := 239) hx hb dL_areRangesApart_235 (by decide) ?_
      exact g_retz (wo := fun u : List Nat × gS => [gO h0 lo (nI n) 1] ++ va_pl u.1 (gE u.2)) hx hb hr hlocks hK (nI 1) rfl (L, S) hP hD hS (by omega) (by omega) ⟨rfl, hC⟩ dL_areRangesApart_239
    | succ d ih =>
      intro i e9 bv L S H locs ls hi he1 he2 he3 he4 hC hP hD hS hl
      obtain ⟨a, b, hrg, hbn⟩ := rg_ex hev (k := i) (by omega)
      obtain ⟨q1, q2, q3, q4, q5, q6, q7⟩ := id hrg
      have hpa : P a = 8 := q4 a (Nat.le_refl _) q2
      have hpb : P b = 8 := q4 b q2 (Nat.le_refl _)
      obtain ⟨hea, hect, heb⟩ := rg_next hrg he1 he3
      have hMi := hM i a b hrg
      obtain ⟨c, hc1, hc2⟩ : ∃ c : Nat, bv + nI 1 = nI c ∧ c < a := by
        rcases he4 with ⟨z1, z2⟩ | ⟨z1, z2⟩
        · exact ⟨0, by rw [z1]; decide, by omega⟩
        · refine ⟨e9 + 1, by rw [z1]; exact nI_add _ _, ?_⟩
          have : ¬ e9 + 1 = a := fun z => z2 (by rw [z]; exact hpa)
          omega
      refine lv_iload hx hb dL_areRangesApart_66 (lv_at hl 6 rfl) ?_
      refine lv_aload_n hx hb dL_areRangesApart_68 rfl (lv_at hl 0 rfl) ?_
      refine g_calli (va_runV (As := []) (rest := [.int (nI i)]) ⟨hx, hb, hml, hown, hts⟩ (c_rangesP l D tys [gO h0 lo (nI n) 1] L S H.size (i := 0) rfl hC (h_0 hev)) (cwV 0 hts gL_areRangesApart_X1_ranges rfl rfl rfl (by decide +kernel) ⟨Nat.le_of_ble_eq_true rfl, Nat.le_of_ble_eq_true rfl⟩) (gP_V (va_recv hK hP (ci := 1) rfl (g_inX (X := [gO h0 lo (nI n) 1]) (i := 0) rfl)) hP hK hD gBl_N (fun U _ hW => hGG.1.warm hW)) rfl rfl hl.1 rfl (lv_room (Nat.le_of_ble_eq_true rfl)) dL_areRangesApart_69 ⟨by show (2 + 2 * i) + 0 ≤ 450; omega, by show (12 + 12 * i) + 0 ≤ 2700; omega⟩) hD hS hA (fun r9 u9 H locs hr9 hP hD hS => ?_)
      have hP : va_P D vwCl ([gO h0 lo (nI n) 1] ++ va_pl L (gE S)) H := hP
      have hD : va_D (va_A ([gO h0 lo (nI n) 1] ++ va_pl L0 (gE S0)) s.heap.size) ([gO h0 lo (nI n) 1] ++ va_pl L (gE S)) := hD
      have hr9 : r9 = nI (gbg P 8 5000) := hr9
      subst hr9
      refine lv_icmp_ge (tgt := 221) hx hb dL_areRangesApart_72 (by decide) (fun c9 => absurd c9 (z_nle (by omega) (by omega))) (fun _ => ?_)
      refine lv_aload_n hx hb dL_areRangesApart_75 rfl (lv_at hl 0 rfl) ?_
      refine lv_iload hx hb dL_areRangesApart_76 (lv_at hl 6 rfl) ?_
      refine g_xcalli (vx_runV (As := [.int (nI i)]) (rest := []) ⟨hx, hb, hml, hown, hts⟩ (c_rangeFrom l hl9 D tys [gO h0 lo (nI n) 1] L S H.size (i := 0) rfl hC (nI i) (h_0 hev) (h_51 hev)) (cwV 1 hts gL_areRangesApart_X1_rangeFrom rfl rfl rfl (by decide +kernel) ⟨Nat.le_of_ble_eq_true rfl, Nat.le_of_ble_eq_true rfl⟩) (gP_V (va_recv hK hP (ci := 1) rfl (g_inX (X := [gO h0 lo (nI n) 1]) (i := 0) rfl)) hP hK hD gBl_G (fun U hU hW => gG.call hGG hS (gA_sub hD hS hA) U hU hW)) rfl rfl hl.1 rfl (lv_room (Nat.le_of_ble_eq_true rfl)) dL_areRangesApart_78 ⟨by show (2 + 2 * i) + 0 + 1 ≤ 450; omega, by show (12 + 12 * i) + 0 + 6 ≤ 2700; omega⟩) hD hS hA (fun E ce q9 u9 H locs hc hP hD hS e1 e2 e3 => False.elim (rg_ok hrg hc.1.2)) (fun r9 u9 H locs hr9 hP hD hS => ?_)
      obtain ⟨hr9, hC⟩ := hr9
      obtain ⟨L, S⟩ := u9
      have hP : va_P D vwCl ([gO h0 lo (nI n) 1] ++ va_pl L (gE S)) H := hP
      have hD : va_D (va_A ([gO h0 lo (nI n) 1] ++ va_pl L0 (gE S0)) s.heap.size) ([gO h0 lo (nI n) 1] ++ va_pl L (gE S)) := hD
      have hr9 : r9 = nI a := rg_from (by omega) hrg hr9
      subst hr9
      refine lv_istore (lv' := [(7, .int (nI a)), (0, .ref h0), (1, .int (nI (gct P 8 e9))), (2, .int bv), (3, .int lv), (4, .int (nI mo)), (5, .int (nI 1)), (6, .int (nI i))]) hx hb dL_areRangesApart_81 hl (by decide) rfl (fun ls hl => ?_)
      refine lv_aload_n hx hb dL_areRangesApart_83 rfl (lv_at hl 1 rfl) ?_
      refine lv_iload hx hb dL_areRangesApart_84 (lv_at hl 7 rfl) ?_
      refine g_xcalli (vx_runV (As := [.int (nI i)]) (rest := []) ⟨hx, hb, hml, hown, hts⟩ (c_rangeTo l hl9 D tys [gO h0 lo (nI n) 1] L S H.size (i := 0) rfl hC (nI i) (h_0 hev) (h_51 hev)) (cwV 1 hts gL_areRangesApart_X1_rangeTo rfl rfl rfl (by decide +kernel) ⟨Nat.le_of_ble_eq_true rfl, Nat.le_of_ble_eq_true rfl⟩) (gP_V (va_recv hK hP (ci := 1) rfl (g_inX (X := [gO h0 lo (nI n) 1]) (i := 0) rfl)) hP hK hD gBl_G (fun U hU hW => gG.call hGG hS (gA_sub hD hS hA) U hU hW)) rfl rfl hl.1 rfl (lv_room (Nat.le_of_ble_eq_true rfl)) dL_areRangesApart_86 ⟨by show (2 + 2 * i) + 0 + 1 + 1 ≤ 450; omega, by show (12 + 12 * i) + 0 + 6 + 6 ≤ 2700; omega⟩) hD hS hA (fun E ce q9 u9 H locs hc hP hD hS e1 e2 e3 => False.elim (rg_ok hrg hc.1.2)) (fun r9 u9 H locs hr9 hP hD hS => ?_)
      obtain ⟨hr9, hC⟩ := hr9
      obtain ⟨L, S⟩ := u9
      have hP : va_P D vwCl ([gO h0 lo (nI n) 1] ++ va_pl L (gE S)) H := hP
      have hD : va_D (va_A ([gO h0 lo (nI n) 1] ++ va_pl L0 (gE S0)) s.heap.size) ([gO h0 lo (nI n) 1] ++ va_pl L (gE S)) := hD
      have hr9 : r9 = nI b := rg_to (h_0n hev) (by omega) hrg hr9
      subst hr9
      refine lv_istore (lv' := [(8, .int (nI b)), (7, .int (nI a)), (0, .ref h0), (1, .int (nI (gct P 8 e9))), (2, .int bv), (3, .int lv), (4, .int (nI mo)), (5, .int (nI 1)), (6, .int (nI i))]) hx hb dL_areRangesApart_89 hl (by decide) rfl (fun ls hl => ?_)
      refine lv_iload hx hb dL_areRangesApart_91 (lv_at hl 0 rfl) ?_
      refine lv_iload hx hb dL_areRangesApart_93 (lv_at hl 1 rfl) ?_
      refine lv_isub hx hb dL_areRangesApart_95 ?_
      refine g_top (y := nI (b - a)) (pk_sub (by omega)) ?_
      refine lv_iconst (v := nI 1) hx hb dL_areRangesApart_96 (by decide) ?_
      refine lv_iadd hx hb dL_areRangesApart_97 ?_
      refine g_top (y := nI ((b - a) + 1)) (nI_add _ _) ?_
      refine lv_istore (lv' := [(9, .int (nI ((b - a) + 1))), (8, .int (nI b)), (7, .int (nI a)), (0, .ref h0), (1, .int (nI (gct P 8 e9))), (2, .int bv), (3, .int lv), (4, .int (nI mo)), (5, .int (nI 1)), (6, .int (nI i))]) hx hb dL_areRangesApart_98 hl (by decide) rfl (fun ls hl => ?_)
      refine lv_iload hx hb dL_areRangesApart_100 (lv_at hl 8 rfl) ?_
      refine lv_if_eq (tgt := 204) hx hb dL_areRangesApart_102 (by decide) (fun c9 => absurd c9 (by decide)) (fun _ => ?_)
      refine lv_iload hx hb dL_areRangesApart_105 (lv_at hl 2 rfl) ?_
      refine lv_iload_n hx hb dL_areRangesApart_107 rfl (lv_at hl 5 rfl) ?_
      refine lv_iconst (v := nI 1) hx hb dL_areRangesApart_108 (by decide) ?_
      refine lv_iadd hx hb dL_areRangesApart_109 ?_
      refine g_top (y := nI c) (hc1) ?_
      refine lv_icmp_le (tgt := 204) hx hb dL_areRangesApart_110 (by decide) (fun c9 => absurd c9 (z_nle (by omega) (by omega))) (fun _ => ?_)
      refine lv_iload hx hb dL_areRangesApart_113 (lv_at hl 1 rfl) ?_
      refine lv_iload hx hb dL_areRangesApart_115 (lv_at hl 2 rfl) ?_
      refine lv_icmp_lt (tgt := 204) hx hb dL_areRangesApart_117 (by decide) (fun c9 => absurd c9 (z_nlt (by omega) (by omega))) (fun _ => ?_)
      refine lv_iload hx hb dL_areRangesApart_120 (lv_at hl 1 rfl) ?_
      refine lv_aload_n hx hb dL_areRangesApart_122 rfl (lv_at hl 3 rfl) ?_
      refine g_calli (va_runV (As := []) (rest := [.int (nI b)]) ⟨hx, hb, hml, hown, hts⟩ (c_size l D tys [gO h0 lo (nI n) 1] L S H.size (i := 0) rfl hC) (cwV 0 hts gL_areRangesApart_X1_size rfl rfl rfl (by decide +kernel) ⟨Nat.le_of_ble_eq_true rfl, Nat.le_of_ble_eq_true rfl⟩) (gP_V (va_recv hK hP (ci := 1) rfl (g_inX (X := [gO h0 lo (nI n) 1]) (i := 0) rfl)) hP hK hD gBl_N (fun U _ hW => hGG.1.warm hW)) rfl rfl hl.1 rfl (lv_room (Nat.le_of_ble_eq_true rfl)) dL_areRangesApart_123 ⟨by show (2 + 2 * i) + 0 + 1 + 1 + 0 ≤ 450; omega, by show (12 + 12 * i) + 0 + 6 + 6 + 0 ≤ 2700; omega⟩) hD hS hA (fun r9 u9 H locs hr9 hP hD hS => ?_)
      have hP : va_P D vwCl ([gO h0 lo (nI n) 1] ++ va_pl L (gE S)) H := hP
      have hD : va_D (va_A ([gO h0 lo (nI n) 1] ++ va_pl L0 (gE S0)) s.heap.size) ([gO h0 lo (nI n) 1] ++ va_pl L (gE S)) := hD
      have hr9 : r9 = nI n := hr9
      subst hr9
      refine lv_icmp_gt (tgt := 204) hx hb dL_areRangesApart_126 (by decide) (fun c9 => absurd c9 (z_nlt (by omega) (by omega))) (fun _ => ?_)
      refine lv_aload_n hx hb dL_areRangesApart_129 rfl (lv_at hl 3 rfl) ?_
      refine lv_iload hx hb dL_areRangesApart_130 (lv_at hl 2 rfl) ?_
      obtain ⟨g9, hch9, hwf9, hmx9⟩ := id hC
      refine g_calli (va_runV (As := [.int (nI a)]) (rest := []) ⟨hx, hb, hml, hown, hts⟩ (c_place l D tys [gO h0 lo (nI n) 1] L S H.size (i := 0) rfl hwf9 hmx9 hch9 (nI a)) (cwV 1 hts gL_areRangesApart_X1_placeOf rfl rfl rfl (by decide +kernel) ⟨Nat.le_of_ble_eq_true rfl, Nat.le_of_ble_eq_true rfl⟩) (gP_V (va_recv hK hP (ci := 1) rfl (g_inX (X := [gO h0 lo (nI n) 1]) (i := 0) rfl)) hP hK hD gBl_N (fun U _ hW => hGG.1.warm hW)) rfl rfl hl.1 rfl (lv_room (Nat.le_of_ble_eq_true rfl)) dL_areRangesApart_132 ⟨by show (2 + 2 * i) + 0 + 1 + 1 + 0 + 0 ≤ 450; omega, by show (12 + 12 * i) + 0 + 6 + 6 + 0 + 0 ≤ 2700; omega⟩) hD hS hA (fun r9 u9 H locs hr9 hP hD hS => ?_)
      have hP : va_P D vwCl ([gO h0 lo (nI n) 1] ++ va_pl L (gE S)) H := hP
      have hD : va_D (va_A ([gO h0 lo (nI n) 1] ++ va_pl L0 (gE S0)) s.heap.size) ([gO h0 lo (nI n) 1] ++ va_pl L (gE S)) := hD
      have hr9 : r9 = P a := rg_place hev (by omega) hr9
      subst hr9
      refine lv_bipush (v := nI 8) hx hb dL_areRangesApart_135 (by decide) ?_
      refine lv_icmp_ne (tgt := 204) hx hb dL_areRangesApart_137 (by decide) (fun c9 => absurd (hpa) c9) (fun _ => ?_)
      refine lv_aload_n hx hb dL_areRangesApart_140 rfl (lv_at hl 3 rfl) ?_
      refine lv_iload hx hb dL_areRangesApart_141 (lv_at hl 1 rfl) ?_
      obtain ⟨g9, hch9, hwf9, hmx9⟩ := id hC
      refine g_calli (va_runV (As := [.int (nI b)]) (rest := []) ⟨hx, hb, hml, hown, hts⟩ (c_place l D tys [gO h0 lo (nI n) 1] L S H.size (i := 0) rfl hwf9 hmx9 hch9 (nI b)) (cwV 1 hts gL_areRangesApart_X1_placeOf rfl rfl rfl (by decide +kernel) ⟨Nat.le_of_ble_eq_true rfl, Nat.le_of_ble_eq_true rfl⟩) (gP_V (va_recv hK hP (ci := 1) rfl (g_inX (X := [gO h0 lo (nI n) 1]) (i := 0) rfl)) hP hK hD gBl_N (fun U _ hW => hGG.1.warm hW)) rfl rfl hl.1 rfl (lv_room (Nat.le_of_ble_eq_true rfl)) dL_areRangesApart_143 ⟨by show (2 + 2 * i) + 0 + 1 + 1 + 0 + 0 + 0 ≤ 450; omega, by show (12 + 12 * i) + 0 + 6 + 6 + 0 + 0 + 0 ≤ 2700; omega⟩) hD hS hA (fun r9 u9 H locs hr9 hP hD hS => ?_)
      have hP : va_P D vwCl ([gO h0 lo (nI n) 1] ++ va_pl L (gE S)) H := hP
      have hD : va_D (va_A ([gO h0 lo (nI n) 1] ++ va_pl L0 (gE S0)) s.heap.size) ([gO h0 lo (nI n) 1] ++ va_pl L (gE S)) := hD
      have hr9 : r9 = P b := rg_place hev (by omega) hr9
      subst hr9
      refine lv_bipush (v := nI 8) hx hb dL_areRangesApart_146 (by decide) ?_
      refine lv_icmp_ne (tgt := 204) hx hb dL_areRangesApart_148 (by decide) (fun c9 => absurd (hpb) c9) (fun _ => ?_)
      refine lv_aload_n hx hb dL_areRangesApart_151 rfl (lv_at hl 3 rfl) ?_
      refine lv_iload hx hb dL_areRangesApart_152 (lv_at hl 2 rfl) ?_
      refine lv_iconst (v := nI 1) hx hb dL_areRangesApart_154 (by decide) ?_
      refine lv_isub hx hb dL_areRangesApart_155 ?_
      refine g_top (y := nI (a - 1)) (pk_sub (by omega)) ?_
      obtain ⟨g9, hch9, hwf9, hmx9⟩ := id hC
      refine g_calli (va_runV (As := [.int (nI (a - 1))]) (rest := []) ⟨hx, hb, hml, hown, hts⟩ (c_place l D tys [gO h0 lo (nI n) 1] L S H.size (i := 0) rfl hwf9 hmx9 hch9 (nI (a - 1))) (cwV 1 hts gL_areRangesApart_X1_placeOf rfl rfl rfl (by decide +kernel) ⟨Nat.le_of_ble_eq_true rfl, Nat.le_of_ble_eq_true rfl⟩) (gP_V (va_recv hK hP (ci := 1) rfl (g_inX (X := [gO h0 lo (nI n) 1]) (i := 0) rfl)) hP hK hD gBl_N (fun U _ hW => hGG.1.warm hW)) rfl rfl hl.1 rfl (lv_room (Nat.le_of_ble_eq_true rfl)) dL_areRangesApart_156 ⟨by show (2 + 2 * i) + 0 + 1 + 1 + 0 + 0 + 0 + 0 ≤ 450; omega, by show (12 + 12 * i) + 0 + 6 + 6 + 0 + 0 + 0 + 0 ≤ 2700; omega⟩) hD hS hA (fun r9 u9 H locs hr9 hP hD hS => ?_)
      have hP : va_P D vwCl ([gO h0 lo (nI n) 1] ++ va_pl L (gE S)) H := hP
      have hD : va_D (va_A ([gO h0 lo (nI n) 1] ++ va_pl L0 (gE S0)) s.heap.size) ([gO h0 lo (nI n) 1] ++ va_pl L (gE S)) := hD
      have hr9 : r9 = P (a - 1) := rg_place hev (by omega) hr9
      subst hr9
      refine lv_bipush (v := nI 8) hx hb dL_areRangesApart_159 (by decide) ?_
      refine lv_icmp_eq (tgt := 204) hx hb dL_areRangesApart_161 (by decide) (fun c9 => absurd c9 (q5)) (fun _ => ?_)
      refine lv_aload_n hx hb dL_areRangesApart_164 rfl (lv_at hl 3 rfl) ?_
      refine lv_iload hx hb dL_areRangesApart_165 (lv_at hl 1 rfl) ?_
      refine lv_iconst (v := nI 1) hx hb dL_areRangesApart_167 (by decide) ?_
      refine lv_iadd hx hb dL_areRangesApart_168 ?_
      refine g_top (y := nI (b + 1)) (nI_add _ _) ?_
      obtain ⟨g9, hch9, hwf9, hmx9⟩ := id hC
      refine g_calli (va_runV (As := [.int (nI (b + 1))]) (rest := []) ⟨hx, hb, hml, hown, hts⟩ (c_place l D tys [gO h0 lo (nI n) 1] L S H.size (i := 0) rfl hwf9 hmx9 hch9 (nI (b + 1))) (cwV 1 hts gL_areRangesApart_X1_placeOf rfl rfl rfl (by decide +kernel) ⟨Nat.le_of_ble_eq_true rfl, Nat.le_of_ble_eq_true rfl⟩) (gP_V (va_recv hK hP (ci := 1) rfl (g_inX (X := [gO h0 lo (nI n) 1]) (i := 0) rfl)) hP hK hD gBl_N (fun U _ hW => hGG.1.warm hW)) rfl rfl hl.1 rfl (lv_room (Nat.le_of_ble_eq_true rfl)) dL_areRangesApart_169 ⟨by show (2 + 2 * i) + 0 + 1 + 1 + 0 + 0 + 0 + 0 + 0 ≤ 450; omega, by show (12 + 12 * i) + 0 + 6 + 6 + 0 + 0 + 0 + 0 + 0 ≤ 2700; omega⟩) hD hS hA (fun r9 u9 H locs hr9 hP hD hS => ?_)
      have hP : va_P D vwCl ([gO h0 lo (nI n) 1] ++ va_pl L (gE S)) H := hP
      have hD : va_D (va_A ([gO h0 lo (nI n) 1] ++ va_pl L0 (gE S0)) s.heap.size) ([gO h0 lo (nI n) 1] ++ va_pl L (gE S)) := hD
      have hr9 : r9 = P (b + 1) := rg_place hev (by omega) hr9
      subst hr9
      refine lv_bipush (v := nI 8) hx hb dL_areRangesApart_172 (by decide) ?_
      refine lv_icmp_eq (tgt := 204) hx hb dL_areRangesApart_174 (by decide) (fun c9 => absurd c9 (q6)) (fun _ => ?_)
      refine lv_iload hx hb dL_areRangesApart_177 (lv_at hl 9 rfl) ?_
      refine lv_iload_n hx hb dL_areRangesApart_179 rfl (lv_at hl 6 rfl) ?_
      refine lv_icmp_ge (tgt := 193) hx hb dL_areRangesApart_180 (by decide) (fun hlt => ?_) (fun hlt => ?_)
      · skip
        refine lv_iload hx hb dL_areRangesApart_193 (lv_at hl 0 rfl) ?_
        refine lv_iload hx hb dL_areRangesApart_195 (lv_at hl 7 rfl) ?_
        refine lv_icmp_gt (tgt := 204) hx hb dL_areRangesApart_197 (by decide) (fun c9 => absurd c9 (z_nlt hMi.1 (by omega))) (fun _ => ?_)
        refine lv_iconst (v := nI 1) hx hb dL_areRangesApart_200 (by decide) ?_
        refine lv_goto (tgt := 205) hx hb dL_areRangesApart_201 (by decide) ?_
        refine lv_istore (lv' := [(5, .int (nI 1)), (9, .int (nI ((b - a) + 1))), (8, .int (nI b)), (7, .int (nI a)), (0, .ref h0), (1, .int (nI (gct P 8 e9))), (2, .int bv), (3, .int lv), (4, .int (nI mo)), (6, .int (nI i))]) hx hb dL_areRangesApart_205 hl (by decide) rfl (fun ls hl => ?_)
        refine lv_iload hx hb dL_areRangesApart_207 (lv_at hl 2 rfl) ?_
        refine lv_istore_n (lv' := [(2, .int (nI b)), (5, .int (nI 1)), (9, .int (nI ((b - a) + 1))), (8, .int (nI b)), (7, .int (nI a)), (0, .ref h0), (1, .int (nI (gct P 8 e9))), (3, .int lv), (4, .int (nI mo)), (6, .int (nI i))]) hx hb dL_areRangesApart_209 rfl hl (by decide) rfl (fun ls hl => ?_)
        refine lv_iload_n hx hb dL_areRangesApart_210 rfl (lv_at hl 6 rfl) ?_
        refine lv_iload hx hb dL_areRangesApart_211 (lv_at hl 2 rfl) ?_
        refine lv_iadd hx hb dL_areRangesApart_213 ?_
        refine g_top (y := nI ((gct P 8 e9) + ((b - a) + 1))) (nI_add _ _) ?_
        refine g_top (y := nI (gct P 8 b)) (z_eq (by omega)) ?_
        refine lv_istore_n (lv' := [(1, .int (nI (gct P 8 b))), (2, .int (nI b)), (5, .int (nI 1)), (9, .int (nI ((b - a) + 1))), (8, .int (nI b)), (7, .int (nI a)), (0, .ref h0), (3, .int lv), (4, .int (nI mo)), (6, .int (nI i))]) hx hb dL_areRangesApart_214 rfl hl (by decide) rfl (fun ls hl => ?_)
        refine lv_iinc (v := nI (i + 1)) (lv' := [(6, .int (nI (i + 1))), (1, .int (nI (gct P 8 b))), (2, .int (nI b)), (5, .int (nI 1)), (9, .int (nI ((b - a) + 1))), (8, .int (nI b)), (7, .int (nI a)), (0, .ref h0), (3, .int lv), (4, .int (nI mo))]) hx hb dL_areRangesApart_215 hl (k := 9) rfl (nI_1 _) (by decide) rfl (fun ls hl => ?_)
        refine lv_goto (tgt := 66) hx hb dL_areRangesApart_218 (by decide) ?_
        refine W.widen (k := (2 + 2 * (i + 1))) (n := (12 + 12 * (i + 1))) (by omega) (by omega) ?_
        exact ih (i + 1) b (nI b) L S H locs ls (by omega) heb q3 (fun z => q6 z.2) (Or.inr ⟨rfl, q6⟩) hC hP hD hS (lv_sub hl [7, 1, 2, 8, 9, 3, 0] rfl)
      · skip
        have hlt2 : nI i < lv := Int32.not_le.mp hlt
        have hM2 := hMi.2 hlt2
        refine lv_iload hx hb dL_areRangesApart_183 (lv_at hl 0 rfl) ?_
        refine lv_iload hx hb dL_areRangesApart_185 (lv_at hl 7 rfl) ?_
        refine lv_icmp_ge (tgt := 204) hx hb dL_areRangesApart_187 (by decide) (fun c9 => absurd c9 (z_nle hM2 (by omega))) (fun _ => ?_)
        refine lv_goto (tgt := 200) hx hb dL_areRangesApart_190 (by decide) ?_
        refine lv_iconst (v := nI 1) hx hb dL_areRangesApart_200 (by decide) ?_
        refine lv_goto (tgt := 205) hx hb dL_areRangesApart_201 (by decide) ?_
        refine lv_istore (lv' := [(5, .int (nI 1)), (9, .int (nI ((b - a) + 1))), (8, .int (nI b)), (7, .int (nI a)), (0, .ref h0), (1, .int (nI (gct P 8 e9))), (2, .int bv), (3, .int lv), (4, .int (nI mo)), (6, .int (nI i))]) hx hb dL_areRangesApart_205 hl (by decide) rfl (fun ls hl => ?_)
        refine lv_iload hx hb dL_areRangesApart_207 (lv_at hl 2 rfl) ?_
        refine lv_istore_n (lv' := [(2, .int (nI b)), (5, .int (nI 1)), (9, .int (nI ((b - a) + 1))), (8, .int (nI b)), (7, .int (nI a)), (0, .ref h0), (1, .int (nI (gct P 8 e9))), (3, .int lv), (4, .int (nI mo)), (6, .int (nI i))]) hx hb dL_areRangesApart_209 rfl hl (by decide) rfl (fun ls hl => ?_)
        refine lv_iload_n hx hb dL_areRangesApart_210 rfl (lv_at hl 6 rfl) ?_
        refine lv_iload hx hb dL_areRangesApart_211 (lv_at hl 2 rfl) ?_
        refine lv_iadd hx hb dL_areRangesApart_213 ?_
        refine g_top (y := nI ((gct P 8 e9) + ((b - a) + 1))) (nI_add _ _) ?_
        refine g_top (y := nI (gct P 8 b)) (z_eq (by omega)) ?_
        refine lv_istore_n (lv' := [(1, .int (nI (gct P 8 b))), (2, .int (nI b)), (5, .int (nI 1)), (9, .int (nI ((b - a) + 1))), (8, .int (nI b)), (7, .int (nI a)), (0, .ref h0), (3, .int lv), (4, .int (nI mo)), (6, .int (nI i))]) hx hb dL_areRangesApart_214 rfl hl (by decide) rfl (fun ls hl => ?_)
        refine lv_iinc (v := nI (i + 1)) (lv' := [(6, .int (nI (i + 1))), (1, .int (nI (gct P 8 b))), (2, .int (nI b)), (5, .int (nI 1)), (9, .int (nI ((b - a) + 1))), (8, .int (nI b)), (7, .int (nI a)), (0, .ref h0), (3, .int lv), (4, .int (nI mo))]) hx hb dL_areRangesApart_215 hl (k := 9) rfl (nI_1 _) (by decide) rfl (fun ls hl => ?_)
        refine lv_goto (tgt := 66) hx hb dL_areRangesApart_218 (by decide) ?_
        refine W.widen (k := (2 + 2 * (i + 1))) (n := (12 + 12 * (i + 1))) (by omega) (by omega) ?_
        exact ih (i + 1) b (nI b) L S H locs ls (by omega) heb q3 (fun z => q6 z.2) (Or.inr ⟨rfl, q6⟩) hC hP hD hS (lv_sub hl [7, 1, 2, 8, 9, 3, 0] rfl)
  refine lv_iconst (v := nI 0) hx hb dL_areRangesApart_0 (by decide) ?_
  refine lv_istore_n (lv' := [(1, .int (nI 0)), (0, .ref h0)]) hx hb dL_areRangesApart_1 rfl hl (by decide) rfl (fun ls hl => ?_)
  refine lv_iconst (v := -1) hx hb dL_areRangesApart_2 (by decide) ?_
  refine lv_istore_n (lv' := [(2, .int (-1)), (1, .int (nI 0)), (0, .ref h0)]) hx hb dL_areRangesApart_3 rfl hl (by decide) rfl (fun ls hl => ?_)
  refine lv_aload_n hx hb dL_areRangesApart_4 rfl (lv_at hl 2 rfl) ?_
  obtain ⟨g9, hch9, hwf9, hmx9⟩ := id hC
  refine g_calli (va_runV (As := []) (rest := []) ⟨hx, hb, hml, hown, hts⟩ (c_longest l D tys [gO h0 lo (nI n) 1] L0 S0 s.heap.size (i := 0) rfl hwf9 hmx9 hch9 (h_0 hev)) (cwV 0 hts gL_areRangesApart_X1_longestRange rfl rfl rfl (by decide +kernel) ⟨Nat.le_of_ble_eq_true rfl, Nat.le_of_ble_eq_true rfl⟩) (gP_V (va_recv hK hP (ci := 1) rfl (g_inX (X := [gO h0 lo (nI n) 1]) (i := 0) rfl)) hP hK hD gBl_N (fun U _ hW => hGG.1.warm hW)) rfl rfl hl.1 rfl (lv_room (Nat.le_of_ble_eq_true rfl)) dL_areRangesApart_5 ⟨by show 0 + 0 ≤ 450; omega, by show 0 + 0 ≤ 2700; omega⟩) hD hS hA (fun r9 u9 H locs hr9 hP hD hS => ?_)
  have hP : va_P D vwCl ([gO h0 lo (nI n) 1] ++ va_pl L0 (gE S0)) H := hP
  have hD : va_D (va_A ([gO h0 lo (nI n) 1] ++ va_pl L0 (gE S0)) s.heap.size) ([gO h0 lo (nI n) 1] ++ va_pl L0 (gE S0)) := hD
  have hr9 : r9 = nI (glg P 5000).1 - 1 := hr9
  subst hr9
  by_cases hz : gbg P 8 5000 = 0
  · have hno := gbg_none h00 hz
    refine g_top (y := -1) (by rw [lg_none hev hz]; decide) ?_
    refine lv_istore_n (lv' := [(3, .int (-1)), (2, .int (-1)), (1, .int (nI 0)), (0, .ref h0)]) hx hb dL_areRangesApart_8 rfl hl (by decide) rfl (fun ls hl => ?_)
    refine lv_iload_n hx hb dL_areRangesApart_9 rfl (lv_at hl 0 rfl) ?_
    refine lv_if_ge (tgt := 17) hx hb dL_areRangesApart_10 (by decide) (fun c9 => absurd c9 (by decide)) (fun _ => ?_)
    refine lv_iconst (v := nI 0) hx hb dL_areRangesApart_13 (by decide) ?_
    refine lv_goto (tgt := 30) hx hb dL_areRangesApart_14 (by decide) ?_
    refine lv_istore (lv' := [(4, .int (nI 0)), (3, .int (-1)), (2, .int (-1)), (1, .int (nI 0)), (0, .ref h0)]) hx hb dL_areRangesApart_30 hl (by decide) rfl (fun ls hl => ?_)
    refine lv_iload_n hx hb dL_areRangesApart_32 rfl (lv_at hl 1 rfl) ?_
    refine lv_if_ge (tgt := 40) hx hb dL_areRangesApart_33 (by decide) (fun c9 => absurd c9 (by decide)) (fun _ => ?_)
    refine lv_iconst (v := nI 1) hx hb dL_areRangesApart_36 (by decide) ?_
    refine lv_goto (tgt := 41) hx hb dL_areRangesApart_37 (by decide) ?_
    refine lv_aload_n hx hb dL_areRangesApart_41 rfl (lv_at hl 4 rfl) ?_
    refine g_calli (va_runV (As := []) (rest := [.int (nI 1)]) ⟨hx, hb, hml, hown, hts⟩ (c_rangesP l D tys [gO h0 lo (nI n) 1] L0 S0 H.size (i := 0) rfl hC (h_0 hev)) (cwV 0 hts gL_areRangesApart_X1_ranges rfl rfl rfl (by decide +kernel) ⟨Nat.le_of_ble_eq_true rfl, Nat.le_of_ble_eq_true rfl⟩) (gP_V (va_recv hK hP (ci := 1) rfl (g_inX (X := [gO h0 lo (nI n) 1]) (i := 0) rfl)) hP hK hD gBl_N (fun U _ hW => hGG.1.warm hW)) rfl rfl hl.1 rfl (lv_room (Nat.le_of_ble_eq_true rfl)) dL_areRangesApart_42 ⟨by show 0 + 0 + 0 ≤ 450; omega, by show 0 + 0 + 0 ≤ 2700; omega⟩) hD hS hA (fun r9 u9 H locs hr9 hP hD hS => ?_)
    have hP : va_P D vwCl ([gO h0 lo (nI n) 1] ++ va_pl L0 (gE S0)) H := hP
    have hD : va_D (va_A ([gO h0 lo (nI n) 1] ++ va_pl L0 (gE S0)) s.heap.size) ([gO h0 lo (nI n) 1] ++ va_pl L0 (gE S0)) := hD
    have hr9 : r9 = nI (gbg P 8 5000) := hr9
    subst hr9
    refine lv_if_ne (tgt := 52) hx hb dL_areRangesApart_45 (by decide) (fun c9 => absurd (z_eq hz) c9) (fun _ => ?_)
    refine lv_iconst (v := nI 1) hx hb dL_areRangesApart_48 (by decide) ?_
    refine lv_goto (tgt := 53) hx hb dL_areRangesApart_49 (by decide) ?_
    refine lv_icmp_ne (tgt := 60) hx hb dL_areRangesApart_53 (by decide) (fun c9 => absurd (rfl) c9) (fun _ => ?_)
    refine lv_iconst (v := nI 1) hx hb dL_areRangesApart_56 (by decide) ?_
    refine lv_goto (tgt := 61) hx hb dL_areRangesApart_57 (by decide) ?_
    refine lv_istore (lv' := [(5, .int (nI 1)), (4, .int (nI 0)), (3, .int (-1)), (2, .int (-1)), (1, .int (nI 0)), (0, .ref h0)]) hx hb dL_areRangesApart_61 hl (by decide) rfl (fun ls hl => ?_)
    refine lv_iconst (v := nI 0) hx hb dL_areRangesApart_63 (by decide) ?_
    refine lv_istore (lv' := [(6, .int (nI 0)), (5, .int (nI 1)), (4, .int (nI 0)), (3, .int (-1)), (2, .int (-1)), (1, .int (nI 0)), (0, .ref h0)]) hx hb dL_areRangesApart_64 hl (by decide) rfl (fun ls hl => ?_)
    refine W.widen (k := (2 + 2 * 0)) (n := (12 + 12 * 0)) (by omega) (by omega) ?_
    exact hloop (-1) 0 (by omega) (fun i a b hx9 => absurd (hx9.2.2.2.1 a (Nat.le_refl _) hx9.2.1) (hno a hx9.1 (Nat.le_trans hx9.2.1 hx9.2.2.1))) (gbg P 8 5000) 0 0 (-1) L0 S0 H locs ls (Nat.zero_add _) rfl (by omega) (fun z => h00 z.1) (Or.inl ⟨rfl, rfl⟩) hC hP hD hS (lv_sub hl [6, 5, 4, 3, 2, 1, 0] rfl)
  · obtain ⟨k, ka, kb, hk1, hk2, hk3, hk4, hk5⟩ := lg_some hev hz
    have hk6 := hk3.2.1
    have hk7 := hk3.1
    refine g_top (y := nI k) (by rw [hk1]; exact nI_pred k) ?_
    refine lv_istore_n (lv' := [(3, .int (nI k)), (2, .int (-1)), (1, .int (nI 0)), (0, .ref h0)]) hx hb dL_areRangesApart_8 rfl hl (by decide) rfl (fun ls hl => ?_)
    refine lv_iload_n hx hb dL_areRangesApart_9 rfl (lv_at hl 0 rfl) ?_
    refine lv_if_ge (tgt := 17) hx hb dL_areRangesApart_10 (by decide) (fun _ => ?_) (fun c9 => absurd (z_le (a := 0) (by omega) (by omega)) c9)
    refine lv_aload_n hx hb dL_areRangesApart_17 rfl (lv_at hl 3 rfl) ?_
    refine lv_iload_n hx hb dL_areRangesApart_18 rfl (lv_at hl 0 rfl) ?_
    refine g_xcalli (vx_runV (As := [.int (nI k)]) (rest := []) ⟨hx, hb, hml, hown, hts⟩ (c_rangeTo l hl9 D tys [gO h0 lo (nI n) 1] L0 S0 H.size (i := 0) rfl hC (nI k) (h_0 hev) (h_51 hev)) (cwV 1 hts gL_areRangesApart_X1_rangeTo rfl rfl rfl (by decide +kernel) ⟨Nat.le_of_ble_eq_true rfl, Nat.le_of_ble_eq_true rfl⟩) (gP_V (va_recv hK hP (ci := 1) rfl (g_inX (X := [gO h0 lo (nI n) 1]) (i := 0) rfl)) hP hK hD gBl_G (fun U hU hW => gG.call hGG hS (gA_sub hD hS hA) U hU hW)) rfl rfl hl.1 rfl (lv_room (Nat.le_of_ble_eq_true rfl)) dL_areRangesApart_19 ⟨by show 0 + 0 + 1 ≤ 450; omega, by show 0 + 0 + 6 ≤ 2700; omega⟩) hD hS hA (fun E ce q9 u9 H locs hc hP hD hS e1 e2 e3 => False.elim (rg_ok hk3 hc.1.2)) (fun r9 u9 H locs hr9 hP hD hS => ?_)
    obtain ⟨hr9, hC⟩ := hr9
    obtain ⟨L, S⟩ := u9
    have hP : va_P D vwCl ([gO h0 lo (nI n) 1] ++ va_pl L (gE S)) H := hP
    have hD : va_D (va_A ([gO h0 lo (nI n) 1] ++ va_pl L0 (gE S0)) s.heap.size) ([gO h0 lo (nI n) 1] ++ va_pl L (gE S)) := hD
    have hr9 : r9 = nI kb := rg_to (h_0n hev) (by omega) hk3 hr9
    subst hr9
    refine lv_aload_n hx hb dL_areRangesApart_22 rfl (lv_at hl 3 rfl) ?_
    refine lv_iload_n hx hb dL_areRangesApart_23 rfl (lv_at hl 0 rfl) ?_
    refine g_xcalli (vx_runV (As := [.int (nI k)]) (rest := [.int (nI kb)]) ⟨hx, hb, hml, hown, hts⟩ (c_rangeFrom l hl9 D tys [gO h0 lo (nI n) 1] L S H.size (i := 0) rfl hC (nI k) (h_0 hev) (h_51 hev)) (cwV 1 hts gL_areRangesApart_X1_rangeFrom rfl rfl rfl (by decide +kernel) ⟨Nat.le_of_ble_eq_true rfl, Nat.le_of_ble_eq_true rfl⟩) (gP_V (va_recv hK hP (ci := 1) rfl (g_inX (X := [gO h0 lo (nI n) 1]) (i := 0) rfl)) hP hK hD gBl_G (fun U hU hW => gG.call hGG hS (gA_sub hD hS hA) U hU hW)) rfl rfl hl.1 rfl (lv_room (Nat.le_of_ble_eq_true rfl)) dL_areRangesApart_24 ⟨by show 0 + 0 + 1 + 1 ≤ 450; omega, by show 0 + 0 + 6 + 6 ≤ 2700; omega⟩) hD hS hA (fun E ce q9 u9 H locs hc hP hD hS e1 e2 e3 => False.elim (rg_ok hk3 hc.1.2)) (fun r9 u9 H locs hr9 hP hD hS => ?_)
    obtain ⟨hr9, hC⟩ := hr9
    obtain ⟨L, S⟩ := u9
    have hP : va_P D vwCl ([gO h0 lo (nI n) 1] ++ va_pl L (gE S)) H := hP
    have hD : va_D (va_A ([gO h0 lo (nI n) 1] ++ va_pl L0 (gE S0)) s.heap.size) ([gO h0 lo (nI n) 1] ++ va_pl L (gE S)) := hD
    have hr9 : r9 = nI ka := rg_from (by omega) hk3 hr9
    subst hr9
    refine lv_isub hx hb dL_areRangesApart_27 ?_
    refine g_top (y := nI (kb - ka)) (pk_sub (by omega)) ?_
    refine lv_iconst (v := nI 1) hx hb dL_areRangesApart_28 (by decide) ?_
    refine lv_iadd hx hb dL_areRangesApart_29 ?_
    refine g_top (y := nI ((kb - ka) + 1)) (nI_add _ _) ?_
    refine lv_istore (lv' := [(4, .int (nI ((kb - ka) + 1))), (3, .int (nI k)), (2, .int (-1)), (1, .int (nI 0)), (0, .ref h0)]) hx hb dL_areRangesApart_30 hl (by decide) rfl (fun ls hl => ?_)
    refine lv_iload_n hx hb dL_areRangesApart_32 rfl (lv_at hl 1 rfl) ?_
    refine lv_if_ge (tgt := 40) hx hb dL_areRangesApart_33 (by decide) (fun _ => ?_) (fun c9 => absurd (z_le (a := 0) (by omega) (by omega)) c9)
    refine lv_iconst (v := nI 0) hx hb dL_areRangesApart_40 (by decide) ?_
    refine lv_aload_n hx hb dL_areRangesApart_41 rfl (lv_at hl 4 rfl) ?_
    refine g_calli (va_runV (As := []) (rest := [.int (nI 0)]) ⟨hx, hb, hml, hown, hts⟩ (c_rangesP l D tys [gO h0 lo (nI n) 1] L S H.size (i := 0) rfl hC (h_0 hev)) (cwV 0 hts gL_areRangesApart_X1_ranges rfl rfl rfl (by decide +kernel) ⟨Nat.le_of_ble_eq_true rfl, Nat.le_of_ble_eq_true rfl⟩) (gP_V (va_recv hK hP (ci := 1) rfl (g_inX (X := [gO h0 lo (nI n) 1]) (i := 0) rfl)) hP hK hD gBl_N (fun U _ hW => hGG.1.warm hW)) rfl rfl hl.1 rfl (lv_room (Nat.le_of_ble_eq_true rfl)) dL_areRangesApart_42 ⟨by show 0 + 0 + 1 + 1 + 0 ≤ 450; omega, by show 0 + 0 + 6 + 6 + 0 ≤ 2700; omega⟩) hD hS hA (fun r9 u9 H locs hr9 hP hD hS => ?_)
    have hP : va_P D vwCl ([gO h0 lo (nI n) 1] ++ va_pl L (gE S)) H := hP
    have hD : va_D (va_A ([gO h0 lo (nI n) 1] ++ va_pl L0 (gE S0)) s.heap.size) ([gO h0 lo (nI n) 1] ++ va_pl L (gE S)) := hD
    have hr9 : r9 = nI (gbg P 8 5000) := hr9
    subst hr9
    refine lv_if_ne (tgt := 52) hx hb dL_areRangesApart_45 (by decide) (fun _ => ?_) (fun c9 => absurd c9 (z_ne (b := 0) (by omega) (by omega) hz))
    refine lv_iconst (v := nI 0) hx hb dL_areRangesApart_52 (by decide) ?_
    refine lv_icmp_ne (tgt := 60) hx hb dL_areRangesApart_53 (by decide) (fun c9 => absurd (rfl) c9) (fun _ => ?_)
    refine lv_iconst (v := nI 1) hx hb dL_areRangesApart_56 (by decide) ?_
    refine lv_goto (tgt := 61) hx hb dL_areRangesApart_57 (by decide) ?_
    refine lv_istore (lv' := [(5, .int (nI 1)), (4, .int (nI ((kb - ka) + 1))), (3, .int (nI k)), (2, .int (-1)), (1, .int (nI 0)), (0, .ref h0)]) hx hb dL_areRangesApart_61 hl (by decide) rfl (fun ls hl => ?_)
    refine lv_iconst (v := nI 0) hx hb dL_areRangesApart_63 (by decide) ?_
    refine lv_istore (lv' := [(6, .int (nI 0)), (5, .int (nI 1)), (4, .int (nI ((kb - ka) + 1))), (3, .int (nI k)), (2, .int (-1)), (1, .int (nI 0)), (0, .ref h0)]) hx hb dL_areRangesApart_64 hl (by decide) rfl (fun ls hl => ?_)
    refine W.widen (k := (2 + 2 * 0)) (n := (12 + 12 * 0)) (by omega) (by omega) ?_
    exact hloop (nI k) (kb - ka + 1) (by omega) (fun i a b hx9 => ⟨(hk5 i a b hx9).1, fun z => (hk5 i a b hx9).2 (by rcases Nat.lt_or_ge i k with y | y; exact y; exact absurd z (nI_nlt y (by have := gbg_le P 8 (a - 1); have := hx9.2.2.2.2.2.2; have := hx9.2.1; have := hx9.2.2.1; omega)))⟩) (gbg P 8 5000) 0 0 (-1) L S H locs ls (Nat.zero_add _) rfl (by omega) (fun z => h00 z.1) (Or.inl ⟨rfl, rfl⟩) hC hP hD hS (lv_sub hl [6, 5, 4, 3, 2, 1, 0] rfl)
