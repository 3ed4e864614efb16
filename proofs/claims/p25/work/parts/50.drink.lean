/-! p25: the law's end: all is drunk or spilt, a new round begins -/
set_option maxHeartbeats 4000000 in
set_option maxRecDepth 100000 in
theorem law_end {p : Program} {l : Launch} {e : Env} {s : State} {m : MethodId} {below : List Frame} {meth : Method} {c : Code} {D : va_G} {tys : List (ClassId × FieldType)} {b Ls h0 lo : Nat} {xs : Nat → Int32} (hx : p.tables.exec = Jvm.exec) (hb : c.code = cL_law) (hr : meth.sig.returnType = ret) (hlocks : meth.locks = false) (hml : c.maxLocals = 10) (hts : ∀ w ∈ wsL_law, w.before #[Value.ref b] s = true) (hown : s.vm.findClass RL = some m.cls) (hK : va_K D vwCl tys s) (hl9 : l.stackTraces = false) (hGG : gG (fun q : Nat => s.heap.size ≤ q) s) (hXs : va_X b Ls xs s s.heap) (hbl : b < s.heap.size) (hLs : Ls ≤ 260) {P : Nat → Int32} {n kc ns : Nat} (hkc : kc ≤ 300000) (hns : ns ≤ 3000000) (hI : gInv P n) (hz : ∀ k, k < 8 → gct P (nI k) 5000 = 0) (hz8 : gct P 8 5000 = 0) : ∀ (L : List Nat) (S : gS) (H : Heap) (locs : List Loc) (ls : Array Slot), gCh P lo (L, S) → va_P D vwCl ([gO h0 lo (nI n) 1] ++ va_pl L (gE S)) H → va_D (fun q : Nat => s.heap.size ≤ q) ([gO h0 lo (nI n) 1] ++ va_pl L (gE S)) → va_S (fun q : Nat => s.heap.size ≤ q) s.heap H locs → lv_has ls 10 [(0, .ref b), (1, .ref h0), (2, .int (nI 1))] → W p l e room_1 s m #[Value.ref b] below meth c H locs kc ns (lw_Z below #[Value.ref b] s) (F0 m 411 ls []) := by
  intro L S H locs ls hC hP hD hS hl
  have hA : ∀ q : Nat, s.heap.size ≤ q → (fun q : Nat => s.heap.size ≤ q) q := fun _ h => h
  have hev := hI.1
  have hn1 := hI.1.1
  have hn2 := hI.2.1
  have hsum := h_sum hI
  have hs0 : gsum (fun q => gct P (nI q) 5000) 8 = 0 := (gsum_cong 8 (fun q hq => hz q hq)).trans (gsum_zero 8)
  have hs : gct P 9 5000 + gct P 10 5000 = n := by omega
  obtain ⟨Q, hQ⟩ : ∃ q, q = gmv (gmv P 9 8 0 5000) 10 8 0 5000 := ⟨_, rfl⟩
  have hqe : gEv Q n := by rw [hQ]; exact rd_ev hI
  have hqa : ∀ j, 1 ≤ j → j ≤ n → Q j = 8 := by rw [hQ]; exact rd_new hI hs
  obtain ⟨hq1, hrg⟩ := rd_rg hqe hqa
  refine lv_aload_n hx hb dL_law_411 rfl (lv_at hl 1 rfl) ?_
  refine g_calli (va_runV (As := []) (rest := []) ⟨hx, hb, hml, hown, hts⟩ (c_round l D tys [gO h0 lo (nI n) 1] L S H.size (i := 0) rfl hC) (cwV 0 hts gL_law_X1_round rfl rfl rfl (by decide +kernel) ⟨Nat.le_of_ble_eq_true rfl, Nat.le_of_ble_eq_true rfl⟩) (gP_V (va_recv hK hP (ci := 1) rfl (g_inX (X := [gO h0 lo (nI n) 1]) (i := 0) rfl)) hP hK hD gBl_N (fun U _ hW => hGG.1.warm hW)) rfl rfl hl.1 rfl (lv_room (Nat.le_of_ble_eq_true rfl)) dL_law_412 ⟨by show kc + 0 ≤ 625101; omega, by show ns + 0 ≤ 7226164; omega⟩) hD hS hA (fun r9 u9 H locs hr9 hP hD hS => ?_)
  have hP : va_P D vwCl ([gO h0 lo (nI n) 1] ++ va_pl L (gE S)) H := hP
  have hD : va_D (fun q : Nat => s.heap.size ≤ q) ([gO h0 lo (nI n) 1] ++ va_pl L (gE S)) := hD
  have hr9 : r9 = 1 := hr9
  subst hr9
  refine lv_istore_n (lv' := [(3, .int 1), (0, .ref b), (1, .ref h0), (2, .int (nI 1))]) hx hb dL_law_415 rfl hl (by decide) rfl (fun ls hl => ?_)
  refine lv_iload_n hx hb dL_law_416 rfl (lv_at hl 3 rfl) ?_
  refine lv_if_eq (tgt := 494) hx hb dL_law_417 (by decide) (fun c9 => absurd c9 (by decide)) (fun _ => ?_)
  refine lv_aload_n hx hb dL_law_420 rfl (lv_at hl 2 rfl) ?_
  refine g_calli (va_runV (As := []) (rest := []) ⟨hx, hb, hml, hown, hts⟩ (c_inJug l D tys [gO h0 lo (nI n) 1] L S H.size (i := 0) rfl hC) (cwV 0 hts gL_law_X1_inJug rfl rfl rfl (by decide +kernel) ⟨Nat.le_of_ble_eq_true rfl, Nat.le_of_ble_eq_true rfl⟩) (gP_V (va_recv hK hP (ci := 1) rfl (g_inX (X := [gO h0 lo (nI n) 1]) (i := 0) rfl)) hP hK hD gBl_N (fun U _ hW => hGG.1.warm hW)) rfl rfl hl.1 rfl (lv_room (Nat.le_of_ble_eq_true rfl)) dL_law_421 ⟨by show kc + 0 + 0 ≤ 625101; omega, by show ns + 0 + 0 ≤ 7226164; omega⟩) hD hS hA (fun r9 u9 H locs hr9 hP hD hS => ?_)
  have hP : va_P D vwCl ([gO h0 lo (nI n) 1] ++ va_pl L (gE S)) H := hP
  have hD : va_D (fun q : Nat => s.heap.size ≤ q) ([gO h0 lo (nI n) 1] ++ va_pl L (gE S)) := hD
  have hr9 : r9 = nI (gct P 8 5000) := hr9
  subst hr9
  refine lv_if_ne (tgt := 494) hx hb dL_law_424 (by decide) (fun c9 => absurd (z_eq (b := 0) hz8) c9) (fun _ => ?_)
  refine lv_aload_n hx hb dL_law_427 rfl (lv_at hl 2 rfl) ?_
  refine g_calli (va_runV (As := []) (rest := []) ⟨hx, hb, hml, hown, hts⟩ (c_drunk l D tys [gO h0 lo (nI n) 1] L S H.size (i := 0) rfl hC) (cwV 0 hts gL_law_X1_drunk rfl rfl rfl (by decide +kernel) ⟨Nat.le_of_ble_eq_true rfl, Nat.le_of_ble_eq_true rfl⟩) (gP_V (va_recv hK hP (ci := 1) rfl (g_inX (X := [gO h0 lo (nI n) 1]) (i := 0) rfl)) hP hK hD gBl_N (fun U _ hW => hGG.1.warm hW)) rfl rfl hl.1 rfl (lv_room (Nat.le_of_ble_eq_true rfl)) dL_law_428 ⟨by show kc + 0 + 0 + 0 ≤ 625101; omega, by show ns + 0 + 0 + 0 ≤ 7226164; omega⟩) hD hS hA (fun r9 u9 H locs hr9 hP hD hS => ?_)
  have hP : va_P D vwCl ([gO h0 lo (nI n) 1] ++ va_pl L (gE S)) H := hP
  have hD : va_D (fun q : Nat => s.heap.size ≤ q) ([gO h0 lo (nI n) 1] ++ va_pl L (gE S)) := hD
  have hr9 : r9 = nI (gct P 9 5000) := hr9
  subst hr9
  refine lv_aload_n hx hb dL_law_431 rfl (lv_at hl 2 rfl) ?_
  refine g_calli (va_runV (As := []) (rest := [.int (nI (gct P 9 5000))]) ⟨hx, hb, hml, hown, hts⟩ (c_spilt l D tys [gO h0 lo (nI n) 1] L S H.size (i := 0) rfl hC) (cwV 0 hts gL_law_X1_spilt rfl rfl rfl (by decide +kernel) ⟨Nat.le_of_ble_eq_true rfl, Nat.le_of_ble_eq_true rfl⟩) (gP_V (va_recv hK hP (ci := 1) rfl (g_inX (X := [gO h0 lo (nI n) 1]) (i := 0) rfl)) hP hK hD gBl_N (fun U _ hW => hGG.1.warm hW)) rfl rfl hl.1 rfl (lv_room (Nat.le_of_ble_eq_true rfl)) dL_law_432 ⟨by show kc + 0 + 0 + 0 + 0 ≤ 625101; omega, by show ns + 0 + 0 + 0 + 0 ≤ 7226164; omega⟩) hD hS hA (fun r9 u9 H locs hr9 hP hD hS => ?_)
  have hP : va_P D vwCl ([gO h0 lo (nI n) 1] ++ va_pl L (gE S)) H := hP
  have hD : va_D (fun q : Nat => s.heap.size ≤ q) ([gO h0 lo (nI n) 1] ++ va_pl L (gE S)) := hD
  have hr9 : r9 = nI (gct P 10 5000) := hr9
  subst hr9
  refine lv_iadd hx hb dL_law_435 ?_
  refine g_top (y := nI ((gct P 9 5000) + (gct P 10 5000))) (nI_add _ _) ?_
  refine lv_aload_n hx hb dL_law_436 rfl (lv_at hl 2 rfl) ?_
  refine g_calli (va_runV (As := []) (rest := [.int (nI ((gct P 9 5000) + (gct P 10 5000)))]) ⟨hx, hb, hml, hown, hts⟩ (c_size l D tys [gO h0 lo (nI n) 1] L S H.size (i := 0) rfl hC) (cwV 0 hts gL_law_X1_size rfl rfl rfl (by decide +kernel) ⟨Nat.le_of_ble_eq_true rfl, Nat.le_of_ble_eq_true rfl⟩) (gP_V (va_recv hK hP (ci := 1) rfl (g_inX (X := [gO h0 lo (nI n) 1]) (i := 0) rfl)) hP hK hD gBl_N (fun U _ hW => hGG.1.warm hW)) rfl rfl hl.1 rfl (lv_room (Nat.le_of_ble_eq_true rfl)) dL_law_437 ⟨by show kc + 0 + 0 + 0 + 0 + 0 ≤ 625101; omega, by show ns + 0 + 0 + 0 + 0 + 0 ≤ 7226164; omega⟩) hD hS hA (fun r9 u9 H locs hr9 hP hD hS => ?_)
  have hP : va_P D vwCl ([gO h0 lo (nI n) 1] ++ va_pl L (gE S)) H := hP
  have hD : va_D (fun q : Nat => s.heap.size ≤ q) ([gO h0 lo (nI n) 1] ++ va_pl L (gE S)) := hD
  have hr9 : r9 = nI n := hr9
  subst hr9
  refine lv_icmp_ne (tgt := 494) hx hb dL_law_440 (by decide) (fun c9 => absurd (z_eq hs) c9) (fun _ => ?_)
  refine lv_aload_n hx hb dL_law_443 rfl (lv_at hl 2 rfl) ?_
  refine g_xcalli (vx_runV (As := []) (rest := []) ⟨hx, hb, hml, hown, hts⟩ (c_nextRound l hl9 D tys [gO h0 lo (nI n) 1] L S H.size (i := 0) rfl hC rfl (by omega)) (cwV 0 hts gL_law_X1_nextRound rfl rfl rfl (by decide +kernel) ⟨Nat.le_of_ble_eq_true rfl, Nat.le_of_ble_eq_true rfl⟩) (gP_V (va_recv hK hP (ci := 1) rfl (g_inX (X := [gO h0 lo (nI n) 1]) (i := 0) rfl)) hP hK hD gBl_G (fun U hU hW => gG.call hGG hS (gA_sub hD hS hA) U hU hW)) rfl rfl hl.1 rfl (lv_room (Nat.le_of_ble_eq_true rfl)) dL_law_444 ⟨by show kc + 0 + 0 + 0 + 0 + 0 + 4 ≤ 625101; omega, by show ns + 0 + 0 + 0 + 0 + 0 + 16 ≤ 7226164; omega⟩) hD hS hA (fun E ce q9 u9 H locs hc hP hD hS e1 e2 e3 => False.elim (hc.1.2 hs)) (fun r9 u9 H locs hr9 hP hD hS => ?_)
  obtain ⟨-, hr9, hC⟩ := hr9
  obtain ⟨L, S⟩ := u9
  have hP : va_P D vwCl ([gO h0 lo (nI n) (1 + 1)] ++ va_pl L (gE S)) H := hP
  have hD : va_D (fun q : Nat => s.heap.size ≤ q) ([gO h0 lo (nI n) (1 + 1)] ++ va_pl L (gE S)) := hD
  have hr9 : r9 = (1 + 1) := hr9
  subst hr9
  rw [show gmv (gmv P 9 8 0 5000) 10 8 0 5000 = Q from hQ.symm] at hC
  refine lv_iload_n hx hb dL_law_447 rfl (lv_at hl 0 rfl) ?_
  refine lv_iconst (v := nI 1) hx hb dL_law_448 (by decide) ?_
  refine lv_iadd hx hb dL_law_449 ?_
  refine lv_icmp_ne (tgt := 494) hx hb dL_law_450 (by decide) (fun c9 => absurd (by decide) c9) (fun _ => ?_)
  refine lv_aload_n hx hb dL_law_453 rfl (lv_at hl 2 rfl) ?_
  refine g_calli (va_runV (As := []) (rest := []) ⟨hx, hb, hml, hown, hts⟩ (c_rangesP l D tys [gO h0 lo (nI n) (1 + 1)] L S H.size (i := 0) rfl hC (h_0 hqe)) (cwV 0 hts gL_law_X1_ranges rfl rfl rfl (by decide +kernel) ⟨Nat.le_of_ble_eq_true rfl, Nat.le_of_ble_eq_true rfl⟩) (gP_V (va_recv hK hP (ci := 1) rfl (g_inX (X := [gO h0 lo (nI n) (1 + 1)]) (i := 0) rfl)) hP hK hD gBl_N (fun U _ hW => hGG.1.warm hW)) rfl rfl hl.1 rfl (lv_room (Nat.le_of_ble_eq_true rfl)) dL_law_454 ⟨by show kc + 0 + 0 + 0 + 0 + 0 + 4 + 0 ≤ 625101; omega, by show ns + 0 + 0 + 0 + 0 + 0 + 16 + 0 ≤ 7226164; omega⟩) hD hS hA (fun r9 u9 H locs hr9 hP hD hS => ?_)
  have hP : va_P D vwCl ([gO h0 lo (nI n) (1 + 1)] ++ va_pl L (gE S)) H := hP
  have hD : va_D (fun q : Nat => s.heap.size ≤ q) ([gO h0 lo (nI n) (1 + 1)] ++ va_pl L (gE S)) := hD
  have hr9 : r9 = nI (gbg Q 8 5000) := hr9
  subst hr9
  refine lv_iconst (v := nI 1) hx hb dL_law_457 (by decide) ?_
  refine lv_icmp_ne (tgt := 494) hx hb dL_law_458 (by decide) (fun c9 => absurd (z_eq hq1) c9) (fun _ => ?_)
  refine lv_aload_n hx hb dL_law_461 rfl (lv_at hl 2 rfl) ?_
  refine lv_iconst (v := nI 0) hx hb dL_law_462 (by decide) ?_
  refine g_xcalli (vx_runV (As := [.int (nI 0)]) (rest := []) ⟨hx, hb, hml, hown, hts⟩ (c_rangeFrom l hl9 D tys [gO h0 lo (nI n) (1 + 1)] L S H.size (i := 0) rfl hC (nI 0) (h_0 hqe) (h_51 hqe)) (cwV 1 hts gL_law_X1_rangeFrom rfl rfl rfl (by decide +kernel) ⟨Nat.le_of_ble_eq_true rfl, Nat.le_of_ble_eq_true rfl⟩) (gP_V (va_recv hK hP (ci := 1) rfl (g_inX (X := [gO h0 lo (nI n) (1 + 1)]) (i := 0) rfl)) hP hK hD gBl_G (fun U hU hW => gG.call hGG hS (gA_sub hD hS hA) U hU hW)) rfl rfl hl.1 rfl (lv_room (Nat.le_of_ble_eq_true rfl)) dL_law_463 ⟨by show kc + 0 + 0 + 0 + 0 + 0 + 4 + 0 + 1 ≤ 625101; omega, by show ns + 0 + 0 + 0 + 0 + 0 + 16 + 0 + 6 ≤ 7226164; omega⟩) hD hS hA (fun E ce q9 u9 H locs hc hP hD hS e1 e2 e3 => False.elim (rg_ok hrg hc.1.2)) (fun r9 u9 H locs hr9 hP hD hS => ?_)
  obtain ⟨hr9, hC⟩ := hr9
  obtain ⟨L, S⟩ := u9
  have hP : va_P D vwCl ([gO h0 lo (nI n) (1 + 1)] ++ va_pl L (gE S)) H := hP
  have hD : va_D (fun q : Nat => s.heap.size ≤ q) ([gO h0 lo (nI n) (1 + 1)] ++ va_pl L (gE S)) := hD
  have hr9 : r9 = nI 1 := rg_from (by omega) hrg hr9
  subst hr9
  refine lv_iconst (v := nI 1) hx hb dL_law_466 (by decide) ?_
  refine lv_icmp_ne (tgt := 494) hx hb dL_law_467 (by decide) (fun c9 => absurd (rfl) c9) (fun _ => ?_)
  refine lv_aload_n hx hb dL_law_470 rfl (lv_at hl 2 rfl) ?_
  refine lv_iconst (v := nI 0) hx hb dL_law_471 (by decide) ?_
  refine g_xcalli (vx_runV (As := [.int (nI 0)]) (rest := []) ⟨hx, hb, hml, hown, hts⟩ (c_rangeTo l hl9 D tys [gO h0 lo (nI n) (1 + 1)] L S H.size (i := 0) rfl hC (nI 0) (h_0 hqe) (h_51 hqe)) (cwV 1 hts gL_law_X1_rangeTo rfl rfl rfl (by decide +kernel) ⟨Nat.le_of_ble_eq_true rfl, Nat.le_of_ble_eq_true rfl⟩) (gP_V (va_recv hK hP (ci := 1) rfl (g_inX (X := [gO h0 lo (nI n) (1 + 1)]) (i := 0) rfl)) hP hK hD gBl_G (fun U hU hW => gG.call hGG hS (gA_sub hD hS hA) U hU hW)) rfl rfl hl.1 rfl (lv_room (Nat.le_of_ble_eq_true rfl)) dL_law_472 ⟨by show kc + 0 + 0 + 0 + 0 + 0 + 4 + 0 + 1 + 1 ≤ 625101; omega, by show ns + 0 + 0 + 0 + 0 + 0 + 16 + 0 + 6 + 6 ≤ 7226164; omega⟩) hD hS hA (fun E ce q9 u9 H locs hc hP hD hS e1 e2 e3 => False.elim (rg_ok hrg hc.1.2)) (fun r9 u9 H locs hr9 hP hD hS => ?_)
  obtain ⟨hr9, hC⟩ := hr9
  obtain ⟨L, S⟩ := u9
  have hP : va_P D vwCl ([gO h0 lo (nI n) (1 + 1)] ++ va_pl L (gE S)) H := hP
  have hD : va_D (fun q : Nat => s.heap.size ≤ q) ([gO h0 lo (nI n) (1 + 1)] ++ va_pl L (gE S)) := hD
  have hr9 : r9 = nI n := rg_to (h_0n hqe) (by omega) hrg hr9
  subst hr9
  refine lv_aload_n hx hb dL_law_475 rfl (lv_at hl 2 rfl) ?_
  refine g_calli (va_runV (As := []) (rest := [.int (nI n)]) ⟨hx, hb, hml, hown, hts⟩ (c_size l D tys [gO h0 lo (nI n) (1 + 1)] L S H.size (i := 0) rfl hC) (cwV 0 hts gL_law_X1_size rfl rfl rfl (by decide +kernel) ⟨Nat.le_of_ble_eq_true rfl, Nat.le_of_ble_eq_true rfl⟩) (gP_V (va_recv hK hP (ci := 1) rfl (g_inX (X := [gO h0 lo (nI n) (1 + 1)]) (i := 0) rfl)) hP hK hD gBl_N (fun U _ hW => hGG.1.warm hW)) rfl rfl hl.1 rfl (lv_room (Nat.le_of_ble_eq_true rfl)) dL_law_476 ⟨by show kc + 0 + 0 + 0 + 0 + 0 + 4 + 0 + 1 + 1 + 0 ≤ 625101; omega, by show ns + 0 + 0 + 0 + 0 + 0 + 16 + 0 + 6 + 6 + 0 ≤ 7226164; omega⟩) hD hS hA (fun r9 u9 H locs hr9 hP hD hS => ?_)
  have hP : va_P D vwCl ([gO h0 lo (nI n) (1 + 1)] ++ va_pl L (gE S)) H := hP
  have hD : va_D (fun q : Nat => s.heap.size ≤ q) ([gO h0 lo (nI n) (1 + 1)] ++ va_pl L (gE S)) := hD
  have hr9 : r9 = nI n := hr9
  subst hr9
  refine lv_icmp_ne (tgt := 494) hx hb dL_law_479 (by decide) (fun c9 => absurd (rfl) c9) (fun _ => ?_)
  refine lv_aload_n hx hb dL_law_482 rfl (lv_at hl 2 rfl) ?_
  obtain ⟨g9, hch9, hwf9, hmx9⟩ := id hC
  refine g_calli (va_runV (As := []) (rest := []) ⟨hx, hb, hml, hown, hts⟩ (c_left l D tys [gO h0 lo (nI n) (1 + 1)] L S H.size (i := 0) rfl hwf9 hmx9 hch9) (cwV 0 hts gL_law_X1_lowestLeft rfl rfl rfl (by decide +kernel) ⟨Nat.le_of_ble_eq_true rfl, Nat.le_of_ble_eq_true rfl⟩) (gP_V (va_recv hK hP (ci := 1) rfl (g_inX (X := [gO h0 lo (nI n) (1 + 1)]) (i := 0) rfl)) hP hK hD gBl_N (fun U _ hW => hGG.1.warm hW)) rfl rfl hl.1 rfl (lv_room (Nat.le_of_ble_eq_true rfl)) dL_law_483 ⟨by show kc + 0 + 0 + 0 + 0 + 0 + 4 + 0 + 1 + 1 + 0 + 0 ≤ 625101; omega, by show ns + 0 + 0 + 0 + 0 + 0 + 16 + 0 + 6 + 6 + 0 + 0 ≤ 7226164; omega⟩) hD hS hA (fun r9 u9 H locs hr9 hP hD hS => ?_)
  have hP : va_P D vwCl ([gO h0 lo (nI n) (1 + 1)] ++ va_pl L (gE S)) H := hP
  have hD : va_D (fun q : Nat => s.heap.size ≤ q) ([gO h0 lo (nI n) (1 + 1)] ++ va_pl L (gE S)) := hD
  obtain ⟨v, rfl, hv⟩ := hr9
  refine lv_iconst (v := nI 1) hx hb dL_law_486 (by decide) ?_
  refine lv_icmp_ne (tgt := 494) hx hb dL_law_487 (by decide) (fun c9 => absurd (z_eq (rd_left hqe hqa hv)) c9) (fun _ => ?_)
  refine lv_iconst (v := nI 1) hx hb dL_law_490 (by decide) ?_
  refine lv_goto (tgt := 495) hx hb dL_law_491 (by decide) ?_
  refine g_top (y := 1) rfl ?_
  refine va_forget (fun q hq => hS.2.2 q hq) ?_
  refine W.widen (k := 625101) (n := 7226164) (by omega) (by omega) ?_
  exact lw_ret hx hb hr hlocks dL_law_495
set_option maxHeartbeats 4000000 in
set_option maxRecDepth 100000 in
/-- all is drunk, goblet by goblet -/
theorem law_drink {p : Program} {l : Launch} {e : Env} {s : State} {m : MethodId} {below : List Frame} {meth : Method} {c : Code} {D : va_G} {tys : List (ClassId × FieldType)} {b Ls h0 lo : Nat} {xs : Nat → Int32} (hx : p.tables.exec = Jvm.exec) (hb : c.code = cL_law) (hr : meth.sig.returnType = ret) (hlocks : meth.locks = false) (hml : c.maxLocals = 10) (hts : ∀ w ∈ wsL_law, w.before #[Value.ref b] s = true) (hown : s.vm.findClass RL = some m.cls) (hK : va_K D vwCl tys s) (hl9 : l.stackTraces = false) (hGG : gG (fun q : Nat => s.heap.size ≤ q) s) (hXs : va_X b Ls xs s s.heap) (hbl : b < s.heap.size) (hLs : Ls ≤ 260) {n : Nat} : ∀ (d i : Nat) (P : Nat → Int32) (kc ns : Nat) (L : List Nat) (S : gS) (H : Heap) (locs : List Loc) (ls : Array Slot), i + d = 8 → (∀ k, k < i → gct P (nI k) 5000 = 0) → (1 ≤ i → gct P 8 5000 = 0) → kc ≤ 80000 + i + 6 * gct P 9 5000 → ns ≤ 480000 + 6 * i + 28 * gct P 9 5000 → gInv P n → gCh P lo (L, S) → va_P D vwCl ([gO h0 lo (nI n) 1] ++ va_pl L (gE S)) H → va_D (fun q : Nat => s.heap.size ≤ q) ([gO h0 lo (nI n) 1] ++ va_pl L (gE S)) → va_S (fun q : Nat => s.heap.size ≤ q) s.heap H locs → lv_has ls 10 [(0, .ref b), (1, .ref h0), (2, .int (nI 1)), (3, .int (nI i))] → W p l e room_1 s m #[Value.ref b] below meth c H locs kc ns (lw_Z below #[Value.ref b] s) (F0 m 366 ls []) := by
  have hA : ∀ q : Nat, s.heap.size ≤ q → (fun q : Nat => s.heap.size ≤ q) q := fun _ h => h
  intro d
  induction d with
  | zero =>
    intro i P kc ns L S H locs ls hi hz hz8 hkc hns hI hC hP hD hS hl
    have hn2 := hI.2.1
    have h9 : gct P 9 5000 ≤ n := h_few hI.1 (k := 9) (by omega)
    refine lv_iload_n hx hb dL_law_366 rfl (lv_at hl 3 rfl) ?_
    refine lv_bipush (v := nI 8) hx hb dL_law_367 (by decide) ?_
    refine lv_icmp_ge (tgt := 411) hx hb dL_law_369 (by decide) (fun _ => ?_) (fun c9 => absurd (z_le (by omega) (by omega)) c9)
    exact law_end hx hb hr hlocks hml hts hown hK hl9 hGG hXs hbl hLs (by omega) (by omega) hI (fun k hk => hz k (by omega)) (hz8 (by omega)) L S H locs ls hC hP hD hS (lv_sub hl [0, 1, 2] rfl)
  | succ d ih =>
    intro i P kc ns L S H locs ls hi hz hz8 hkc hns hI hC hP hD hS hl
    have hi8 : i < 8 := by omega
    have hg8 : ¬ nI i = 8 := h_ne (b := 8) (by omega) (by omega) (by omega)
    have hg9 : ¬ nI i = 9 := h_ne (b := 9) (by omega) (by omega) (by omega)
    have hin : ∀ (f : Nat) (P : Nat → Int32) (kc ns : Nat) (L : List Nat) (S : gS) (H : Heap) (locs : List Loc) (ls : Array Slot), n < gct P 9 5000 + f → (∀ k, k < i → gct P (nI k) 5000 = 0) → (1 ≤ i → gct P 8 5000 = 0) → kc ≤ 80000 + i + 6 * gct P 9 5000 → ns ≤ 480000 + 6 * i + 28 * gct P 9 5000 → gInv P n → gCh P lo (L, S) → va_P D vwCl ([gO h0 lo (nI n) 1] ++ va_pl L (gE S)) H → va_D (fun q : Nat => s.heap.size ≤ q) ([gO h0 lo (nI n) 1] ++ va_pl L (gE S)) → va_S (fun q : Nat => s.heap.size ≤ q) s.heap H locs → lv_has ls 10 [(0, .ref b), (1, .ref h0), (2, .int (nI 1)), (3, .int (nI i))] → W p l e room_1 s m #[Value.ref b] below meth c H locs kc ns (lw_Z below #[Value.ref b] s) (F0 m 376 ls []) := by
      intro f
      induction f with
      | zero =>
        intro P kc ns L S H locs ls hf hz hz8 hkc hns hI hC hP hD hS hl
        have h9 : gct P 9 5000 ≤ n := h_few hI.1 (k := 9) (by omega)
        omega
      | succ f ihf =>
        intro P kc ns L S H locs ls hf hz hz8 hkc hns hI hC hP hD hS hl
        have hev := hI.1
        have hn1 := hI.1.1
        have hn2 := hI.2.1
        have h9 : gct P 9 5000 ≤ n := h_few hev (k := 9) (by omega)
        have hj388 : ∀ (y9 : Nat) (L : List Nat) (S : gS) (H : Heap) (locs : List Loc) (ls : Array Slot), ¬ y9 = 0 → (glow (fun j => P j = nI i) 5000 y9 ∨ (glow (fun j => P j = nI i) 5000 0 ∧ glow (fun j => P j = 8) 5000 y9)) → gCh P lo (L, S) → va_P D vwCl ([gO h0 lo (nI n) 1] ++ va_pl L (gE S)) H → va_D (fun q : Nat => s.heap.size ≤ q) ([gO h0 lo (nI n) 1] ++ va_pl L (gE S)) → va_S (fun q : Nat => s.heap.size ≤ q) s.heap H locs → lv_has ls 10 [(0, .ref b), (1, .ref h0), (2, .int (nI 1)), (3, .int (nI i))] → W p l e room_1 s m #[Value.ref b] below meth c H locs (kc + 1) (ns + 6) (lw_Z below #[Value.ref b] s) (F0 m 388 ls []) := by
          intro y9 L S H locs ls hy0 hyy hC hP hD hS hl
          refine lv_aload_n hx hb dL_law_388 rfl (lv_at hl 1 rfl) ?_
          refine lv_iload_n hx hb dL_law_389 rfl (lv_at hl 3 rfl) ?_
          refine g_xcalli (vx_runV (As := [.int (nI i)]) (rest := []) ⟨hx, hb, hml, hown, hts⟩ (c_drink l hl9 D tys [gO h0 lo (nI n) 1] L S H.size (i := 0) rfl hC (nI i) (gEv_out hev)) (cwV 1 hts gL_law_X1_drink rfl rfl rfl (by decide +kernel) ⟨Nat.le_of_ble_eq_true rfl, Nat.le_of_ble_eq_true rfl⟩) (gP_V (va_recv hK hP (ci := 1) rfl (g_inX (X := [gO h0 lo (nI n) 1]) (i := 0) rfl)) hP hK hD gBl_G (fun U hU hW => gG.call hGG hS (gA_sub hD hS hA) U hU hW)) rfl rfl hl.1 rfl (lv_room (Nat.le_of_ble_eq_true rfl)) dL_law_390 ⟨by show kc + 1 + 5 ≤ 625101; omega, by show ns + 6 + 22 ≤ 7226164; omega⟩) hD hS hA (fun E ce q9 u9 H locs hc hP hD hS e1 e2 e3 => False.elim (xb_drink (h_gob hi8) (fun z => by rcases hyy with h | ⟨-, h⟩; exact absurd ((glow_ct h).mpr z.1) hy0; exact absurd ((glow_ct h).mpr z.2) hy0) hc.1)) (fun r9 u9 H locs hr9 hP hD hS => ?_)
          obtain ⟨-, d9, d91, d92, hr9, d93, hC⟩ := hr9
          obtain ⟨L, S⟩ := u9
          have hP : va_P D vwCl ([gO h0 lo (nI n) 1] ++ va_pl L (gE S)) H := hP
          have hD : va_D (fun q : Nat => s.heap.size ≤ q) ([gO h0 lo (nI n) 1] ++ va_pl L (gE S)) := hD
          have hr9 : r9 = nI d9 := hr9
          subst hr9
          have hpd : P d9 = nI i ∨ P d9 = 8 := by
            rcases d93 with z | ⟨-, z⟩
            · exact Or.inl (glow_at z (by omega)).2.2
            · exact Or.inr (glow_at z (by omega)).2.2
          have hdn : d9 ≤ n := by rcases hpd with z | z; exact (inv_in (k := i) (by omega) hev z).2; exact (inv_in (k := 8) (by omega) hev z).2
          have hd9 : ¬ P d9 = 9 := by rcases hpd with z | z; rw [z]; exact hg9; rw [z]; decide
          obtain ⟨Q, hQ⟩ : ∃ q, q = va_up P d9 9 := ⟨_, rfl⟩
          have hQi : gInv Q n := by rw [hQ]; exact inv_up (k := 9) (by omega) d91 hdn hI
          have hQ9 : gct Q 9 5000 = gct P 9 5000 + 1 := by rw [hQ, up_to d91 hd9 5000, if_pos d92]
          have hQz : ∀ k, k < i → gct Q (nI k) 5000 = 0 := fun k hk => by
            rw [hQ, up_ot (gct_none (hz k hk) d9 d91 d92) (show ¬ (9 : Int32) = nI k from h_ne (a := 9) (by omega) (by omega) (by omega))]
            exact hz k hk
          have hQ8 : 1 ≤ i → gct Q 8 5000 = 0 := fun hk => by
            rw [hQ, up_ot (gct_none (hz8 hk) d9 d91 d92) (by decide)]
            exact hz8 hk
          rw [← hQ] at hC
          refine lv_if_le (tgt := 400) hx hb dL_law_393 (by decide) (fun c9 => absurd c9 ((z_nle (by omega) (by omega) : ¬ nI d9 ≤ nI 0))) (fun _ => ?_)
          refine lv_iconst (v := nI 1) hx hb dL_law_396 (by decide) ?_
          refine lv_goto (tgt := 401) hx hb dL_law_397 (by decide) ?_
          refine lv_istore_n (lv' := [(2, .int (nI 1)), (0, .ref b), (1, .ref h0), (3, .int (nI i))]) hx hb dL_law_401 rfl hl (by decide) rfl (fun ls hl => ?_)
          refine lv_goto (tgt := 376) hx hb dL_law_402 (by decide) ?_
          exact ihf Q (kc + 1 + 5) (ns + 6 + 22) L S H locs ls (by omega) hQz hQ8 (by omega) (by omega) hQi hC hP hD hS (lv_sub hl [1, 2, 0, 3] rfl)
        refine lv_iload_n hx hb dL_law_376 rfl (lv_at hl 2 rfl) ?_
        refine lv_if_eq (tgt := 405) hx hb dL_law_377 (by decide) (fun c9 => absurd c9 (by decide)) (fun _ => ?_)
        refine lv_aload_n hx hb dL_law_380 rfl (lv_at hl 1 rfl) ?_
        refine lv_iload_n hx hb dL_law_381 rfl (lv_at hl 3 rfl) ?_
        refine g_xcalli (vx_runV (As := [.int (nI i)]) (rest := []) ⟨hx, hb, hml, hown, hts⟩ (c_nextOf l hl9 D tys [gO h0 lo (nI n) 1] L S H.size (i := 0) rfl hC (nI i)) (cwV 1 hts gL_law_X1_nextOf rfl rfl rfl (by decide +kernel) ⟨Nat.le_of_ble_eq_true rfl, Nat.le_of_ble_eq_true rfl⟩) (gP_V (va_recv hK hP (ci := 1) rfl (g_inX (X := [gO h0 lo (nI n) 1]) (i := 0) rfl)) hP hK hD gBl_G (fun U hU hW => gG.call hGG hS (gA_sub hD hS hA) U hU hW)) rfl rfl hl.1 rfl (lv_room (Nat.le_of_ble_eq_true rfl)) dL_law_382 ⟨by show kc + 1 ≤ 625101; omega, by show ns + 6 ≤ 7226164; omega⟩) hD hS hA (fun E ce q9 u9 H locs hc hP hD hS e1 e2 e3 => False.elim (hc.1.2 (h_gob hi8))) (fun r9 u9 H locs hr9 hP hD hS => ?_)
        obtain ⟨⟨-, v, y, hv, hy, hr9⟩, hC⟩ := hr9
        obtain ⟨L, S⟩ := u9
        have hP : va_P D vwCl ([gO h0 lo (nI n) 1] ++ va_pl L (gE S)) H := hP
        have hD : va_D (fun q : Nat => s.heap.size ≤ q) ([gO h0 lo (nI n) 1] ++ va_pl L (gE S)) := hD
        have hr9 : r9 = nI (if v = 0 then y else v) := hr9
        subst hr9
        have hv1 := glow_ct hv
        have hy1 := glow_ct hy
        by_cases hv0 : v = 0
        · subst hv0
          by_cases hy0 : y = 0
          · subst hy0
            refine g_top (y := nI 0) (rfl) ?_
            refine lv_if_le (tgt := 405) hx hb dL_law_385 (by decide) (fun _ => ?_) (fun c9 => absurd (by decide) c9)
            refine lv_iinc (v := nI (i + 1)) (lv' := [(3, .int (nI (i + 1))), (0, .ref b), (1, .ref h0), (2, .int (nI 1))]) hx hb dL_law_405 hl (k := 3) rfl (nI_1 _) (by decide) rfl (fun ls hl => ?_)
            refine lv_goto (tgt := 366) hx hb dL_law_408 (by decide) ?_
            have hz2 : ∀ k, k < i + 1 → gct P (nI k) 5000 = 0 := fun k hk => by
              by_cases z : k = i
              · rw [z]; exact hv1.mp rfl
              · exact hz k (by omega)
            exact ih (i + 1) P (kc + 1) (ns + 6) L S H locs ls (by omega) hz2 (fun _ => hy1.mp rfl) (by omega) (by omega) hI hC hP hD hS (lv_sub hl [1, 2, 3, 0] rfl)
          · have hyl := glow_le hy
            refine g_top (y := nI y) (by rw [if_pos rfl]) ?_
            refine lv_if_le (tgt := 405) hx hb dL_law_385 (by decide) (fun c9 => absurd c9 ((z_nle (by omega) (by omega) : ¬ nI y ≤ nI 0))) (fun _ => ?_)
            exact hj388 y L S H locs ls hy0 (Or.inr ⟨hv, hy⟩) hC hP hD hS (lv_sub hl [0, 1, 2, 3] rfl)
        · have hvl := glow_le hv
          refine g_top (y := nI v) (by rw [if_neg hv0]) ?_
          refine lv_if_le (tgt := 405) hx hb dL_law_385 (by decide) (fun c9 => absurd c9 ((z_nle (by omega) (by omega) : ¬ nI v ≤ nI 0))) (fun _ => ?_)
          exact hj388 v L S H locs ls hv0 (Or.inl hv) hC hP hD hS (lv_sub hl [0, 1, 2, 3] rfl)
    refine lv_iload_n hx hb dL_law_366 rfl (lv_at hl 3 rfl) ?_
    refine lv_bipush (v := nI 8) hx hb dL_law_367 (by decide) ?_
    refine lv_icmp_ge (tgt := 411) hx hb dL_law_369 (by decide) (fun c9 => absurd c9 (z_nle (by omega) (by omega))) (fun _ => ?_)
    refine lv_iload_n hx hb dL_law_372 rfl (lv_at hl 2 rfl) ?_
    refine lv_if_eq (tgt := 411) hx hb dL_law_373 (by decide) (fun c9 => absurd c9 (by decide)) (fun _ => ?_)
    exact hin (n + 1) P kc ns L S H locs ls (by omega) hz hz8 hkc hns hI hC hP hD hS (lv_sub hl [0, 1, 2, 3] rfl)
