/-! p25: the law's turns -/
set_option maxHeartbeats 4000000 in
set_option maxRecDepth 100000 in
theorem law_loop {p : Program} {l : Launch} {e : Env} {s : State} {m : MethodId} {below : List Frame} {meth : Method} {c : Code} {D : va_G} {tys : List (ClassId × FieldType)} {b Ls h0 lo : Nat} {xs : Nat → Int32} (hx : p.tables.exec = Jvm.exec) (hb : c.code = cL_law) (hr : meth.sig.returnType = ret) (hlocks : meth.locks = false) (hml : c.maxLocals = 10) (hts : ∀ w ∈ wsL_law, w.before #[Value.ref b] s = true) (hown : s.vm.findClass RL = some m.cls) (hK : va_K D vwCl tys s) (hl9 : l.stackTraces = false) (hGG : gG (fun q : Nat => s.heap.size ≤ q) s) (hXs : va_X b Ls xs s s.heap) (hbl : b < s.heap.size) (hLs : Ls ≤ 260) : ∀ (d t : Nat) (P : Nat → Int32) (n kc ns : Nat) (L : List Nat) (S : gS) (H : Heap) (locs : List Loc) (ls : Array Slot), t + d = 130 → kc ≤ 10 + 600 * t → ns ≤ 60 + 3600 * t → gInv P n → gCh P lo (L, S) → va_P D vwCl ([gO h0 lo (nI n) 1] ++ va_pl L (gE S)) H → va_D (fun q : Nat => s.heap.size ≤ q) ([gO h0 lo (nI n) 1] ++ va_pl L (gE S)) → va_S (fun q : Nat => s.heap.size ≤ q) s.heap H locs → lv_has ls 10 [(0, .ref b), (1, .ref h0), (2, .int (nI 1)), (3, .int (nI t))] → W p l e room_1 s m #[Value.ref b] below meth c H locs kc ns (lw_Z below #[Value.ref b] s) (F0 m 12 ls []) := by
  have hA : ∀ q : Nat, s.heap.size ≤ q → (fun q : Nat => s.heap.size ≤ q) q := fun _ h => h
  have hbA : ¬ (fun q : Nat => s.heap.size ≤ q) b := Nat.not_le.mpr hbl
  intro d
  induction d with
  | zero =>
    intro t P n kc ns L S H locs ls ht hkc hns hI hC hP hD hS hl
    refine lv_iload_n hx hb dL_law_12 rfl (lv_at hl 3 rfl) ?_
    refine lv_sipush (v := nI 130) hx hb dL_law_13 (by decide) ?_
    refine lv_icmp_ge (tgt := 364) hx hb dL_law_16 (by decide) (fun _ => ?_) (fun c9 => absurd (z_le (by omega) (by omega)) c9)
    refine lv_iconst (v := nI 0) hx hb dL_law_364 (by decide) ?_
    refine lv_istore_n (lv' := [(3, .int (nI 0)), (0, .ref b), (1, .ref h0), (2, .int (nI 1))]) hx hb dL_law_365 rfl hl (by decide) rfl (fun ls hl => ?_)
    exact law_drink hx hb hr hlocks hml hts hown hK hl9 hGG hXs hbl hLs 8 0 P kc ns L S H locs ls rfl (fun k hk => absurd hk (Nat.not_lt_zero k)) (fun h => absurd h (by omega)) (by omega) (by omega) hI hC hP hD hS (lv_sub hl [1, 2, 3, 0] rfl)
  | succ d ih =>
    intro t P n kc ns L S H locs ls ht hkc hns hI hC hP hD hS hl
    have ht130 : t < 130 := by omega
    have hev := hI.1
    have hn1 := hI.1.1
    have hn2 := hI.2.1
    have hf8 : gct P 8 5000 ≤ n := h_few hev (k := 8) (by omega)
    have hj334 : ∀ (P : Nat → Int32) (n : Nat) (L : List Nat) (S : gS) (H : Heap) (locs : List Loc) (ls : Array Slot), gInv P n → gCh P lo (L, S) → va_P D vwCl ([gO h0 lo (nI n) 1] ++ va_pl L (gE S)) H → va_D (fun q : Nat => s.heap.size ≤ q) ([gO h0 lo (nI n) 1] ++ va_pl L (gE S)) → va_S (fun q : Nat => s.heap.size ≤ q) s.heap H locs → lv_has ls 10 [(0, .ref b), (1, .ref h0), (2, .int (nI 1)), (3, .int (nI t))] → W p l e room_1 s m #[Value.ref b] below meth c H locs (kc + 60) (ns + 300) (lw_Z below #[Value.ref b] s) (F0 m 334 ls []) := by
      intro P n L S H locs ls hI hC hP hD hS hl
      refine lv_iload_n hx hb dL_law_334 rfl (lv_at hl 2 rfl) ?_
      refine lv_if_eq (tgt := 356) hx hb dL_law_335 (by decide) (fun c9 => absurd c9 (by decide)) (fun _ => ?_)
      refine lv_aload_n hx hb dL_law_338 rfl (lv_at hl 1 rfl) ?_
      refine g_calli (va_runS (As := [.ref h0]) (rest := []) ⟨hx, hb, hml, hown, hts⟩ (w_isAllSomewhere l hl9 D tys L S H.size hC hI) (va_cwS 1 hts gL_law_L_isAllSomewhere rfl rfl rfl (by decide +kernel) ⟨Nat.le_of_ble_eq_true rfl, Nat.le_of_ble_eq_true rfl⟩) (gP_S hP hK hD gBl_G (fun U hU hW => gG.call hGG hS (gA_sub hD hS hA) U hU hW)) rfl rfl hl.1 rfl (lv_room (Nat.le_of_ble_eq_true rfl)) dL_law_339 ⟨by show kc + 60 + 60 ≤ 625101; omega, by show ns + 300 + 340 ≤ 7226164; omega⟩) hD hS hA (fun r9 u9 H locs hr9 hP hD hS => ?_)
      obtain ⟨hr9, hC⟩ := hr9
      obtain ⟨L, S⟩ := u9
      have hP : va_P D vwCl ([gO h0 lo (nI n) 1] ++ va_pl L (gE S)) H := hP
      have hD : va_D (fun q : Nat => s.heap.size ≤ q) ([gO h0 lo (nI n) 1] ++ va_pl L (gE S)) := hD
      have hr9 : r9 = nI 1 := hr9
      subst hr9
      refine lv_if_eq (tgt := 356) hx hb dL_law_342 (by decide) (fun c9 => absurd c9 (by decide)) (fun _ => ?_)
      refine lv_aload_n hx hb dL_law_345 rfl (lv_at hl 1 rfl) ?_
      refine g_calli (va_runS (As := [.ref h0]) (rest := []) ⟨hx, hb, hml, hown, hts⟩ (w_areRangesApart l hl9 D tys L S H.size hC hI) (va_cwS 1 hts gL_law_L_areRangesApart rfl rfl rfl (by decide +kernel) ⟨Nat.le_of_ble_eq_true rfl, Nat.le_of_ble_eq_true rfl⟩) (gP_S hP hK hD gBl_G (fun U hU hW => gG.call hGG hS (gA_sub hD hS hA) U hU hW)) rfl rfl hl.1 rfl (lv_room (Nat.le_of_ble_eq_true rfl)) dL_law_346 ⟨by show kc + 60 + 60 + 450 ≤ 625101; omega, by show ns + 300 + 340 + 2700 ≤ 7226164; omega⟩) hD hS hA (fun r9 u9 H locs hr9 hP hD hS => ?_)
      obtain ⟨hr9, hC⟩ := hr9
      obtain ⟨L, S⟩ := u9
      have hP : va_P D vwCl ([gO h0 lo (nI n) 1] ++ va_pl L (gE S)) H := hP
      have hD : va_D (fun q : Nat => s.heap.size ≤ q) ([gO h0 lo (nI n) 1] ++ va_pl L (gE S)) := hD
      have hr9 : r9 = nI 1 := hr9
      subst hr9
      refine lv_if_eq (tgt := 356) hx hb dL_law_349 (by decide) (fun c9 => absurd c9 (by decide)) (fun _ => ?_)
      refine lv_iconst (v := nI 1) hx hb dL_law_352 (by decide) ?_
      refine lv_goto (tgt := 357) hx hb dL_law_353 (by decide) ?_
      refine lv_istore_n (lv' := [(2, .int (nI 1)), (0, .ref b), (1, .ref h0), (3, .int (nI t))]) hx hb dL_law_357 rfl hl (by decide) rfl (fun ls hl => ?_)
      refine lv_iinc (v := nI (t + 1)) (lv' := [(3, .int (nI (t + 1))), (2, .int (nI 1)), (0, .ref b), (1, .ref h0)]) hx hb dL_law_358 hl (k := 3) rfl (nI_1 _) (by decide) rfl (fun ls hl => ?_)
      refine lv_goto (tgt := 12) hx hb dL_law_361 (by decide) ?_
      exact ih (t + 1) P n (kc + 60 + 60 + 450) (ns + 300 + 340 + 2700) L S H locs ls (by omega) (by omega) (by omega) hI hC hP hD hS (lv_sub hl [2, 3, 1, 0] rfl)
    refine lv_iload_n hx hb dL_law_12 rfl (lv_at hl 3 rfl) ?_
    refine lv_sipush (v := nI 130) hx hb dL_law_13 (by decide) ?_
    refine lv_icmp_ge (tgt := 364) hx hb dL_law_16 (by decide) (fun c9 => absurd c9 (z_nle (by omega) (by omega))) (fun _ => ?_)
    refine lv_iload_n hx hb dL_law_19 rfl (lv_at hl 2 rfl) ?_
    refine lv_if_eq (tgt := 364) hx hb dL_law_20 (by decide) (fun c9 => absurd c9 (by decide)) (fun _ => ?_)
    refine lv_aload_n hx hb dL_law_23 rfl (lv_at hl 0 rfl) ?_
    refine lv_iload_n hx hb dL_law_24 rfl (lv_at hl 3 rfl) ?_
    refine lv_sipush (v := nI 30000) hx hb dL_law_25 (by decide) ?_
    refine g_calli (va_runS (As := [.ref b, .int (nI t), .int (nI 30000)]) (rest := []) ⟨hx, hb, hml, hown, hts⟩ (w_drawn l D tys ([gO h0 lo (nI n) 1] ++ va_pl L (gE S)) H.size (b := b) (Ls := Ls) (xs := xs) ht130 hLs) (va_cwS 3 hts gL_law_L_drawn rfl rfl rfl (by decide +kernel) ⟨Nat.le_of_ble_eq_true rfl, Nat.le_of_ble_eq_true rfl⟩) (gP_S hP hK hD gBl_Xs (fun U hU hW => ⟨by rw [hU]; exact va_X.moved hW.alike (hXs.kept (hS.2.1 b hbl hbA)), by rw [hU]; exact Nat.lt_of_lt_of_le hbl hS.1, fun h => hbA (gA_sub hD hS hA b h)⟩)) rfl rfl hl.1 rfl (lv_room (Nat.le_of_ble_eq_true rfl)) dL_law_28 ⟨by show kc + 0 ≤ 625101; omega, by show ns + 0 ≤ 7226164; omega⟩) hD hS hA (fun r9 u9 H locs hr9 hP hD hS => ?_)
    obtain ⟨x, hx30, rfl⟩ := hr9
    have hP : va_P D vwCl ([gO h0 lo (nI n) 1] ++ va_pl L (gE S)) H := hP
    have hD : va_D (fun q : Nat => s.heap.size ≤ q) ([gO h0 lo (nI n) 1] ++ va_pl L (gE S)) := hD
    obtain ⟨gb, hgbd⟩ : ∃ g, g = x / 16 % 8 := ⟨_, rfl⟩
    obtain ⟨cn, hcnd⟩ : ∃ g, g = 1 + x / 128 % 20 := ⟨_, rfl⟩
    obtain ⟨wh, hwhd⟩ : ∃ g, g = x % 16 := ⟨_, rfl⟩
    have hgb : gb < 8 := by omega
    have hc1 : 1 ≤ cn := by omega
    have hc2 : cn ≤ 20 := by omega
    have hg8 : ¬ nI gb = 8 := h_ne (b := 8) (by omega) (by omega) (by omega)
    have hg10 : ¬ nI gb = 10 := h_ne (b := 10) (by omega) (by omega) (by omega)
    have hfg := h_few hev (k := gb) (by omega)
    refine lv_istore (lv' := [(4, .int (nI x)), (0, .ref b), (1, .ref h0), (2, .int (nI 1)), (3, .int (nI t))]) hx hb dL_law_31 hl (by decide) rfl (fun ls hl => ?_)
    refine lv_iload hx hb dL_law_33 (lv_at hl 0 rfl) ?_
    refine lv_bipush (v := nI 16) hx hb dL_law_35 (by decide) ?_
    refine lv_idiv hx hb dL_law_37 (by decide) ?_
    refine g_top (y := nI (x / 16)) (pk_div (by omega) (by omega) (by omega)) ?_
    refine lv_bipush (v := nI 8) hx hb dL_law_38 (by decide) ?_
    refine lv_irem hx hb dL_law_40 (by decide) ?_
    refine g_top (y := nI ((x / 16) % 8)) (pk_rem (by omega) (by omega) (by omega)) ?_
    refine g_top (y := nI gb) (z_eq hgbd.symm) ?_
    refine lv_istore (lv' := [(5, .int (nI gb)), (4, .int (nI x)), (0, .ref b), (1, .ref h0), (2, .int (nI 1)), (3, .int (nI t))]) hx hb dL_law_41 hl (by decide) rfl (fun ls hl => ?_)
    refine lv_iconst (v := nI 1) hx hb dL_law_43 (by decide) ?_
    refine lv_iload hx hb dL_law_44 (lv_at hl 1 rfl) ?_
    refine lv_sipush (v := nI 128) hx hb dL_law_46 (by decide) ?_
    refine lv_idiv hx hb dL_law_49 (by decide) ?_
    refine g_top (y := nI (x / 128)) (pk_div (by omega) (by omega) (by omega)) ?_
    refine lv_bipush (v := nI 20) hx hb dL_law_50 (by decide) ?_
    refine lv_irem hx hb dL_law_52 (by decide) ?_
    refine g_top (y := nI ((x / 128) % 20)) (pk_rem (by omega) (by omega) (by omega)) ?_
    refine lv_iadd hx hb dL_law_53 ?_
    refine g_top (y := nI (1 + ((x / 128) % 20))) (nI_add _ _) ?_
    refine g_top (y := nI cn) (z_eq hcnd.symm) ?_
    refine lv_istore (lv' := [(6, .int (nI cn)), (5, .int (nI gb)), (4, .int (nI x)), (0, .ref b), (1, .ref h0), (2, .int (nI 1)), (3, .int (nI t))]) hx hb dL_law_54 hl (by decide) rfl (fun ls hl => ?_)
    refine lv_iload hx hb dL_law_56 (lv_at hl 2 rfl) ?_
    refine lv_bipush (v := nI 16) hx hb dL_law_58 (by decide) ?_
    refine lv_irem hx hb dL_law_60 (by decide) ?_
    refine g_top (y := nI (x % 16)) (pk_rem (by omega) (by omega) (by omega)) ?_
    refine g_top (y := nI wh) (z_eq hwhd.symm) ?_
    refine lv_istore (lv' := [(7, .int (nI wh)), (6, .int (nI cn)), (5, .int (nI gb)), (4, .int (nI x)), (0, .ref b), (1, .ref h0), (2, .int (nI 1)), (3, .int (nI t))]) hx hb dL_law_61 hl (by decide) rfl (fun ls hl => ?_)
    have hj272 : ∀ (L : List Nat) (S : gS) (H : Heap) (locs : List Loc) (ls : Array Slot), gCh P lo (L, S) → va_P D vwCl ([gO h0 lo (nI n) 1] ++ va_pl L (gE S)) H → va_D (fun q : Nat => s.heap.size ≤ q) ([gO h0 lo (nI n) 1] ++ va_pl L (gE S)) → va_S (fun q : Nat => s.heap.size ≤ q) s.heap H locs → lv_has ls 10 [(0, .ref b), (1, .ref h0), (2, .int (nI 1)), (3, .int (nI t)), (4, .int (nI x)), (5, .int (nI gb)), (6, .int (nI cn)), (7, .int (nI wh))] → W p l e room_1 s m #[Value.ref b] below meth c H locs (kc + 10) (ns + 50) (lw_Z below #[Value.ref b] s) (F0 m 272 ls []) := by
      intro L S H locs ls hC hP hD hS hl
      refine lv_iload hx hb dL_law_272 (lv_at hl 7 rfl) ?_
      refine lv_bipush (v := nI 12) hx hb dL_law_274 (by decide) ?_
      refine lv_icmp_ge (tgt := 291) hx hb dL_law_276 (by decide) (fun c1 => ?_) (fun c1 => ?_)
      · skip
        refine lv_iload hx hb dL_law_291 (lv_at hl 7 rfl) ?_
        refine lv_bipush (v := nI 14) hx hb dL_law_293 (by decide) ?_
        refine lv_icmp_ge (tgt := 308) hx hb dL_law_295 (by decide) (fun c2 => ?_) (fun c2 => ?_)
        · obtain ⟨ta, htad⟩ : ∃ g, g = ((gb + 1) + ((x / 128) % 7)) % 8 := ⟨_, rfl⟩
          have hta : ta < 8 := by omega
          have hft : gb ≠ ta := by omega
          refine lv_aload_n hx hb dL_law_308 rfl (lv_at hl 1 rfl) ?_
          refine lv_iload hx hb dL_law_309 (lv_at hl 5 rfl) ?_
          refine lv_iload hx hb dL_law_311 (lv_at hl 5 rfl) ?_
          refine lv_iconst (v := nI 1) hx hb dL_law_313 (by decide) ?_
          refine lv_iadd hx hb dL_law_314 ?_
          refine g_top (y := nI (gb + 1)) (nI_add _ _) ?_
          refine lv_iload hx hb dL_law_315 (lv_at hl 4 rfl) ?_
          refine lv_sipush (v := nI 128) hx hb dL_law_317 (by decide) ?_
          refine lv_idiv hx hb dL_law_320 (by decide) ?_
          refine g_top (y := nI (x / 128)) (pk_div (by omega) (by omega) (by omega)) ?_
          refine lv_bipush (v := nI 7) hx hb dL_law_321 (by decide) ?_
          refine lv_irem hx hb dL_law_323 (by decide) ?_
          refine g_top (y := nI ((x / 128) % 7)) (pk_rem (by omega) (by omega) (by omega)) ?_
          refine lv_iadd hx hb dL_law_324 ?_
          refine g_top (y := nI ((gb + 1) + ((x / 128) % 7))) (nI_add _ _) ?_
          refine lv_bipush (v := nI 8) hx hb dL_law_325 (by decide) ?_
          refine lv_irem hx hb dL_law_327 (by decide) ?_
          refine g_top (y := nI (((gb + 1) + ((x / 128) % 7)) % 8)) (pk_rem (by omega) (by omega) (by omega)) ?_
          refine g_top (y := nI ta) (z_eq htad.symm) ?_
          refine lv_iload hx hb dL_law_328 (lv_at hl 6 rfl) ?_
          refine g_calli (va_runS (As := [.ref h0, .int (nI gb), .int (nI ta), .int (nI cn)]) (rest := []) ⟨hx, hb, hml, hown, hts⟩ (w_isPassedRound l hl9 D tys L S H.size hC hI hgb hta hft hc1 hc2) (va_cwS 4 hts gL_law_L_isPassedRound rfl rfl rfl (by decide +kernel) ⟨Nat.le_of_ble_eq_true rfl, Nat.le_of_ble_eq_true rfl⟩) (gP_S hP hK hD gBl_G (fun U hU hW => gG.call hGG hS (gA_sub hD hS hA) U hU hW)) rfl rfl hl.1 rfl (lv_room (Nat.le_of_ble_eq_true rfl)) dL_law_330 ⟨by show kc + 10 + 20 ≤ 625101; omega, by show ns + 50 + 100 ≤ 7226164; omega⟩) hD hS hA (fun r9 u9 H locs hr9 hP hD hS => ?_)
          obtain ⟨hr9, P2, hI2, hC⟩ := hr9
          obtain ⟨L, S⟩ := u9
          have hP : va_P D vwCl ([gO h0 lo (nI n) 1] ++ va_pl L (gE S)) H := hP
          have hD : va_D (fun q : Nat => s.heap.size ≤ q) ([gO h0 lo (nI n) 1] ++ va_pl L (gE S)) := hD
          have hr9 : r9 = nI 1 := hr9
          subst hr9
          refine lv_istore_n (lv' := [(2, .int (nI 1)), (0, .ref b), (1, .ref h0), (3, .int (nI t)), (4, .int (nI x)), (5, .int (nI gb)), (6, .int (nI cn)), (7, .int (nI wh))]) hx hb dL_law_333 rfl hl (by decide) rfl (fun ls hl => ?_)
          refine W.widen (k := (kc + 60)) (n := (ns + 300)) (by omega) (by omega) ?_
          exact hj334 P2 n L S H locs ls hI2 hC hP hD hS (lv_sub hl [1, 2, 0, 3] rfl)
        · skip
          refine lv_aload_n hx hb dL_law_298 rfl (lv_at hl 1 rfl) ?_
          refine lv_iload hx hb dL_law_299 (lv_at hl 5 rfl) ?_
          refine g_calli (va_runS (As := [.ref h0, .int (nI gb)]) (rest := []) ⟨hx, hb, hml, hown, hts⟩ (w_isTakenBack l hl9 D tys L S H.size hC hI hgb) (va_cwS 2 hts gL_law_L_isTakenBack rfl rfl rfl (by decide +kernel) ⟨Nat.le_of_ble_eq_true rfl, Nat.le_of_ble_eq_true rfl⟩) (gP_S hP hK hD gBl_G (fun U hU hW => gG.call hGG hS (gA_sub hD hS hA) U hU hW)) rfl rfl hl.1 rfl (lv_room (Nat.le_of_ble_eq_true rfl)) dL_law_301 ⟨by show kc + 10 + 12 ≤ 625101; omega, by show ns + 50 + 60 ≤ 7226164; omega⟩) hD hS hA (fun r9 u9 H locs hr9 hP hD hS => ?_)
          obtain ⟨hr9, P2, hI2, hC⟩ := hr9
          obtain ⟨L, S⟩ := u9
          have hP : va_P D vwCl ([gO h0 lo (nI n) 1] ++ va_pl L (gE S)) H := hP
          have hD : va_D (fun q : Nat => s.heap.size ≤ q) ([gO h0 lo (nI n) 1] ++ va_pl L (gE S)) := hD
          have hr9 : r9 = nI 1 := hr9
          subst hr9
          refine lv_istore_n (lv' := [(2, .int (nI 1)), (0, .ref b), (1, .ref h0), (3, .int (nI t)), (4, .int (nI x)), (5, .int (nI gb)), (6, .int (nI cn)), (7, .int (nI wh))]) hx hb dL_law_304 rfl hl (by decide) rfl (fun ls hl => ?_)
          refine lv_goto (tgt := 334) hx hb dL_law_305 (by decide) ?_
          refine W.widen (k := (kc + 60)) (n := (ns + 300)) (by omega) (by omega) ?_
          exact hj334 P2 n L S H locs ls hI2 hC hP hD hS (lv_sub hl [1, 2, 0, 3] rfl)
      · skip
        refine lv_aload_n hx hb dL_law_279 rfl (lv_at hl 1 rfl) ?_
        refine lv_iload hx hb dL_law_280 (lv_at hl 5 rfl) ?_
        refine lv_iload hx hb dL_law_282 (lv_at hl 6 rfl) ?_
        refine g_calli (va_runS (As := [.ref h0, .int (nI gb), .int (nI cn)]) (rest := []) ⟨hx, hb, hml, hown, hts⟩ (w_isThereAndBack l hl9 D tys L S H.size hC hI hgb hc1 hc2) (va_cwS 3 hts gL_law_L_isThereAndBack rfl rfl rfl (by decide +kernel) ⟨Nat.le_of_ble_eq_true rfl, Nat.le_of_ble_eq_true rfl⟩) (gP_S hP hK hD gBl_G (fun U hU hW => gG.call hGG hS (gA_sub hD hS hA) U hU hW)) rfl rfl hl.1 rfl (lv_room (Nat.le_of_ble_eq_true rfl)) dL_law_284 ⟨by show kc + 10 + 20 ≤ 625101; omega, by show ns + 50 + 120 ≤ 7226164; omega⟩) hD hS hA (fun r9 u9 H locs hr9 hP hD hS => ?_)
        obtain ⟨hr9, hC⟩ := hr9
        obtain ⟨L, S⟩ := u9
        have hP : va_P D vwCl ([gO h0 lo (nI n) 1] ++ va_pl L (gE S)) H := hP
        have hD : va_D (fun q : Nat => s.heap.size ≤ q) ([gO h0 lo (nI n) 1] ++ va_pl L (gE S)) := hD
        have hr9 : r9 = nI 1 := hr9
        subst hr9
        refine lv_istore_n (lv' := [(2, .int (nI 1)), (0, .ref b), (1, .ref h0), (3, .int (nI t)), (4, .int (nI x)), (5, .int (nI gb)), (6, .int (nI cn)), (7, .int (nI wh))]) hx hb dL_law_287 rfl hl (by decide) rfl (fun ls hl => ?_)
        refine lv_goto (tgt := 334) hx hb dL_law_288 (by decide) ?_
        refine W.widen (k := (kc + 60)) (n := (ns + 300)) (by omega) (by omega) ?_
        exact hj334 P n L S H locs ls hI hC hP hD hS (lv_sub hl [1, 2, 0, 3] rfl)
    have hj199 : ∀ (L : List Nat) (S : gS) (H : Heap) (locs : List Loc) (ls : Array Slot), gCh P lo (L, S) → va_P D vwCl ([gO h0 lo (nI n) 1] ++ va_pl L (gE S)) H → va_D (fun q : Nat => s.heap.size ≤ q) ([gO h0 lo (nI n) 1] ++ va_pl L (gE S)) → va_S (fun q : Nat => s.heap.size ≤ q) s.heap H locs → lv_has ls 10 [(0, .ref b), (1, .ref h0), (2, .int (nI 1)), (3, .int (nI t)), (4, .int (nI x)), (5, .int (nI gb)), (6, .int (nI cn)), (7, .int (nI wh))] → W p l e room_1 s m #[Value.ref b] below meth c H locs (kc + 8) (ns + 40) (lw_Z below #[Value.ref b] s) (F0 m 199 ls []) := by
      intro L S H locs ls hC hP hD hS hl
      refine lv_iload hx hb dL_law_199 (lv_at hl 7 rfl) ?_
      refine lv_bipush (v := nI 9) hx hb dL_law_201 (by decide) ?_
      refine lv_icmp_ne (tgt := 272) hx hb dL_law_203 (by decide) (fun c1 => ?_) (fun c1 => ?_)
      · skip
        refine W.widen (k := (kc + 10)) (n := (ns + 50)) (by omega) (by omega) ?_
        exact hj272 L S H locs ls hC hP hD hS (lv_sub hl [0, 1, 2, 3, 4, 5, 6, 7] rfl)
      · skip
        refine lv_aload_n hx hb dL_law_206 rfl (lv_at hl 1 rfl) ?_
        refine g_calli (va_runV (As := []) (rest := []) ⟨hx, hb, hml, hown, hts⟩ (c_size l D tys [gO h0 lo (nI n) 1] L S H.size (i := 0) rfl hC) (cwV 0 hts gL_law_X1_size rfl rfl rfl (by decide +kernel) ⟨Nat.le_of_ble_eq_true rfl, Nat.le_of_ble_eq_true rfl⟩) (gP_V (va_recv hK hP (ci := 1) rfl (g_inX (X := [gO h0 lo (nI n) 1]) (i := 0) rfl)) hP hK hD gBl_N (fun U _ hW => hGG.1.warm hW)) rfl rfl hl.1 rfl (lv_room (Nat.le_of_ble_eq_true rfl)) dL_law_207 ⟨by show kc + 8 + 0 ≤ 625101; omega, by show ns + 40 + 0 ≤ 7226164; omega⟩) hD hS hA (fun r9 u9 H locs hr9 hP hD hS => ?_)
        have hP : va_P D vwCl ([gO h0 lo (nI n) 1] ++ va_pl L (gE S)) H := hP
        have hD : va_D (fun q : Nat => s.heap.size ≤ q) ([gO h0 lo (nI n) 1] ++ va_pl L (gE S)) := hD
        have hr9 : r9 = nI n := hr9
        subst hr9
        refine lv_sipush (v := nI 200) hx hb dL_law_210 (by decide) ?_
        refine lv_icmp_ge (tgt := 272) hx hb dL_law_213 (by decide) (fun c2 => ?_) (fun c2 => ?_)
        · skip
          refine W.widen (k := (kc + 10)) (n := (ns + 50)) (by omega) (by omega) ?_
          exact hj272 L S H locs ls hC hP hD hS (lv_sub hl [0, 1, 2, 3, 4, 5, 6, 7] rfl)
        · have hn200 : n < 200 := by
            rcases Nat.lt_or_ge n 200 with z | z
            · exact z
            · exact absurd (show nI 200 ≤ nI n from nI_le z (by omega)) c2
          obtain ⟨vn, hvn⟩ : ∃ v, v = n + cn := ⟨_, rfl⟩
          obtain ⟨Q, hQ⟩ : ∃ q, q = gmv P (-1) 8 0 (vn - n) := ⟨_, rfl⟩
          have hQi : gInv Q vn := by rw [hQ]; exact inv_grow (by omega) (by omega) hI
          have hqe := hQi.1
          obtain ⟨k, ka, hk1, hk2⟩ : ∃ k a, gbg Q 8 5000 = k + 1 ∧ gRg Q k a vn := by rw [hQ]; exact grow_rg hev (by omega) (by omega)
          have hgr : gct Q 8 5000 = gct P 8 5000 + (vn - n) := by rw [hQ]; exact grow_ct hev (by omega) (by omega)
          have hkR : gbg Q 8 5000 ≤ vn := h_fewR hqe (k := 8) (by omega)
          refine lv_aload_n hx hb dL_law_216 rfl (lv_at hl 1 rfl) ?_
          refine g_calli (va_runV (As := []) (rest := []) ⟨hx, hb, hml, hown, hts⟩ (c_size l D tys [gO h0 lo (nI n) 1] L S H.size (i := 0) rfl hC) (cwV 0 hts gL_law_X1_size rfl rfl rfl (by decide +kernel) ⟨Nat.le_of_ble_eq_true rfl, Nat.le_of_ble_eq_true rfl⟩) (gP_V (va_recv hK hP (ci := 1) rfl (g_inX (X := [gO h0 lo (nI n) 1]) (i := 0) rfl)) hP hK hD gBl_N (fun U _ hW => hGG.1.warm hW)) rfl rfl hl.1 rfl (lv_room (Nat.le_of_ble_eq_true rfl)) dL_law_217 ⟨by show kc + 8 + 0 + 0 ≤ 625101; omega, by show ns + 40 + 0 + 0 ≤ 7226164; omega⟩) hD hS hA (fun r9 u9 H locs hr9 hP hD hS => ?_)
          have hP : va_P D vwCl ([gO h0 lo (nI n) 1] ++ va_pl L (gE S)) H := hP
          have hD : va_D (fun q : Nat => s.heap.size ≤ q) ([gO h0 lo (nI n) 1] ++ va_pl L (gE S)) := hD
          have hr9 : r9 = nI n := hr9
          subst hr9
          refine lv_istore (lv' := [(8, .int (nI n)), (0, .ref b), (1, .ref h0), (2, .int (nI 1)), (3, .int (nI t)), (4, .int (nI x)), (5, .int (nI gb)), (6, .int (nI cn)), (7, .int (nI wh))]) hx hb dL_law_220 hl (by decide) rfl (fun ls hl => ?_)
          refine lv_aload_n hx hb dL_law_222 rfl (lv_at hl 2 rfl) ?_
          refine g_calli (va_runV (As := []) (rest := []) ⟨hx, hb, hml, hown, hts⟩ (c_inJug l D tys [gO h0 lo (nI n) 1] L S H.size (i := 0) rfl hC) (cwV 0 hts gL_law_X1_inJug rfl rfl rfl (by decide +kernel) ⟨Nat.le_of_ble_eq_true rfl, Nat.le_of_ble_eq_true rfl⟩) (gP_V (va_recv hK hP (ci := 1) rfl (g_inX (X := [gO h0 lo (nI n) 1]) (i := 0) rfl)) hP hK hD gBl_N (fun U _ hW => hGG.1.warm hW)) rfl rfl hl.1 rfl (lv_room (Nat.le_of_ble_eq_true rfl)) dL_law_223 ⟨by show kc + 8 + 0 + 0 + 0 ≤ 625101; omega, by show ns + 40 + 0 + 0 + 0 ≤ 7226164; omega⟩) hD hS hA (fun r9 u9 H locs hr9 hP hD hS => ?_)
          have hP : va_P D vwCl ([gO h0 lo (nI n) 1] ++ va_pl L (gE S)) H := hP
          have hD : va_D (fun q : Nat => s.heap.size ≤ q) ([gO h0 lo (nI n) 1] ++ va_pl L (gE S)) := hD
          have hr9 : r9 = nI (gct P 8 5000) := hr9
          subst hr9
          refine lv_istore (lv' := [(9, .int (nI (gct P 8 5000))), (8, .int (nI n)), (0, .ref b), (1, .ref h0), (2, .int (nI 1)), (3, .int (nI t)), (4, .int (nI x)), (5, .int (nI gb)), (6, .int (nI cn)), (7, .int (nI wh))]) hx hb dL_law_226 hl (by decide) rfl (fun ls hl => ?_)
          refine lv_aload_n hx hb dL_law_228 rfl (lv_at hl 3 rfl) ?_
          refine lv_iload hx hb dL_law_229 (lv_at hl 1 rfl) ?_
          refine lv_iload hx hb dL_law_231 (lv_at hl 8 rfl) ?_
          refine lv_iadd hx hb dL_law_233 ?_
          refine g_top (y := nI (n + cn)) (nI_add _ _) ?_
          refine g_top (y := nI vn) (z_eq hvn.symm) ?_
          refine g_xcalli (vx_runV (As := [.int (nI vn)]) (rest := []) ⟨hx, hb, hml, hown, hts⟩ (c_enlarge l hl9 D tys [gO h0 lo (nI n) 1] L S H.size (i := 0) rfl hC (nI vn) rfl (by omega)) (cwV 1 hts gL_law_X1_enlarge rfl rfl rfl (by decide +kernel) ⟨Nat.le_of_ble_eq_true rfl, Nat.le_of_ble_eq_true rfl⟩) (gP_V (va_recv hK hP (ci := 1) rfl (g_inX (X := [gO h0 lo (nI n) 1]) (i := 0) rfl)) hP hK hD gBl_G (fun U hU hW => gG.call hGG hS (gA_sub hD hS hA) U hU hW)) rfl rfl hl.1 rfl (lv_room (Nat.le_of_ble_eq_true rfl)) dL_law_234 ⟨by show kc + 8 + 0 + 0 + 0 + 3 ≤ 625101; omega, by show ns + 40 + 0 + 0 + 0 + 14 ≤ 7226164; omega⟩) hD hS hA (fun E ce q9 u9 H locs hc hP hD hS e1 e2 e3 => False.elim (hc.1.2 ⟨vn, by omega, by omega, rfl⟩)) (fun r9 u9 H locs hr9 hP hD hS => ?_)
          obtain ⟨v8, v81, v82, v83, hr9, hC⟩ := hr9
          obtain ⟨L, S⟩ := u9
          obtain rfl : vn = v8 := (nI_eq (by omega) (by omega)).mp v83
          have hP : va_P D vwCl ([gO h0 lo (nI vn) 1] ++ va_pl L (gE S)) H := hP
          have hD : va_D (fun q : Nat => s.heap.size ≤ q) ([gO h0 lo (nI vn) 1] ++ va_pl L (gE S)) := hD
          have hr9 : r9 = nI (gct (gmv P (-1) 8 0 (vn - n)) 8 5000) := hr9
          subst hr9
          rw [show gmv P (-1) 8 0 (vn - n) = Q from hQ.symm] at hC
          refine g_top (y := nI (gct Q 8 5000)) (by rw [hQ]) ?_
          refine lv_iload hx hb dL_law_237 (lv_at hl 0 rfl) ?_
          refine lv_iload hx hb dL_law_239 (lv_at hl 8 rfl) ?_
          refine lv_iadd hx hb dL_law_241 ?_
          refine g_top (y := nI ((gct P 8 5000) + cn)) (nI_add _ _) ?_
          refine lv_icmp_ne (tgt := 267) hx hb dL_law_242 (by decide) (fun c9 => absurd (z_eq (by omega)) c9) (fun _ => ?_)
          refine lv_aload_n hx hb dL_law_245 rfl (lv_at hl 3 rfl) ?_
          refine lv_aload_n hx hb dL_law_246 rfl (lv_at hl 3 rfl) ?_
          refine g_calli (va_runV (As := []) (rest := [.ref h0]) ⟨hx, hb, hml, hown, hts⟩ (c_rangesP l D tys [gO h0 lo (nI vn) 1] L S H.size (i := 0) rfl hC (h_0 hqe)) (cwV 0 hts gL_law_X1_ranges rfl rfl rfl (by decide +kernel) ⟨Nat.le_of_ble_eq_true rfl, Nat.le_of_ble_eq_true rfl⟩) (gP_V (va_recv hK hP (ci := 1) rfl (g_inX (X := [gO h0 lo (nI vn) 1]) (i := 0) rfl)) hP hK hD gBl_N (fun U _ hW => hGG.1.warm hW)) rfl rfl hl.1 rfl (lv_room (Nat.le_of_ble_eq_true rfl)) dL_law_247 ⟨by show kc + 8 + 0 + 0 + 0 + 3 + 0 ≤ 625101; omega, by show ns + 40 + 0 + 0 + 0 + 14 + 0 ≤ 7226164; omega⟩) hD hS hA (fun r9 u9 H locs hr9 hP hD hS => ?_)
          have hP : va_P D vwCl ([gO h0 lo (nI vn) 1] ++ va_pl L (gE S)) H := hP
          have hD : va_D (fun q : Nat => s.heap.size ≤ q) ([gO h0 lo (nI vn) 1] ++ va_pl L (gE S)) := hD
          have hr9 : r9 = nI (gbg Q 8 5000) := hr9
          subst hr9
          refine lv_iconst (v := nI 1) hx hb dL_law_250 (by decide) ?_
          refine lv_isub hx hb dL_law_251 ?_
          refine g_top (y := nI ((gbg Q 8 5000) - 1)) (pk_sub (by omega)) ?_
          refine g_top (y := nI k) (z_eq (by omega)) ?_
          refine g_xcalli (vx_runV (As := [.int (nI k)]) (rest := []) ⟨hx, hb, hml, hown, hts⟩ (c_rangeTo l hl9 D tys [gO h0 lo (nI vn) 1] L S H.size (i := 0) rfl hC (nI k) (h_0 hqe) (h_51 hqe)) (cwV 1 hts gL_law_X1_rangeTo rfl rfl rfl (by decide +kernel) ⟨Nat.le_of_ble_eq_true rfl, Nat.le_of_ble_eq_true rfl⟩) (gP_V (va_recv hK hP (ci := 1) rfl (g_inX (X := [gO h0 lo (nI vn) 1]) (i := 0) rfl)) hP hK hD gBl_G (fun U hU hW => gG.call hGG hS (gA_sub hD hS hA) U hU hW)) rfl rfl hl.1 rfl (lv_room (Nat.le_of_ble_eq_true rfl)) dL_law_252 ⟨by show kc + 8 + 0 + 0 + 0 + 3 + 0 + 1 ≤ 625101; omega, by show ns + 40 + 0 + 0 + 0 + 14 + 0 + 6 ≤ 7226164; omega⟩) hD hS hA (fun E ce q9 u9 H locs hc hP hD hS e1 e2 e3 => False.elim (rg_ok hk2 hc.1.2)) (fun r9 u9 H locs hr9 hP hD hS => ?_)
          obtain ⟨hr9, hC⟩ := hr9
          obtain ⟨L, S⟩ := u9
          have hP : va_P D vwCl ([gO h0 lo (nI vn) 1] ++ va_pl L (gE S)) H := hP
          have hD : va_D (fun q : Nat => s.heap.size ≤ q) ([gO h0 lo (nI vn) 1] ++ va_pl L (gE S)) := hD
          have hr9 : r9 = nI vn := rg_to (h_0n hqe) (by omega) hk2 hr9
          subst hr9
          refine lv_iload hx hb dL_law_255 (lv_at hl 1 rfl) ?_
          refine lv_iload hx hb dL_law_257 (lv_at hl 8 rfl) ?_
          refine lv_iadd hx hb dL_law_259 ?_
          refine g_top (y := nI (n + cn)) (nI_add _ _) ?_
          refine lv_icmp_ne (tgt := 267) hx hb dL_law_260 (by decide) (fun c9 => absurd (z_eq (by omega)) c9) (fun _ => ?_)
          refine lv_iconst (v := nI 1) hx hb dL_law_263 (by decide) ?_
          refine lv_goto (tgt := 268) hx hb dL_law_264 (by decide) ?_
          refine lv_istore_n (lv' := [(2, .int (nI 1)), (9, .int (nI (gct P 8 5000))), (8, .int (nI n)), (0, .ref b), (1, .ref h0), (3, .int (nI t)), (4, .int (nI x)), (5, .int (nI gb)), (6, .int (nI cn)), (7, .int (nI wh))]) hx hb dL_law_268 rfl hl (by decide) rfl (fun ls hl => ?_)
          refine lv_goto (tgt := 334) hx hb dL_law_269 (by decide) ?_
          refine W.widen (k := (kc + 60)) (n := (ns + 300)) (by omega) (by omega) ?_
          exact hj334 Q vn L S H locs ls hQi hC hP hD hS (lv_sub hl [3, 4, 0, 5] rfl)
    have hj130 : ∀ (L : List Nat) (S : gS) (H : Heap) (locs : List Loc) (ls : Array Slot), gCh P lo (L, S) → va_P D vwCl ([gO h0 lo (nI n) 1] ++ va_pl L (gE S)) H → va_D (fun q : Nat => s.heap.size ≤ q) ([gO h0 lo (nI n) 1] ++ va_pl L (gE S)) → va_S (fun q : Nat => s.heap.size ≤ q) s.heap H locs → lv_has ls 10 [(0, .ref b), (1, .ref h0), (2, .int (nI 1)), (3, .int (nI t)), (4, .int (nI x)), (5, .int (nI gb)), (6, .int (nI cn)), (7, .int (nI wh))] → W p l e room_1 s m #[Value.ref b] below meth c H locs (kc + 3) (ns + 20) (lw_Z below #[Value.ref b] s) (F0 m 130 ls []) := by
      intro L S H locs ls hC hP hD hS hl
      refine lv_iload hx hb dL_law_130 (lv_at hl 7 rfl) ?_
      refine lv_bipush (v := nI 8) hx hb dL_law_132 (by decide) ?_
      refine lv_icmp_ne (tgt := 199) hx hb dL_law_134 (by decide) (fun c1 => ?_) (fun c1 => ?_)
      · skip
        refine W.widen (k := (kc + 8)) (n := (ns + 40)) (by omega) (by omega) ?_
        exact hj199 L S H locs ls hC hP hD hS (lv_sub hl [0, 1, 2, 3, 4, 5, 6, 7] rfl)
      · skip
        refine lv_aload_n hx hb dL_law_137 rfl (lv_at hl 1 rfl) ?_
        refine lv_iload hx hb dL_law_138 (lv_at hl 5 rfl) ?_
        refine g_xcalli (vx_runV (As := [.int (nI gb)]) (rest := []) ⟨hx, hb, hml, hown, hts⟩ (c_inGoblet l hl9 D tys [gO h0 lo (nI n) 1] L S H.size (i := 0) rfl hC (nI gb)) (cwV 1 hts gL_law_X1_inGoblet rfl rfl rfl (by decide +kernel) ⟨Nat.le_of_ble_eq_true rfl, Nat.le_of_ble_eq_true rfl⟩) (gP_V (va_recv hK hP (ci := 1) rfl (g_inX (X := [gO h0 lo (nI n) 1]) (i := 0) rfl)) hP hK hD gBl_G (fun U hU hW => gG.call hGG hS (gA_sub hD hS hA) U hU hW)) rfl rfl hl.1 rfl (lv_room (Nat.le_of_ble_eq_true rfl)) dL_law_140 ⟨by show kc + 3 + 1 ≤ 625101; omega, by show ns + 20 + 6 ≤ 7226164; omega⟩) hD hS hA (fun E ce q9 u9 H locs hc hP hD hS e1 e2 e3 => False.elim (hc.1.2 (h_gob hgb))) (fun r9 u9 H locs hr9 hP hD hS => ?_)
        obtain ⟨⟨-, hr9⟩, hC⟩ := hr9
        obtain ⟨L, S⟩ := u9
        have hP : va_P D vwCl ([gO h0 lo (nI n) 1] ++ va_pl L (gE S)) H := hP
        have hD : va_D (fun q : Nat => s.heap.size ≤ q) ([gO h0 lo (nI n) 1] ++ va_pl L (gE S)) := hD
        have hr9 : r9 = nI (gct P (nI gb) 5000) := hr9
        subst hr9
        refine lv_istore (lv' := [(8, .int (nI (gct P (nI gb) 5000))), (0, .ref b), (1, .ref h0), (2, .int (nI 1)), (3, .int (nI t)), (4, .int (nI x)), (5, .int (nI gb)), (6, .int (nI cn)), (7, .int (nI wh))]) hx hb dL_law_143 hl (by decide) rfl (fun ls hl => ?_)
        refine lv_aload_n hx hb dL_law_145 rfl (lv_at hl 2 rfl) ?_
        refine g_calli (va_runV (As := []) (rest := []) ⟨hx, hb, hml, hown, hts⟩ (c_spilt l D tys [gO h0 lo (nI n) 1] L S H.size (i := 0) rfl hC) (cwV 0 hts gL_law_X1_spilt rfl rfl rfl (by decide +kernel) ⟨Nat.le_of_ble_eq_true rfl, Nat.le_of_ble_eq_true rfl⟩) (gP_V (va_recv hK hP (ci := 1) rfl (g_inX (X := [gO h0 lo (nI n) 1]) (i := 0) rfl)) hP hK hD gBl_N (fun U _ hW => hGG.1.warm hW)) rfl rfl hl.1 rfl (lv_room (Nat.le_of_ble_eq_true rfl)) dL_law_146 ⟨by show kc + 3 + 1 + 0 ≤ 625101; omega, by show ns + 20 + 6 + 0 ≤ 7226164; omega⟩) hD hS hA (fun r9 u9 H locs hr9 hP hD hS => ?_)
        have hP : va_P D vwCl ([gO h0 lo (nI n) 1] ++ va_pl L (gE S)) H := hP
        have hD : va_D (fun q : Nat => s.heap.size ≤ q) ([gO h0 lo (nI n) 1] ++ va_pl L (gE S)) := hD
        have hr9 : r9 = nI (gct P 10 5000) := hr9
        subst hr9
        refine lv_istore (lv' := [(9, .int (nI (gct P 10 5000))), (8, .int (nI (gct P (nI gb) 5000))), (0, .ref b), (1, .ref h0), (2, .int (nI 1)), (3, .int (nI t)), (4, .int (nI x)), (5, .int (nI gb)), (6, .int (nI cn)), (7, .int (nI wh))]) hx hb dL_law_149 hl (by decide) rfl (fun ls hl => ?_)
        refine lv_iload hx hb dL_law_151 (lv_at hl 6 rfl) ?_
        refine lv_iconst (v := nI 3) hx hb dL_law_153 (by decide) ?_
        refine lv_irem hx hb dL_law_154 (by decide) ?_
        refine g_top (y := nI (x % 3)) (pk_rem (by omega) (by omega) (by omega)) ?_
        refine lv_if_gt (tgt := 190) hx hb dL_law_155 (by decide) (fun c2 => ?_) (fun c2 => ?_)
        · skip
          refine lv_iconst (v := nI 1) hx hb dL_law_190 (by decide) ?_
          refine lv_goto (tgt := 195) hx hb dL_law_191 (by decide) ?_
          refine lv_istore_n (lv' := [(2, .int (nI 1)), (9, .int (nI (gct P 10 5000))), (8, .int (nI (gct P (nI gb) 5000))), (0, .ref b), (1, .ref h0), (3, .int (nI t)), (4, .int (nI x)), (5, .int (nI gb)), (6, .int (nI cn)), (7, .int (nI wh))]) hx hb dL_law_195 rfl hl (by decide) rfl (fun ls hl => ?_)
          refine lv_goto (tgt := 334) hx hb dL_law_196 (by decide) ?_
          refine W.widen (k := (kc + 60)) (n := (ns + 300)) (by omega) (by omega) ?_
          exact hj334 P n L S H locs ls hI hC hP hD hS (lv_sub hl [3, 4, 0, 5] rfl)
        · obtain ⟨Q, hQ⟩ : ∃ q, q = gmv P (nI gb) 10 0 5000 := ⟨_, rfl⟩
          have hQi : gInv Q n := by rw [hQ]; exact inv_mv (b := 10) (by omega) (by omega) hI
          have hqe := hQi.1
          have hmq := mv_ct (P := P) (st := 0) (cn := 5000) hg10 5000
          rw [← hQ] at hmq
          refine lv_aload_n hx hb dL_law_158 rfl (lv_at hl 3 rfl) ?_
          refine lv_iload hx hb dL_law_159 (lv_at hl 7 rfl) ?_
          refine g_xcalli (vx_runV (As := [.int (nI gb)]) (rest := []) ⟨hx, hb, hml, hown, hts⟩ (c_spill l hl9 D tys [gO h0 lo (nI n) 1] L S H.size (i := 0) rfl hC (nI gb)) (cwV 1 hts gL_law_X1_spill rfl rfl rfl (by decide +kernel) ⟨Nat.le_of_ble_eq_true rfl, Nat.le_of_ble_eq_true rfl⟩) (gP_V (va_recv hK hP (ci := 1) rfl (g_inX (X := [gO h0 lo (nI n) 1]) (i := 0) rfl)) hP hK hD gBl_G (fun U hU hW => gG.call hGG hS (gA_sub hD hS hA) U hU hW)) rfl rfl hl.1 rfl (lv_room (Nat.le_of_ble_eq_true rfl)) dL_law_161 ⟨by show kc + 3 + 1 + 0 + 3 ≤ 625101; omega, by show ns + 20 + 6 + 0 + 14 ≤ 7226164; omega⟩) hD hS hA (fun E ce q9 u9 H locs hc hP hD hS e1 e2 e3 => False.elim (hc.1.2 (h_gob hgb))) (fun r9 u9 H locs hr9 hP hD hS => ?_)
          obtain ⟨⟨-, hr9⟩, hC⟩ := hr9
          obtain ⟨L, S⟩ := u9
          have hP : va_P D vwCl ([gO h0 lo (nI n) 1] ++ va_pl L (gE S)) H := hP
          have hD : va_D (fun q : Nat => s.heap.size ≤ q) ([gO h0 lo (nI n) 1] ++ va_pl L (gE S)) := hD
          have hr9 : r9 = nI (gct P (nI gb) 5000) := hr9
          subst hr9
          rw [show gmv P (nI gb) 10 0 5000 = Q from hQ.symm] at hC
          refine lv_iload hx hb dL_law_164 (lv_at hl 1 rfl) ?_
          refine lv_icmp_ne (tgt := 194) hx hb dL_law_166 (by decide) (fun c9 => absurd (rfl) c9) (fun _ => ?_)
          refine lv_aload_n hx hb dL_law_169 rfl (lv_at hl 3 rfl) ?_
          refine g_calli (va_runV (As := []) (rest := []) ⟨hx, hb, hml, hown, hts⟩ (c_spilt l D tys [gO h0 lo (nI n) 1] L S H.size (i := 0) rfl hC) (cwV 0 hts gL_law_X1_spilt rfl rfl rfl (by decide +kernel) ⟨Nat.le_of_ble_eq_true rfl, Nat.le_of_ble_eq_true rfl⟩) (gP_V (va_recv hK hP (ci := 1) rfl (g_inX (X := [gO h0 lo (nI n) 1]) (i := 0) rfl)) hP hK hD gBl_N (fun U _ hW => hGG.1.warm hW)) rfl rfl hl.1 rfl (lv_room (Nat.le_of_ble_eq_true rfl)) dL_law_170 ⟨by show kc + 3 + 1 + 0 + 3 + 0 ≤ 625101; omega, by show ns + 20 + 6 + 0 + 14 + 0 ≤ 7226164; omega⟩) hD hS hA (fun r9 u9 H locs hr9 hP hD hS => ?_)
          have hP : va_P D vwCl ([gO h0 lo (nI n) 1] ++ va_pl L (gE S)) H := hP
          have hD : va_D (fun q : Nat => s.heap.size ≤ q) ([gO h0 lo (nI n) 1] ++ va_pl L (gE S)) := hD
          have hr9 : r9 = nI (gct Q 10 5000) := hr9
          subst hr9
          refine lv_iload hx hb dL_law_173 (lv_at hl 0 rfl) ?_
          refine lv_iload hx hb dL_law_175 (lv_at hl 1 rfl) ?_
          refine lv_iadd hx hb dL_law_177 ?_
          refine g_top (y := nI ((gct P 10 5000) + (gct P (nI gb) 5000))) (nI_add _ _) ?_
          refine lv_icmp_ne (tgt := 194) hx hb dL_law_178 (by decide) (fun c9 => absurd (z_eq (by omega)) c9) (fun _ => ?_)
          refine lv_aload_n hx hb dL_law_181 rfl (lv_at hl 3 rfl) ?_
          refine lv_iload hx hb dL_law_182 (lv_at hl 7 rfl) ?_
          refine g_xcalli (vx_runV (As := [.int (nI gb)]) (rest := []) ⟨hx, hb, hml, hown, hts⟩ (c_inGoblet l hl9 D tys [gO h0 lo (nI n) 1] L S H.size (i := 0) rfl hC (nI gb)) (cwV 1 hts gL_law_X1_inGoblet rfl rfl rfl (by decide +kernel) ⟨Nat.le_of_ble_eq_true rfl, Nat.le_of_ble_eq_true rfl⟩) (gP_V (va_recv hK hP (ci := 1) rfl (g_inX (X := [gO h0 lo (nI n) 1]) (i := 0) rfl)) hP hK hD gBl_G (fun U hU hW => gG.call hGG hS (gA_sub hD hS hA) U hU hW)) rfl rfl hl.1 rfl (lv_room (Nat.le_of_ble_eq_true rfl)) dL_law_184 ⟨by show kc + 3 + 1 + 0 + 3 + 0 + 1 ≤ 625101; omega, by show ns + 20 + 6 + 0 + 14 + 0 + 6 ≤ 7226164; omega⟩) hD hS hA (fun E ce q9 u9 H locs hc hP hD hS e1 e2 e3 => False.elim (hc.1.2 (h_gob hgb))) (fun r9 u9 H locs hr9 hP hD hS => ?_)
          obtain ⟨⟨-, hr9⟩, hC⟩ := hr9
          obtain ⟨L, S⟩ := u9
          have hP : va_P D vwCl ([gO h0 lo (nI n) 1] ++ va_pl L (gE S)) H := hP
          have hD : va_D (fun q : Nat => s.heap.size ≤ q) ([gO h0 lo (nI n) 1] ++ va_pl L (gE S)) := hD
          have hr9 : r9 = nI (gct Q (nI gb) 5000) := hr9
          subst hr9
          refine lv_if_ne (tgt := 194) hx hb dL_law_187 (by decide) (fun c9 => absurd (z_eq (b := 0) (by omega)) c9) (fun _ => ?_)
          refine lv_iconst (v := nI 1) hx hb dL_law_190 (by decide) ?_
          refine lv_goto (tgt := 195) hx hb dL_law_191 (by decide) ?_
          refine lv_istore_n (lv' := [(2, .int (nI 1)), (9, .int (nI (gct P 10 5000))), (8, .int (nI (gct P (nI gb) 5000))), (0, .ref b), (1, .ref h0), (3, .int (nI t)), (4, .int (nI x)), (5, .int (nI gb)), (6, .int (nI cn)), (7, .int (nI wh))]) hx hb dL_law_195 rfl hl (by decide) rfl (fun ls hl => ?_)
          refine lv_goto (tgt := 334) hx hb dL_law_196 (by decide) ?_
          refine W.widen (k := (kc + 60)) (n := (ns + 300)) (by omega) (by omega) ?_
          exact hj334 Q n L S H locs ls hQi hC hP hD hS (lv_sub hl [3, 4, 0, 5] rfl)
    have hj96 : ∀ (L : List Nat) (S : gS) (H : Heap) (locs : List Loc) (ls : Array Slot), gCh P lo (L, S) → va_P D vwCl ([gO h0 lo (nI n) 1] ++ va_pl L (gE S)) H → va_D (fun q : Nat => s.heap.size ≤ q) ([gO h0 lo (nI n) 1] ++ va_pl L (gE S)) → va_S (fun q : Nat => s.heap.size ≤ q) s.heap H locs → lv_has ls 10 [(0, .ref b), (1, .ref h0), (2, .int (nI 1)), (3, .int (nI t)), (4, .int (nI x)), (5, .int (nI gb)), (6, .int (nI cn)), (7, .int (nI wh))] → W p l e room_1 s m #[Value.ref b] below meth c H locs kc ns (lw_Z below #[Value.ref b] s) (F0 m 96 ls []) := by
      intro L S H locs ls hC hP hD hS hl
      refine lv_iload hx hb dL_law_96 (lv_at hl 7 rfl) ?_
      refine lv_bipush (v := nI 8) hx hb dL_law_98 (by decide) ?_
      refine lv_icmp_ge (tgt := 130) hx hb dL_law_100 (by decide) (fun c1 => ?_) (fun c1 => ?_)
      · skip
        refine W.widen (k := (kc + 3)) (n := (ns + 20)) (by omega) (by omega) ?_
        exact hj130 L S H locs ls hC hP hD hS (lv_sub hl [0, 1, 2, 3, 4, 5, 6, 7] rfl)
      · skip
        refine lv_aload_n hx hb dL_law_103 rfl (lv_at hl 1 rfl) ?_
        refine lv_iload hx hb dL_law_104 (lv_at hl 5 rfl) ?_
        refine g_xcalli (vx_runV (As := [.int (nI gb)]) (rest := []) ⟨hx, hb, hml, hown, hts⟩ (c_nextOf l hl9 D tys [gO h0 lo (nI n) 1] L S H.size (i := 0) rfl hC (nI gb)) (cwV 1 hts gL_law_X1_nextOf rfl rfl rfl (by decide +kernel) ⟨Nat.le_of_ble_eq_true rfl, Nat.le_of_ble_eq_true rfl⟩) (gP_V (va_recv hK hP (ci := 1) rfl (g_inX (X := [gO h0 lo (nI n) 1]) (i := 0) rfl)) hP hK hD gBl_G (fun U hU hW => gG.call hGG hS (gA_sub hD hS hA) U hU hW)) rfl rfl hl.1 rfl (lv_room (Nat.le_of_ble_eq_true rfl)) dL_law_106 ⟨by show kc + 1 ≤ 625101; omega, by show ns + 6 ≤ 7226164; omega⟩) hD hS hA (fun E ce q9 u9 H locs hc hP hD hS e1 e2 e3 => False.elim (hc.1.2 (h_gob hgb))) (fun r9 u9 H locs hr9 hP hD hS => ?_)
        obtain ⟨⟨-, v, y, hv, hy, hr9⟩, hC⟩ := hr9
        obtain ⟨L, S⟩ := u9
        have hP : va_P D vwCl ([gO h0 lo (nI n) 1] ++ va_pl L (gE S)) H := hP
        have hD : va_D (fun q : Nat => s.heap.size ≤ q) ([gO h0 lo (nI n) 1] ++ va_pl L (gE S)) := hD
        have hr9 : r9 = nI (if v = 0 then y else v) := hr9
        subst hr9
        have hv1 := glow_ct hv
        have hy1 := glow_ct hy
        have hvl := glow_le hv
        have hyl := glow_le hy
        refine lv_if_le (tgt := 130) hx hb dL_law_109 (by decide) (fun c2 => ?_) (fun c2 => ?_)
        · skip
          refine W.widen (k := (kc + 3)) (n := (ns + 20)) (by omega) (by omega) ?_
          exact hj130 L S H locs ls hC hP hD hS (lv_sub hl [0, 1, 2, 3, 4, 5, 6, 7] rfl)
        · have hne : ¬ (gct P (nI gb) 5000 = 0 ∧ gct P 8 5000 = 0) := fun z => c2 (by rw [if_pos (hv1.mpr z.1), hy1.mpr z.2]; decide)
          refine lv_aload_n hx hb dL_law_112 rfl (lv_at hl 1 rfl) ?_
          refine lv_iload hx hb dL_law_113 (lv_at hl 5 rfl) ?_
          refine g_xcalli (vx_runV (As := [.int (nI gb)]) (rest := []) ⟨hx, hb, hml, hown, hts⟩ (c_drink l hl9 D tys [gO h0 lo (nI n) 1] L S H.size (i := 0) rfl hC (nI gb) (gEv_out hev)) (cwV 1 hts gL_law_X1_drink rfl rfl rfl (by decide +kernel) ⟨Nat.le_of_ble_eq_true rfl, Nat.le_of_ble_eq_true rfl⟩) (gP_V (va_recv hK hP (ci := 1) rfl (g_inX (X := [gO h0 lo (nI n) 1]) (i := 0) rfl)) hP hK hD gBl_G (fun U hU hW => gG.call hGG hS (gA_sub hD hS hA) U hU hW)) rfl rfl hl.1 rfl (lv_room (Nat.le_of_ble_eq_true rfl)) dL_law_115 ⟨by show kc + 1 + 5 ≤ 625101; omega, by show ns + 6 + 22 ≤ 7226164; omega⟩) hD hS hA (fun E ce q9 u9 H locs hc hP hD hS e1 e2 e3 => False.elim (xb_drink (h_gob hgb) hne hc.1)) (fun r9 u9 H locs hr9 hP hD hS => ?_)
          obtain ⟨-, d9, d91, d92, hr9, d93, hC⟩ := hr9
          obtain ⟨L, S⟩ := u9
          have hP : va_P D vwCl ([gO h0 lo (nI n) 1] ++ va_pl L (gE S)) H := hP
          have hD : va_D (fun q : Nat => s.heap.size ≤ q) ([gO h0 lo (nI n) 1] ++ va_pl L (gE S)) := hD
          have hr9 : r9 = nI d9 := hr9
          subst hr9
          have hpd : P d9 = nI gb ∨ P d9 = 8 := by
            rcases d93 with z | ⟨-, z⟩
            · exact Or.inl (glow_at z (by omega)).2.2
            · exact Or.inr (glow_at z (by omega)).2.2
          have hdn : d9 ≤ n := by rcases hpd with z | z; exact (inv_in (k := gb) (by omega) hev z).2; exact (inv_in (k := 8) (by omega) hev z).2
          have hQi : gInv (va_up P d9 9) n := inv_up (k := 9) (by omega) d91 hdn hI
          refine lv_if_le (tgt := 125) hx hb dL_law_118 (by decide) (fun c9 => absurd c9 ((z_nle (by omega) (by omega) : ¬ nI d9 ≤ nI 0))) (fun _ => ?_)
          refine lv_iconst (v := nI 1) hx hb dL_law_121 (by decide) ?_
          refine lv_goto (tgt := 126) hx hb dL_law_122 (by decide) ?_
          refine lv_istore_n (lv' := [(2, .int (nI 1)), (0, .ref b), (1, .ref h0), (3, .int (nI t)), (4, .int (nI x)), (5, .int (nI gb)), (6, .int (nI cn)), (7, .int (nI wh))]) hx hb dL_law_126 rfl hl (by decide) rfl (fun ls hl => ?_)
          refine lv_goto (tgt := 334) hx hb dL_law_127 (by decide) ?_
          refine W.widen (k := (kc + 60)) (n := (ns + 300)) (by omega) (by omega) ?_
          exact hj334 (va_up P d9 9) n L S H locs ls hQi hC hP hD hS (lv_sub hl [1, 2, 0, 3] rfl)
    refine lv_iload hx hb dL_law_63 (lv_at hl 0 rfl) ?_
    refine lv_iconst (v := nI 4) hx hb dL_law_65 (by decide) ?_
    refine lv_icmp_ge (tgt := 96) hx hb dL_law_66 (by decide) (fun c1 => ?_) (fun c1 => ?_)
    · skip
      exact hj96 L S H locs ls hC hP hD hS (lv_sub hl [4, 5, 6, 7, 3, 2, 1, 0] rfl)
    · skip
      refine lv_aload_n hx hb dL_law_69 rfl (lv_at hl 5 rfl) ?_
      refine g_calli (va_runV (As := []) (rest := []) ⟨hx, hb, hml, hown, hts⟩ (c_inJug l D tys [gO h0 lo (nI n) 1] L S H.size (i := 0) rfl hC) (cwV 0 hts gL_law_X1_inJug rfl rfl rfl (by decide +kernel) ⟨Nat.le_of_ble_eq_true rfl, Nat.le_of_ble_eq_true rfl⟩) (gP_V (va_recv hK hP (ci := 1) rfl (g_inX (X := [gO h0 lo (nI n) 1]) (i := 0) rfl)) hP hK hD gBl_N (fun U _ hW => hGG.1.warm hW)) rfl rfl hl.1 rfl (lv_room (Nat.le_of_ble_eq_true rfl)) dL_law_70 ⟨by show kc + 0 + 0 ≤ 625101; omega, by show ns + 0 + 0 ≤ 7226164; omega⟩) hD hS hA (fun r9 u9 H locs hr9 hP hD hS => ?_)
      have hP : va_P D vwCl ([gO h0 lo (nI n) 1] ++ va_pl L (gE S)) H := hP
      have hD : va_D (fun q : Nat => s.heap.size ≤ q) ([gO h0 lo (nI n) 1] ++ va_pl L (gE S)) := hD
      have hr9 : r9 = nI (gct P 8 5000) := hr9
      subst hr9
      refine lv_if_le (tgt := 96) hx hb dL_law_73 (by decide) (fun c2 => ?_) (fun c2 => ?_)
      · skip
        exact hj96 L S H locs ls hC hP hD hS (lv_sub hl [4, 5, 6, 7, 3, 2, 1, 0] rfl)
      · have hJ : ¬ gct P 8 5000 = 0 := fun z => c2 (by rw [z]; decide)
        obtain ⟨Q, hQ⟩ : ∃ q, q = gmv P 8 (nI gb) 0 cn := ⟨_, rfl⟩
        have hQi : gInv Q n := by rw [hQ]; exact inv_mv (a := 8) (by omega) (by omega) hI
        refine lv_aload_n hx hb dL_law_76 rfl (lv_at hl 5 rfl) ?_
        refine lv_iload hx hb dL_law_77 (lv_at hl 2 rfl) ?_
        refine lv_iload hx hb dL_law_79 (lv_at hl 1 rfl) ?_
        refine g_xcalli (vx_runV (As := [.int (nI gb), .int (nI cn)]) (rest := []) ⟨hx, hb, hml, hown, hts⟩ (c_pour l hl9 D tys [gO h0 lo (nI n) 1] L S H.size (i := 0) rfl hC (nI gb) (nI cn)) (cwV 2 hts gL_law_X1_pour rfl rfl rfl (by decide +kernel) ⟨Nat.le_of_ble_eq_true rfl, Nat.le_of_ble_eq_true rfl⟩) (gP_V (va_recv hK hP (ci := 1) rfl (g_inX (X := [gO h0 lo (nI n) 1]) (i := 0) rfl)) hP hK hD gBl_G (fun U hU hW => gG.call hGG hS (gA_sub hD hS hA) U hU hW)) rfl rfl hl.1 rfl (lv_room (Nat.le_of_ble_eq_true rfl)) dL_law_81 ⟨by show kc + 0 + 0 + 4 ≤ 625101; omega, by show ns + 0 + 0 + 20 ≤ 7226164; omega⟩) hD hS hA (fun E ce q9 u9 H locs hc hP hD hS e1 e2 e3 => False.elim (xb_pour (h_gob hgb) (h_cnt hc1 (by omega)) hJ hc.1)) (fun r9 u9 H locs hr9 hP hD hS => ?_)
        obtain ⟨-, c8, c81, c82, c83, -, hr9, hC⟩ := hr9
        obtain ⟨L, S⟩ := u9
        have hP : va_P D vwCl ([gO h0 lo (nI n) 1] ++ va_pl L (gE S)) H := hP
        have hD : va_D (fun q : Nat => s.heap.size ≤ q) ([gO h0 lo (nI n) 1] ++ va_pl L (gE S)) := hD
        obtain rfl : cn = c8 := (nI_eq (by omega) (by omega)).mp c83
        have hr9 : r9 = nI (min cn (gct P 8 5000)) := hr9
        subst hr9
        rw [show gmv P 8 (nI gb) 0 cn = Q from hQ.symm] at hC
        refine lv_if_le (tgt := 91) hx hb dL_law_84 (by decide) (fun c9 => absurd c9 ((z_nle (by omega) (by omega) : ¬ nI (min cn (gct P 8 5000)) ≤ nI 0))) (fun _ => ?_)
        refine lv_iconst (v := nI 1) hx hb dL_law_87 (by decide) ?_
        refine lv_goto (tgt := 92) hx hb dL_law_88 (by decide) ?_
        refine lv_istore_n (lv' := [(2, .int (nI 1)), (7, .int (nI wh)), (6, .int (nI cn)), (5, .int (nI gb)), (4, .int (nI x)), (0, .ref b), (1, .ref h0), (3, .int (nI t))]) hx hb dL_law_92 rfl hl (by decide) rfl (fun ls hl => ?_)
        refine lv_goto (tgt := 334) hx hb dL_law_93 (by decide) ?_
        refine W.widen (k := (kc + 60)) (n := (ns + 300)) (by omega) (by omega) ?_
        exact hj334 Q n L S H locs ls hQi hC hP hD hS (lv_sub hl [5, 6, 0, 7] rfl)
