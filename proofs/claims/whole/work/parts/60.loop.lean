/-! the law's loop, and the law from its entry -/
set_option maxHeartbeats 4000000 in
set_option maxRecDepth 100000 in
theorem law_loop {p : Program} {l : Launch} {e : Env} {s : State} {m : MethodId} {below : List Frame} {meth : Method} {c : Code} {D : va_G} {b Ls h0 m0 ar ou lo : Nat} {xs : Nat → Int32} {cI cL : ClassId} (hx : p.tables.exec = Jvm.exec) (hb : c.code = cL_law) (hr : meth.sig.returnType = ret) (hlocks : meth.locks = false) (hml : c.maxLocals = 7) (hts : ∀ w ∈ wsL_law, w.before #[Value.ref b] s = true) (hown : s.vm.findClass RL = some m.cls) (hK : va_K D vwCl [(cI, .int), (cL, .long)] s) (hl9 : l.stackTraces = false) (hGL : gL (fun q : Nat => s.heap.size ≤ q) s) (hXs : va_X b Ls xs s s.heap) (hbl : b < s.heap.size) (hLs : Ls ≤ 2048) :
    ∀ (fuel it : Nat) (P : Nat → Int32) (n : Nat) (rv tv : Int32) (L : List Nat) (S : gS) (f : Nat → Int64) (row : Nat → Int32) (kc ns : Nat) (H : Heap) (locs : List Loc) (ls : Array Slot), Ls + 4 - 4 * it < fuel → 4 * it ≤ Ls + 3 → kc ≤ 10 + 6 * it → ns ≤ 6000 + 40 * it → gCh P lo (L, S) → gEv P n → gRow P n row → va_P D vwCl ([gO h0 lo (nI n) rv, gM m0 ar (nI n) rv tv, gR ar cI row, gQ ou cL f] ++ va_pl L (gE S)) H → va_D (fun q : Nat => s.heap.size ≤ q) ([gO h0 lo (nI n) rv, gM m0 ar (nI n) rv tv, gR ar cI row, gQ ou cL f] ++ va_pl L (gE S)) → va_S (fun q : Nat => s.heap.size ≤ q) s.heap H locs → lv_has ls 7 [(0, .ref b), (1, .ref h0), (2, .ref m0), (3, .ref ou), (4, .int (nI (4 * it)))] → W p l e room_1 s m #[Value.ref b] below meth c H locs kc ns (lw_Z below #[Value.ref b] s) (F0 m 23 ls []) := by
  have hA : ∀ q : Nat, s.heap.size ≤ q → (fun q : Nat => s.heap.size ≤ q) q := fun _ h => h
  have hbA : ¬ (fun q : Nat => s.heap.size ≤ q) b := Nat.not_le.mpr hbl
  intro fuel
  induction fuel with
  | zero => intro it P n rv tv L S f row kc ns H locs ls hf; exact absurd hf (Nat.not_lt_zero _)
  | succ fuel ih =>
    intro it P n rv tv L S f row kc ns H locs ls hf hit hkc hns hC hev hrow hP hD hS hl
    refine lv_iload hx hb dL_law_23 (lv_at hl 4 rfl) ?_
    refine lv_aload_n hx hb dL_law_25 rfl (lv_at hl 0 rfl) ?_
    refine va_slen hx hb hXs hbl hbA hS dL_law_26 ?_
    refine lv_iconst (v := 4) hx hb dL_law_27 (by decide) ?_
    refine lv_isub hx hb dL_law_28 ?_
    refine lv_icmp_gt (tgt := 1027) hx hb dL_law_29 (by decide) (fun c1 => ?_) (fun c1 => ?_)
    · skip
      refine lv_iconst (v := 1) hx hb dL_law_1027 (by decide) ?_
      refine va_forget (fun q hq => hS.2.2 q hq) ?_
      refine W.widen (k := 601024) (n := 7293034) (by omega) (by omega) ?_
      exact lw_ret hx hb hr hlocks dL_law_1028
    · have hix : 4 * it + 4 ≤ Ls := by
        rcases Nat.lt_or_ge Ls (4 * it + 4) with z | z
        · have h1 := pk_sub_toInt (a := Ls) (b := 4) (by omega) (by omega)
          have h2 := nI_toInt (n := 4 * it) (by omega)
          exact absurd (show nI Ls - nI 4 < nI (4 * it) from by rw [Int32.lt_iff_toInt_lt, h1, h2]; omega) c1
        · exact z
      have hnext : ∀ (P : Nat → Int32) (n : Nat) (rv tv : Int32) (L : List Nat) (S : gS) (f : Nat → Int64) (row : Nat → Int32) (H : Heap) (locs : List Loc) (ls : Array Slot), gCh P lo (L, S) → gEv P n → gRow P n row → va_P D vwCl ([gO h0 lo (nI n) rv, gM m0 ar (nI n) rv tv, gR ar cI row, gQ ou cL f] ++ va_pl L (gE S)) H → va_D (fun q : Nat => s.heap.size ≤ q) ([gO h0 lo (nI n) rv, gM m0 ar (nI n) rv tv, gR ar cI row, gQ ou cL f] ++ va_pl L (gE S)) → va_S (fun q : Nat => s.heap.size ≤ q) s.heap H locs → lv_has ls 7 [(0, .ref b), (1, .ref h0), (2, .ref m0), (3, .ref ou), (4, .int (nI (4 * it)))] → W p l e room_1 s m #[Value.ref b] below meth c H locs (kc + 6) (ns + 40) (lw_Z below #[Value.ref b] s) (F0 m 1021 ls []) := by
        intro P n rv tv L S f row H locs ls hC hev hrow hP hD hS hl
        refine lv_iinc (v := nI (4 * (it + 1))) (lv' := [(4, .int (nI (4 * (it + 1)))), (0, .ref b), (1, .ref h0), (2, .ref m0), (3, .ref ou)]) hx hb dL_law_1021 hl (k := 4) rfl (by rw [show (Int32.ofInt 4) = nI 4 from rfl, nI_add, show 4 * it + 4 = 4 * (it + 1) by omega]) (by decide) rfl (fun ls hl => ?_)
        refine lv_goto (tgt := 23) hx hb dL_law_1024 (by decide) ?_
        exact ih (it + 1) P n rv tv L S f row (kc + 6) (ns + 40) H locs ls (by omega) (by omega) (by omega) (by omega) hC hev hrow hP hD hS (lv_sub hl [1, 2, 3, 4, 0] rfl)
      refine lv_aload_n hx hb dL_law_32 rfl (lv_at hl 0 rfl) ?_
      refine lv_iload hx hb dL_law_33 (lv_at hl 4 rfl) ?_
      refine va_sld hx hb hXs hbl hbA hS (vp_in_nI (n := 4 * it) (by omega) (by omega)) dL_law_35 ?_
      refine lv_bipush (v := 31) hx hb dL_law_36 (by decide) ?_
      refine lv_iand hx hb dL_law_38 ?_
      obtain ⟨j, hj, ej⟩ := pk_andE (xs (nI (4 * it)).toNatClampNeg) (m := 31) 5 (by decide)
      refine g_top (y := nI j) ej ?_
      have hj : j < 32 := hj
      have hkc6 : kc + 6 ≤ 601024 := by omega
      have hns40 : ns + 40 ≤ 7293034 := by omega
      rcases (show j = 0 ∨ j = 1 ∨ j = 2 ∨ j = 3 ∨ j = 4 ∨ j = 5 ∨ j = 6 ∨ j = 7 ∨ j = 8 ∨ j = 9 ∨ j = 10 ∨ j = 11 ∨ j = 12 ∨ j = 13 ∨ j = 14 ∨ j = 15 ∨ j = 16 ∨ j = 17 ∨ j = 18 ∨ j = 19 ∨ j = 20 ∨ j = 21 ∨ 22 ≤ j by omega) with rfl | rfl | rfl | rfl | rfl | rfl | rfl | rfl | rfl | rfl | rfl | rfl | rfl | rfl | rfl | rfl | rfl | rfl | rfl | rfl | rfl | rfl | hj2
      · refine lv_tableIn (off := 101) (tgt := 140) hx hb dL_law_39 (by decide) (by decide) (by decide) (by decide) ?_
        exact k_enlarge hx hb hml hts hown hK hl9 hGL hXs hbl hix hLs hkc6 hns40 hC hev hrow H locs ls hP hD hS hl hnext
      · refine lv_tableIn (off := 157) (tgt := 196) hx hb dL_law_39 (by decide) (by decide) (by decide) (by decide) ?_
        exact k_pour hx hb hml hts hown hK hl9 hGL hXs hbl hix hLs hkc6 hns40 hC hev hrow H locs ls hP hD hS hl hnext
      · refine lv_tableIn (off := 225) (tgt := 264) hx hb dL_law_39 (by decide) (by decide) (by decide) (by decide) ?_
        exact k_drink hx hb hml hts hown hK hl9 hGL hXs hbl hix hLs hkc6 hns40 hC hev hrow H locs ls hP hD hS hl hnext
      · refine lv_tableIn (off := 281) (tgt := 320) hx hb dL_law_39 (by decide) (by decide) (by decide) (by decide) ?_
        exact k_pourBack hx hb hml hts hown hK hl9 hGL hXs hbl hix hLs hkc6 hns40 hC hev hrow H locs ls hP hD hS hl hnext
      · refine lv_tableIn (off := 337) (tgt := 376) hx hb dL_law_39 (by decide) (by decide) (by decide) (by decide) ?_
        exact k_share hx hb hml hts hown hK hl9 hGL hXs hbl hix hLs hkc6 hns40 hC hev hrow H locs ls hP hD hS hl hnext
      · refine lv_tableIn (off := 417) (tgt := 456) hx hb dL_law_39 (by decide) (by decide) (by decide) (by decide) ?_
        exact k_giveBack hx hb hml hts hown hK hl9 hGL hXs hbl hix hLs hkc6 hns40 hC hev hrow H locs ls hP hD hS hl hnext
      · refine lv_tableIn (off := 473) (tgt := 512) hx hb dL_law_39 (by decide) (by decide) (by decide) (by decide) ?_
        exact k_spill hx hb hml hts hown hK hl9 hGL hXs hbl hix hLs hkc6 hns40 hC hev hrow H locs ls hP hD hS hl hnext
      · refine lv_tableIn (off := 529) (tgt := 568) hx hb dL_law_39 (by decide) (by decide) (by decide) (by decide) ?_
        exact k_nextRound hx hb hml hts hown hK hl9 hGL hXs hbl hix hLs hkc6 hns40 hC hev hrow H locs ls hP hD hS hl hnext
      · refine lv_tableIn (off := 573) (tgt := 612) hx hb dL_law_39 (by decide) (by decide) (by decide) (by decide) ?_
        exact k_size hx hb hml hts hown hK hl9 hGL hXs hbl hix hLs hkc6 hns40 hC hev hrow H locs ls hP hD hS hl hnext
      · refine lv_tableIn (off := 586) (tgt := 625) hx hb dL_law_39 (by decide) (by decide) (by decide) (by decide) ?_
        exact k_round hx hb hml hts hown hK hl9 hGL hXs hbl hix hLs hkc6 hns40 hC hev hrow H locs ls hP hD hS hl hnext
      · refine lv_tableIn (off := 599) (tgt := 638) hx hb dL_law_39 (by decide) (by decide) (by decide) (by decide) ?_
        exact k_inJug hx hb hml hts hown hK hl9 hGL hXs hbl hix hLs hkc6 hns40 hC hev hrow H locs ls hP hD hS hl hnext
      · refine lv_tableIn (off := 612) (tgt := 651) hx hb dL_law_39 (by decide) (by decide) (by decide) (by decide) ?_
        exact k_ranges hx hb hml hts hown hK hl9 hGL hXs hbl hix hLs hkc6 hns40 hC hev hrow H locs ls hP hD hS hl hnext
      · refine lv_tableIn (off := 625) (tgt := 664) hx hb dL_law_39 (by decide) (by decide) (by decide) (by decide) ?_
        exact k_rangeFrom hx hb hml hts hown hK hl9 hGL hXs hbl hix hLs hkc6 hns40 hC hev hrow H locs ls hP hD hS hl hnext
      · refine lv_tableIn (off := 681) (tgt := 720) hx hb dL_law_39 (by decide) (by decide) (by decide) (by decide) ?_
        exact k_rangeTo hx hb hml hts hown hK hl9 hGL hXs hbl hix hLs hkc6 hns40 hC hev hrow H locs ls hP hD hS hl hnext
      · refine lv_tableIn (off := 737) (tgt := 776) hx hb dL_law_39 (by decide) (by decide) (by decide) (by decide) ?_
        exact k_longestRange hx hb hml hts hown hK hl9 hGL hXs hbl hix hLs hkc6 hns40 hC hev hrow H locs ls hP hD hS hl hnext
      · refine lv_tableIn (off := 750) (tgt := 789) hx hb dL_law_39 (by decide) (by decide) (by decide) (by decide) ?_
        exact k_inGoblet hx hb hml hts hown hK hl9 hGL hXs hbl hix hLs hkc6 hns40 hC hev hrow H locs ls hP hD hS hl hnext
      · refine lv_tableIn (off := 806) (tgt := 845) hx hb dL_law_39 (by decide) (by decide) (by decide) (by decide) ?_
        exact k_rangesOf hx hb hml hts hown hK hl9 hGL hXs hbl hix hLs hkc6 hns40 hC hev hrow H locs ls hP hD hS hl hnext
      · refine lv_tableIn (off := 862) (tgt := 901) hx hb dL_law_39 (by decide) (by decide) (by decide) (by decide) ?_
        exact k_nextOf hx hb hml hts hown hK hl9 hGL hXs hbl hix hLs hkc6 hns40 hC hev hrow H locs ls hP hD hS hl hnext
      · refine lv_tableIn (off := 918) (tgt := 957) hx hb dL_law_39 (by decide) (by decide) (by decide) (by decide) ?_
        exact k_placeOf hx hb hml hts hown hK hl9 hGL hXs hbl hix hLs hkc6 hns40 hC hev hrow H locs ls hP hD hS hl hnext
      · refine lv_tableIn (off := 943) (tgt := 982) hx hb dL_law_39 (by decide) (by decide) (by decide) (by decide) ?_
        exact k_drunk hx hb hml hts hown hK hl9 hGL hXs hbl hix hLs hkc6 hns40 hC hev hrow H locs ls hP hD hS hl hnext
      · refine lv_tableIn (off := 956) (tgt := 995) hx hb dL_law_39 (by decide) (by decide) (by decide) (by decide) ?_
        exact k_spilt hx hb hml hts hown hK hl9 hGL hXs hbl hix hLs hkc6 hns40 hC hev hrow H locs ls hP hD hS hl hnext
      · refine lv_tableIn (off := 969) (tgt := 1008) hx hb dL_law_39 (by decide) (by decide) (by decide) (by decide) ?_
        exact k_lowestLeft hx hb hml hts hown hK hl9 hGL hXs hbl hix hLs hkc6 hns40 hC hev hrow H locs ls hP hD hS hl hnext
      · refine lv_tableOut (tgt := 1021) hx hb dL_law_39 (Or.inr (by rw [nI_toInt (by omega)]; omega)) (by decide) ?_
        refine W.widen (k := kc + 6) (n := ns + 40) (by omega) (by omega) ?_
        exact hnext P n rv tv L S f row H locs ls hC hev hrow hP hD hS hl
