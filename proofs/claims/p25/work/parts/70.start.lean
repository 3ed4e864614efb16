/-! the law from its entry -/
theorem g_start_str {b : Nat} {s : State} (htsT : ∀ w ∈ lw_tbl, w.before #[Value.ref b] s = true) (hfl : ∀ w ∈ flatC (Jvm.Cond.and given_1 narrow_1), w.before #[Value.ref b] s = true) (k : Nat) (tx : String) (h1 : Cond.stringRef RX1 k tx ∈ lw_tbl) (h2 : Cond.exactly (.string RX1 k) "java/lang/String" ∈ flatC (Jvm.Cond.and given_1 narrow_1)) : ∃ a, vk_R RX1 k tx a s := by
  obtain ⟨a, c, cA, kA, q1, -⟩ := Cond.exactly_spec (args := #[Value.ref b]) (first := s) (o := none) (s := s) (idx := []) (t := .string RX1 k) (cls := "java/lang/String") (hfl _ h2)
  exact ⟨a, vk_R.of (htsT _ h1) q1⟩
set_option maxHeartbeats 4000000 in
set_option maxRecDepth 100000 in
theorem whole_start {p : Program} {e : Env} {s : State} {m : MethodId} {below : List Frame} {meth : Method} {c : Code} (l : Launch) (hflags : l.flags = flags0) {b L : Nat} {xs : Nat → Int32} (hL : L ≤ 260) (C0 : lw_At p s m meth c b L xs) : W p l e room_1 s m #[Value.ref b] below meth c s.heap [] 0 0 (lw_Z below #[Value.ref b] s) (entryFrame m ([Value.ref b] : List Value).toArray 10) := by
  obtain ⟨hx, hb, hr, hml, hown, htsT, hX, hbl, hlocks, hgv⟩ := id C0
  have hA : ∀ q : Nat, s.heap.size ≤ q → (fun q : Nat => s.heap.size ≤ q) q := fun _ h => h
  have hts : ∀ w ∈ wsL_law, w.before #[Value.ref b] s = true := fun w h => htsT w (wsL_law_in w h)
  have hl9 : l.stackTraces = false := by unfold Launch.stackTraces; rw [hflags]; decide +kernel
  obtain ⟨c0, iS0, hKn0⟩ := u_known (C := RX0) (T := TX0) (N := 4) (n := 4) hts inlX0 (hts (.instantiable RX0 4) (by decide +kernel))
  obtain ⟨c1, iS1, hKn1⟩ := u_known (C := RX1) (T := TX1) (N := 3) (n := 3) hts inlX1 (hts (.instantiable RX1 3) (by decide +kernel))
  obtain ⟨dC, dI, hKc⟩ : ∃ (dC : Nat → ClassId) (dI : Nat → Nat → Nat), ∀ (k : Nat) (q : vw_C), vwCl[k]? = some q → u_Kn s q.1 q.2.1 q.2.2 (dC k) (dI k) := by
    refine ⟨fun k => if k = 0 then c0 else c1, fun k => if k = 0 then iS0 else iS1, ?_⟩
    intro k q hq
    match k, hq with
    | 0, hq => cases hq; exact hKn0
    | 1, hq => cases hq; exact hKn1
    | k + 2, hq => simp [vwCl] at hq
  have hfl := flat_of_before _ hgv
  have hAA : ∀ a : Nat, a < s.heap.size → ¬ (fun q : Nat => s.heap.size ≤ q) a := fun a h => Nat.not_le.mpr h
  have hGG : gG (fun q : Nat => s.heap.size ≤ q) s := by
    refine ⟨⟨⟨va_Nw.of rfl (htsT (.fieldLinkNest RX1 90 "NumberGoblets$Stretch" "first" "I" "NumberGoblets") (by decide +kernel)), va_Nw.of rfl (htsT (.fieldLinkNest RX1 93 "NumberGoblets$Stretch" "last" "I" "NumberGoblets") (by decide +kernel)), va_Nw.of rfl (htsT (.fieldLinkNest RX1 96 "NumberGoblets$Stretch" "place" "I" "NumberGoblets") (by decide +kernel)), va_Nw.of rfl (htsT (.fieldLinkNest RX1 103 "NumberGoblets$Stretch" "next" "LNumberGoblets$Stretch;" "NumberGoblets") (by decide +kernel))⟩, va_Nw.of rfl (htsT (.methodLinkNest RX1 11 yX0_init "NumberGoblets") (by decide +kernel)), va_Nw.of rfl (htsT (.methodLinkNest RX1 99 yX0_length "NumberGoblets") (by decide +kernel)), va_Nw.of rfl (htsT (.methodLinkNest RX1 110 yX0_shortenTo "NumberGoblets") (by decide +kernel)), va_Nw.of rfl (htsT (.methodLinkNest RX1 116 yX0_absorbNextOnesOfSamePlace "NumberGoblets") (by decide +kernel))⟩, ?_, ?_, ?_, ?_⟩
    · intro w hw
      refine va_Nw.of ?_ (htsT w ?_)
      · revert w hw; decide +kernel
      · revert w hw; decide +kernel
    · intro q hq
      simp only [gSt, List.mem_cons, List.not_mem_nil, or_false] at hq
      rcases hq with rfl | rfl | rfl | rfl | rfl | rfl | rfl | rfl | rfl
      · exact g_start_str htsT hfl 27 "the size is not above the old one and up to 5000" (by decide +kernel) (by decide +kernel)
      · exact g_start_str htsT hfl 106 "there is no such goblet" (by decide +kernel) (by decide +kernel)
      · exact g_start_str htsT hfl 108 "the count is not 1 to 200" (by decide +kernel) (by decide +kernel)
      · exact g_start_str htsT hfl 52 "the jug is empty" (by decide +kernel) (by decide +kernel)
      · exact g_start_str htsT hfl 55 "the goblet and the jug are empty" (by decide +kernel) (by decide +kernel)
      · exact g_start_str htsT hfl 61 "both goblets are the same" (by decide +kernel) (by decide +kernel)
      · exact g_start_str htsT hfl 71 "the number is not drunk" (by decide +kernel) (by decide +kernel)
      · exact g_start_str htsT hfl 76 "the jug or some goblet is not empty" (by decide +kernel) (by decide +kernel)
      · exact g_start_str htsT hfl 87 "the jug has no such range" (by decide +kernel) (by decide +kernel)
    · exact vx_Zqof (htsT (.laysStatic Bundle.tN "UNASSIGNED_STACK" Bundle.steD) (by decide +kernel)) (htsT (.initialized Bundle.tN) (by decide +kernel)) (hfl (.isRef (.static Bundle.tN "UNASSIGNED_STACK" Bundle.steD)) (by decide +kernel)) hAA
    · exact vx_Zqof (htsT (.laysStatic Bundle.tN "SUPPRESSED_SENTINEL" Bundle.listD) (by decide +kernel)) (htsT (.initialized Bundle.tN) (by decide +kernel)) (hfl (.isRef (.static Bundle.tN "SUPPRESSED_SENTINEL" Bundle.listD)) (by decide +kernel)) hAA
  have hS : va_S (fun q : Nat => s.heap.size ≤ q) s.heap s.heap [] := va_S.rf
  have hK : va_K (dC, dI) vwCl [] s := ⟨hKc, fun k q h => by simp at h⟩
  have hP : va_P (dC, dI) vwCl [] s.heap := fun k q h => by simp at h
  have hD : va_D (fun q : Nat => s.heap.size ≤ q) [] := ⟨fun i j p q h => by simp at h, fun k q h => by simp at h⟩
  have hl := lv_entry ([.ref b]) (n := 10) (Nat.le_of_ble_eq_true rfl)
  rw [lg_entry_eq]
  generalize (lg_sl ([.ref b]) ++ List.replicate (10 - (lg_sl ([.ref b])).length) Slot.unset).toArray = ls at hl ⊢
  have hl : lv_has ls 10 [(0, .ref b)] := hl
  refine va_new (ci := 1) (fs := [.null, .int 0, .int 0]) (C := RX1) (T := TX1) (N := 3) hx hb hts inlX1 tyX1 tyX1_ok hown (hts (.classLink RL 9 RX1) (by decide +kernel)) (hts (.instantiable RX1 3) (by decide +kernel)) (hts (.initialized RX1) (by decide +kernel)) hK hP hD hS hA rfl (fun j hj => by rcases (show j = 0 ∨ j = 1 ∨ j = 2 by omega) with rfl | rfl | rfl <;> rfl) (by decide) (by decide) dL_law_0 (fun h0 H hP hD hS => ?_)
  have hP : va_P (dC, dI) vwCl ([(h0, .inr (1, [.null, .int 0, .int 0]))] ++ va_pl [] (gE (fun _ => (0, 0, 0, none)))) H := hP
  have hD : va_D (fun q : Nat => s.heap.size ≤ q) ([(h0, .inr (1, [.null, .int 0, .int 0]))] ++ va_pl [] (gE (fun _ => (0, 0, 0, none)))) := hD
  refine lv_dup hx hb dL_law_3 rfl ?_
  refine g_callv (va_runI (As := []) (rest := [.ref h0]) ⟨hx, hb, hml, hown, hts⟩ (c_Ginit l (dC, dI) [] [(h0, .inr (1, [.null, .int 0, .int 0]))] (fun _ => (0, 0, 0, none)) H.size (i := 0) rfl) (cwI 0 hts gL_law_X1_init rfl rfl rfl (hts (.initialized RX1) (by decide +kernel)) (hts (.methodLink RL 74 yX1_init) (by decide +kernel)) (hts (.instanceMethod yX1_init) (by decide +kernel)) rfl (by decide +kernel) ⟨Nat.le_of_ble_eq_true rfl, Nat.le_of_ble_eq_true rfl⟩) (gP_S hP hK hD gBl_N (fun U _ hW => hGG.1.warm hW)) rfl rfl hl.1 rfl (lv_room (Nat.le_of_ble_eq_true rfl)) dL_law_4 ⟨Nat.le_of_ble_eq_true rfl, Nat.le_of_ble_eq_true rfl⟩) hD hS hA (fun u H locs hC hP hD hS => ?_)
  obtain ⟨lo, L1, S1⟩ := u
  have hP : va_P (dC, dI) vwCl ([gO h0 lo (nI 100) 1] ++ va_pl L1 (gE S1)) H := hP
  have hD : va_D (fun q : Nat => s.heap.size ≤ q) ([gO h0 lo (nI 100) 1] ++ va_pl L1 (gE S1)) := hD
  have hC : gCh gP0 lo (L1, S1) := hC
  refine lv_astore_n (lv' := [(1, .ref h0), (0, .ref b)]) hx hb dL_law_7 rfl hl (by decide) rfl (fun ls hl => ?_)
  refine lv_iconst (v := nI 1) hx hb dL_law_8 (by decide) ?_
  refine lv_istore_n (lv' := [(2, .int (nI 1)), (1, .ref h0), (0, .ref b)]) hx hb dL_law_9 rfl hl (by decide) rfl (fun ls hl => ?_)
  refine lv_iconst (v := nI 0) hx hb dL_law_10 (by decide) ?_
  refine lv_istore_n (lv' := [(3, .int (nI 0)), (2, .int (nI 1)), (1, .ref h0), (0, .ref b)]) hx hb dL_law_11 rfl hl (by decide) rfl (fun ls hl => ?_)
  exact law_loop hx hb hr hlocks hml hts hown hK hl9 hGG hX hbl hL 130 0 gP0 100 _ _ L1 S1 H locs ls rfl (Nat.le_of_ble_eq_true rfl) (Nat.le_of_ble_eq_true rfl) inv_0 hC hP hD hS (lv_sub hl [3, 2, 1, 0] rfl)
