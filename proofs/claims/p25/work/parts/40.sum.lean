/-! p25: the law's small methods: what can't be thrown; inGoblets -/
theorem xb_pour {E : String} {v0 v1 : Int32} {P : Nat → Int32} (hg : gGob v0) (hc : gCnt v1) (hj : ¬ gct P 8 5000 = 0) (h : (E = xIOB ∧ ¬ gGob v0) ∨ (E = xIAE ∧ gGob v0 ∧ ¬ gCnt v1) ∨ (E = xISE ∧ gGob v0 ∧ gCnt v1 ∧ glow (fun j => P j = 8) 5000 0)) : False := by
  rcases h with h | h | h
  · exact h.2 hg
  · exact h.2.2 hc
  · exact hj (glow_0.mp h.2.2.2)
theorem xb_drink {E : String} {v0 : Int32} {P : Nat → Int32} (hg : gGob v0) (hj : ¬ (gct P v0 5000 = 0 ∧ gct P 8 5000 = 0)) (h : (E = xIOB ∧ ¬ gGob v0) ∨ (E = xISE ∧ gGob v0 ∧ glow (fun j => P j = v0) 5000 0 ∧ glow (fun j => P j = 8) 5000 0)) : False := by
  rcases h with h | h
  · exact h.2 hg
  · exact hj ⟨glow_0.mp h.2.2.1, glow_0.mp h.2.2.2⟩
theorem xb_share {E : String} {v0 v1 v2 : Int32} (h1 : gGob v0) (h2 : gGob v1) (hn : ¬ v0 = v1) (hc : gCnt v2) (h : (E = xIOB ∧ ¬ (gGob v0 ∧ gGob v1)) ∨ (E = xIAE ∧ gGob v0 ∧ gGob v1 ∧ (v0 = v1 ∨ ¬ gCnt v2))) : False := by
  rcases h with h | h
  · exact h.2 ⟨h1, h2⟩
  · rcases h.2.2.2 with z | z
    · exact hn z
    · exact z hc
theorem z_eq {a b : Nat} (h : a = b) : nI a = nI b := congrArg nI h
theorem z_ne {a b : Nat} (ha : a < 2 ^ 31) (hb : b < 2 ^ 31) (h : a ≠ b) : ¬ nI a = nI b := fun z => h ((nI_eq ha hb).mp z)
theorem z_le {a b : Nat} (h : a ≤ b) (hb : b < 2 ^ 31) : nI a ≤ nI b := nI_le h hb
theorem z_nle {a b : Nat} (h : b < a) (ha : a < 2 ^ 31) : ¬ nI a ≤ nI b := nI_ge h ha
theorem z_lt {a b : Nat} (h : a < b) (hb : b < 2 ^ 31) : nI a < nI b := nI_lt h hb
theorem z_nlt {a b : Nat} (h : b ≤ a) (ha : a < 2 ^ 31) : ¬ nI a < nI b := nI_nlt h ha
set_option maxHeartbeats 4000000 in
set_option maxRecDepth 100000 in
/-- inGoblets: the sum over the goblets -/
theorem w_inGoblets (l : Launch) (hl9 : l.stackTraces = false) (D : va_G) (tys : List (ClassId × FieldType)) (L0 : List Nat) (S0 : gS) (sz : Nat) {P : Nat → Int32} {n h0 lo : Nat} (hC : gCh P lo (L0, S0)) (hI : gInv P n)  : Met l yL_inGoblets wsL_inGoblets ({ frames := 8, cells := 8, slots := 48, locals := 150 } : Room) (gP D tys [.ref h0] ([gO h0 lo (nI n) 1] ++ va_pl L0 (gE S0)) sz (gG (va_A ([gO h0 lo (nI n) 1] ++ va_pl L0 (gE S0)) sz))) (va_Qi (fun (r : Int32) (u : List Nat × gS) => r = nI (gsum (fun q => gct P (nI q) 5000) 8) ∧ gCh P lo u) (fun u t => gWd D tys (va_A ([gO h0 lo (nI n) 1] ++ va_pl L0 (gE S0)) sz) ([gO h0 lo (nI n) 1] ++ va_pl u.1 (gE u.2)) t) (va_A ([gO h0 lo (nI n) 1] ++ va_pl L0 (gE S0)) sz)) 8 48 (va_A ([gO h0 lo (nI n) 1] ++ va_pl L0 (gE S0)) sz) := by
  refine g_ofW (cc := cL_inGoblets) (maxL := 3) (ret := some .int) (by decide) rfl (Nat.le_of_ble_eq_true rfl) ?_
  intro p e s m below meth c hx hb hr hml hts hown hlocks hin hsz hP hK hD hA hS hGG ls hl
  subst hsz
  have hown : s.vm.findClass RL = some m.cls := hown
  have hev := hI.1
  have hn1 := hI.1.1
  have hn2 := hI.2.1
  have hl : lv_has ls 3 [(0, .ref h0)] := hl
  refine lv_iconst (v := nI 0) hx hb dL_inGoblets_0 (by decide) ?_
  refine lv_istore_n (lv' := [(1, .int (nI 0)), (0, .ref h0)]) hx hb dL_inGoblets_1 rfl hl (by decide) rfl (fun ls hl => ?_)
  refine lv_iconst (v := nI 0) hx hb dL_inGoblets_2 (by decide) ?_
  refine lv_istore_n (lv' := [(2, .int (nI 0)), (1, .int (nI 0)), (0, .ref h0)]) hx hb dL_inGoblets_3 rfl hl (by decide) rfl (fun ls hl => ?_)
  have hloop : ∀ (d i : Nat) (L : List Nat) (S : gS) (H : Heap) (locs : List Loc) (ls : Array Slot), i + d = 8 → gCh P lo (L, S) → va_P D vwCl ([gO h0 lo (nI n) 1] ++ va_pl L (gE S)) H → va_D (va_A ([gO h0 lo (nI n) 1] ++ va_pl L0 (gE S0)) s.heap.size) ([gO h0 lo (nI n) 1] ++ va_pl L (gE S)) → va_S (va_A ([gO h0 lo (nI n) 1] ++ va_pl L0 (gE S0)) s.heap.size) s.heap H locs → lv_has ls 3 [(0, .ref h0), (1, .int (nI (gsum (fun q => gct P (nI q) 5000) i))), (2, .int (nI i))] → W p l e ({ frames := 8, cells := 8, slots := 48, locals := 150 } : Room) s m ([.ref h0] : List Value).toArray below meth c H locs i (6 * i) (MQ below (va_Qi (fun (r : Int32) (u : List Nat × gS) => r = nI (gsum (fun q => gct P (nI q) 5000) 8) ∧ gCh P lo u) (fun u t => gWd D tys (va_A ([gO h0 lo (nI n) 1] ++ va_pl L0 (gE S0)) s.heap.size) ([gO h0 lo (nI n) 1] ++ va_pl u.1 (gE u.2)) t) (va_A ([gO h0 lo (nI n) 1] ++ va_pl L0 (gE S0)) s.heap.size)) ([.ref h0] : List Value).toArray s 8 48 (va_A ([gO h0 lo (nI n) 1] ++ va_pl L0 (gE S0)) s.heap.size)) (F0 m 4 ls []) := by
    intro d
    induction d with
    | zero =>
      intro i L S H locs ls hi hC hP hD hS hl
      refine lv_iload_n hx hb dL_inGoblets_4 rfl (lv_at hl 2 rfl) ?_
      refine lv_bipush (v := nI 8) hx hb dL_inGoblets_5 (by decide) ?_
      refine lv_icmp_ge (tgt := 24) hx hb dL_inGoblets_7 (by decide) (fun _ => ?_) (fun c9 => absurd (z_le (by omega) (by omega)) c9)
      refine lv_iload_n hx hb dL_inGoblets_24 rfl (lv_at hl 1 rfl) ?_
      rw [show i = 8 by omega]
      exact g_reti (wo := fun u : List Nat × gS => [gO h0 lo (nI n) 1] ++ va_pl u.1 (gE u.2)) hx hb hr hlocks hK (nI (gsum (fun q => gct P (nI q) 5000) 8)) (L, S) hP hD hS (by omega) (by omega) ⟨rfl, hC⟩ dL_inGoblets_25
    | succ d ih =>
      intro i L S H locs ls hi hC hP hD hS hl
      have hi8 : i < 8 := by omega
      refine lv_iload_n hx hb dL_inGoblets_4 rfl (lv_at hl 2 rfl) ?_
      refine lv_bipush (v := nI 8) hx hb dL_inGoblets_5 (by decide) ?_
      refine lv_icmp_ge (tgt := 24) hx hb dL_inGoblets_7 (by decide) (fun c9 => absurd c9 (z_nle (by omega) (by omega))) (fun _ => ?_)
      refine lv_iload_n hx hb dL_inGoblets_10 rfl (lv_at hl 1 rfl) ?_
      refine lv_aload_n hx hb dL_inGoblets_11 rfl (lv_at hl 0 rfl) ?_
      refine lv_iload_n hx hb dL_inGoblets_12 rfl (lv_at hl 2 rfl) ?_
      refine g_xcalli (vx_runV (As := [.int (nI i)]) (rest := [.int (nI (gsum (fun q => gct P (nI q) 5000) i))]) ⟨hx, hb, hml, hown, hts⟩ (c_inGoblet l hl9 D tys [gO h0 lo (nI n) 1] L S H.size (i := 0) rfl hC (nI i)) (cwV 1 hts gL_inGoblets_X1_inGoblet rfl rfl rfl (by decide +kernel) ⟨Nat.le_of_ble_eq_true rfl, Nat.le_of_ble_eq_true rfl⟩) (gP_V (va_recv hK hP (ci := 1) rfl (g_inX (X := [gO h0 lo (nI n) 1]) (i := 0) rfl)) hP hK hD gBl_G (fun U hU hW => gG.call hGG hS (gA_sub hD hS hA) U hU hW)) rfl rfl hl.1 rfl (lv_room (Nat.le_of_ble_eq_true rfl)) dL_inGoblets_13 ⟨by show i + 1 ≤ 8; omega, by show 6 * i + 6 ≤ 48; omega⟩) hD hS hA (fun E ce q9 u9 H locs hc hP hD hS e1 e2 e3 => False.elim (hc.1.2 (h_gob hi8))) (fun r9 u9 H locs hr9 hP hD hS => ?_)
      obtain ⟨⟨-, hr9⟩, hC⟩ := hr9
      obtain ⟨L, S⟩ := u9
      have hP : va_P D vwCl ([gO h0 lo (nI n) 1] ++ va_pl L (gE S)) H := hP
      have hD : va_D (va_A ([gO h0 lo (nI n) 1] ++ va_pl L0 (gE S0)) s.heap.size) ([gO h0 lo (nI n) 1] ++ va_pl L (gE S)) := hD
      have hr9 : r9 = nI (gct P (nI i) 5000) := hr9
      subst hr9
      refine lv_iadd hx hb dL_inGoblets_16 ?_
      refine g_top (y := nI ((gsum (fun q => gct P (nI q) 5000) i) + (gct P (nI i) 5000))) (nI_add _ _) ?_
      refine g_top (y := nI (gsum (fun q => gct P (nI q) 5000) (i + 1))) (rfl) ?_
      refine lv_istore_n (lv' := [(1, .int (nI (gsum (fun q => gct P (nI q) 5000) (i + 1)))), (0, .ref h0), (2, .int (nI i))]) hx hb dL_inGoblets_17 rfl hl (by decide) rfl (fun ls hl => ?_)
      refine lv_iinc (v := nI (i + 1)) (lv' := [(2, .int (nI (i + 1))), (1, .int (nI (gsum (fun q => gct P (nI q) 5000) (i + 1)))), (0, .ref h0)]) hx hb dL_inGoblets_18 hl (k := 2) rfl (nI_1 _) (by decide) rfl (fun ls hl => ?_)
      refine lv_goto (tgt := 4) hx hb dL_inGoblets_21 (by decide) ?_
      refine W.widen (k := (i + 1)) (n := (6 * (i + 1))) (by omega) (by omega) ?_
      exact ih (i + 1) L S H locs ls (by omega) hC hP hD hS (lv_sub hl [2, 1, 0] rfl)
  exact hloop 8 0 L0 S0 s.heap [] ls rfl hC hP hD hS (lv_sub hl [2, 1, 0] rfl)
