/-! the law's cases, one by one -/
theorem g_l4 {a b c d : Nat × va_E} {Y : va_W} {k : Nat} (h : k < 4) : k < ([a, b, c, d] ++ Y).length := by
  simp only [List.length_append, List.length_cons, List.length_nil]
  omega
theorem b_place {P : Nat → Int32} {n : Nat} {v0 r1 r2 : Int32} (hev : gEv P n) (h1 : (∃ j : Nat, 1 ≤ j ∧ j ≤ 5000 ∧ v0 = nI j ∧ r1 = P j) ∨ (r1 = -1 ∧ ∀ j : Nat, 1 ≤ j → j ≤ 5000 → ¬ v0 = nI j)) (h2 : (∃ q : Nat, 1 ≤ q ∧ q ≤ n ∧ v0 = nI q ∧ r2 = P q) ∨ (r2 = -1 ∧ ∀ q : Nat, 1 ≤ q → q ≤ n → ¬ v0 = nI q)) : r1 = r2 := by
  have hn := hev.2.1
  rcases h1 with ⟨j, a1, a2, a3, a4⟩ | ⟨a1, a2⟩ <;> rcases h2 with ⟨q, b1, b2, b3, b4⟩ | ⟨b1, b2⟩
  · have : j = q := (nI_eq (by omega) (by omega)).mp (a3.symm.trans b3)
    rw [a4, b4, this]
  · have hj : n < j := by
      rcases Nat.lt_or_ge n j with z | z
      · exact z
      · exact absurd a3 (b2 j a1 z)
    rw [a4, b1, hev.2.2.1 j (Or.inr hj)]
  · exact absurd b3 (a2 q b1 (by omega))
  · rw [a1, b1]
theorem g_cmp0 (x : Int64) : lg_cmp x x = 0 := by
  have h := lg_cmp_ge x x
  have h2 := lg_cmp_le x x
  exact Int32.le_antisymm (h2.mpr (Int64.le_refl x)) (h.mpr (Int64.le_refl x))
set_option maxHeartbeats 4000000 in
set_option maxRecDepth 100000 in
theorem k_enlarge {p : Program} {l : Launch} {e : Env} {s : State} {m : MethodId} {args : Array Value} {below : List Frame} {meth : Method} {c : Code} {Q : State → Prop} {D : va_G} {b Ls ix h0 m0 ar ou lo n kc ns : Nat} {xs : Nat → Int32} {cI cL : ClassId} {P : Nat → Int32} {rv tv : Int32} {L : List Nat} {S : gS} {f : Nat → Int64} {row : Nat → Int32} (hx : p.tables.exec = Jvm.exec) (hb : c.code = cL_law) (hml : c.maxLocals = 7) (hts : ∀ w ∈ wsL_law, w.before args s = true) (hown : s.vm.findClass RL = some m.cls) (hK : va_K D vwCl [(cI, .int), (cL, .long)] s) (hl9 : l.stackTraces = false) (hGL : gL (fun q : Nat => s.heap.size ≤ q) s) (hXs : va_X b Ls xs s s.heap) (hbl : b < s.heap.size) (hix : ix + 4 ≤ Ls) (hLs : Ls ≤ 2048) (hkc : kc + 6 ≤ 601024) (hns : ns + 40 ≤ 7293034) (hC : gCh P lo (L, S)) (hev : gEv P n) (hrow : gRow P n row) (H : Heap) (locs : List Loc) (ls : Array Slot) (hP : va_P D vwCl ([gO h0 lo (nI n) rv, gM m0 ar (nI n) rv tv, gR ar cI row, gQ ou cL f] ++ va_pl L (gE S)) H) (hD : va_D (fun q : Nat => s.heap.size ≤ q) ([gO h0 lo (nI n) rv, gM m0 ar (nI n) rv tv, gR ar cI row, gQ ou cL f] ++ va_pl L (gE S))) (hS : va_S (fun q : Nat => s.heap.size ≤ q) s.heap H locs) (hl : lv_has ls 7 [(0, .ref b), (1, .ref h0), (2, .ref m0), (3, .ref ou), (4, .int (nI ix))]) (hend : (∀ (P : Nat → Int32) (n : Nat) (rv tv : Int32) (L : List Nat) (S : gS) (f : Nat → Int64) (row : Nat → Int32) (H : Heap) (locs : List Loc) (ls : Array Slot), gCh P lo (L, S) → gEv P n → gRow P n row → va_P D vwCl ([gO h0 lo (nI n) rv, gM m0 ar (nI n) rv tv, gR ar cI row, gQ ou cL f] ++ va_pl L (gE S)) H → va_D (fun q : Nat => s.heap.size ≤ q) ([gO h0 lo (nI n) rv, gM m0 ar (nI n) rv tv, gR ar cI row, gQ ou cL f] ++ va_pl L (gE S)) → va_S (fun q : Nat => s.heap.size ≤ q) s.heap H locs → lv_has ls 7 [(0, .ref b), (1, .ref h0), (2, .ref m0), (3, .ref ou), (4, .int (nI ix))] → W p l e room_1 s m args below meth c H locs (kc + 6) (ns + 40) Q (F0 m 1021 ls []))) : W p l e room_1 s m args below meth c H locs kc ns Q (F0 m 140 ls []) := by
  have hA : ∀ q : Nat, s.heap.size ≤ q → (fun q : Nat => s.heap.size ≤ q) q := fun _ h => h
  have hbA : ¬ (fun q : Nat => s.heap.size ≤ q) b := Nat.not_le.mpr hbl
  refine lv_aload_n hx hb dL_law_140 rfl (lv_at hl 1 rfl) ?_
  refine lv_aload_n hx hb dL_law_141 rfl (lv_at hl 0 rfl) ?_
  refine lv_iload hx hb dL_law_142 (lv_at hl 4 rfl) ?_
  refine lv_iconst (v := 1) hx hb dL_law_144 (by decide) ?_
  refine lv_iadd hx hb dL_law_145 ?_
  refine g_top (y := nI (ix + 1)) (nI_add _ _) ?_
  refine va_sld hx hb hXs hbl hbA hS (vp_in_nI (n := ix + 1) (by omega) (by omega)) dL_law_146 ?_
  refine g_top (y := xs (ix + 1)) (by rw [nI_clamp (by omega)]) ?_
  refine lv_aload_n hx hb dL_law_147 rfl (lv_at hl 3 rfl) ?_
  refine g_calli (vx_runSW (As := [.ref h0, .int (xs (ix + 1)), .ref ou]) (rest := []) ⟨hx, hb, hml, hown, hts⟩ (w_enlarge l hl9 D [(cI, .int), (cL, .long)] [gO h0 lo (nI n) rv, gM m0 ar (nI n) rv tv, gR ar cI row, gQ ou cL f] L S H.size (i := 0) (io := 3) (tl := 1) rfl rfl (by decide) rfl hC (xs (ix + 1)) rfl hev.2.1) (vx_cwSW 3 hts gL_law_L_enlarge rfl rfl rfl (by decide +kernel) ⟨Nat.le_of_ble_eq_true rfl, Nat.le_of_ble_eq_true rfl⟩) (gP_S hP hK hD gBl_L (fun U hU hW => hGL.call hS (gA_sub hD hS hA) U hU hW)) rfl rfl hl.1 rfl (lv_room (Nat.le_of_ble_eq_true rfl)) dL_law_148 ⟨by show kc + 3 ≤ 601024; omega, by show ns + 14 ≤ 7293034; omega⟩) hD hS hA (fun kC uC H locs hw hP hD hS => ?_)
  have hP : va_P D vwCl ([gO h0 lo uC.2.2.1 uC.2.2.2, gM m0 ar (nI n) rv tv, gR ar cI row, gQ ou cL uC.2.1] ++ va_pl uC.1.1 (gE uC.1.2)) H := hP
  have hD : va_D (fun q : Nat => s.heap.size ≤ q) ([gO h0 lo uC.2.2.1 uC.2.2.2, gM m0 ar (nI n) rv tv, gR ar cI row, gQ ou cL uC.2.1] ++ va_pl uC.1.1 (gE uC.1.2)) := hD
  refine lv_istore (lv' := [(5, .int kC), (0, .ref b), (1, .ref h0), (2, .ref m0), (3, .ref ou), (4, .int (nI ix))]) hx hb dL_law_151 hl (by decide) rfl (fun ls hl => ?_)
  refine lv_aload_n hx hb dL_law_153 rfl (lv_at hl 3 rfl) ?_
  refine lv_aload_n hx hb dL_law_154 rfl (lv_at hl 1 rfl) ?_
  refine lv_iload hx hb dL_law_155 (lv_at hl 5 rfl) ?_
  refine lv_iconst (v := 1) hx hb dL_law_157 (by decide) ?_
  refine lv_iadd hx hb dL_law_158 ?_
  refine g_top (y := nI (ix + 1)) (nI_add _ _) ?_
  refine va_sld hx hb hXs hbl hbA hS (vp_in_nI (n := ix + 1) (by omega) (by omega)) dL_law_159 ?_
  refine g_top (y := xs (ix + 1)) (by rw [nI_clamp (by omega)]) ?_
  have hPm : va_P D vwCl (wM ([gO h0 lo uC.2.2.1 uC.2.2.2, gM m0 ar (nI n) rv tv, gR ar cI row, gQ ou cL uC.2.1] ++ va_pl uC.1.1 (gE uC.1.2)) 1 2 m0 ar cI (nI n) rv tv row) H := hP
  have hDm : va_D (fun q : Nat => s.heap.size ≤ q) (wM ([gO h0 lo uC.2.2.1 uC.2.2.2, gM m0 ar (nI n) rv tv, gR ar cI row, gQ ou cL uC.2.1] ++ va_pl uC.1.1 (gE uC.1.2)) 1 2 m0 ar cI (nI n) rv tv row) := hD
  refine g_calli (va_runV (As := [.int (xs (ix + 1))]) (rest := []) ⟨hx, hb, hml, hown, hts⟩ (m_enlarge l D [(cI, .int), (cL, .long)] (t := 0) rfl (w := [gO h0 lo uC.2.2.1 uC.2.2.2, gM m0 ar (nI n) rv tv, gR ar cI row, gQ ou cL uC.2.1] ++ va_pl uC.1.1 (gE uC.1.2)) (i := 1) (j := 2) (g_l4 (by omega)) (g_l4 (by omega)) (by decide) hev.2.1 hrow H.size hev (xs (ix + 1))) (cwV 1 hts gL_law_X2_enlarge rfl rfl rfl (by decide +kernel) ⟨Nat.le_of_ble_eq_true rfl, Nat.le_of_ble_eq_true rfl⟩) (gP_V (va_recv hK hPm (ci := 2) rfl (gM_i (g_l4 (by omega)) (by decide))) hPm hK hDm gBl_T (fun _ _ _ => trivial)) rfl rfl hl.1 rfl (lv_room (Nat.le_of_ble_eq_true rfl)) dL_law_160 ⟨by show kc + 3 + 0 ≤ 601024; omega, by show ns + 14 + 0 ≤ 7293034; omega⟩) hDm hS hA (fun bM uM H locs hm hP hD hS => ?_)
  have hP : va_P D vwCl ([gO h0 lo uC.2.2.1 uC.2.2.2, gM m0 ar uM.2.1 rv uM.1, gR ar cI uM.2.2, gQ ou cL uC.2.1] ++ va_pl uC.1.1 (gE uC.1.2)) H := hP
  have hD : va_D (fun q : Nat => s.heap.size ≤ q) ([gO h0 lo uC.2.2.1 uC.2.2.2, gM m0 ar uM.2.1 rv uM.1, gR ar cI uM.2.2, gQ ou cL uC.2.1] ++ va_pl uC.1.1 (gE uC.1.2)) := hD
  obtain ⟨hth, hval, P2, n2, hC2, hev2, hrow2, hs1, hs2, hs3⟩ := a_enlarge hev hrow hw hm
  rw [hs1, hs3] at hP hD
  have hP : va_P D vwCl ([gO h0 lo (nI n2) rv, gM m0 ar (nI n2) rv uM.1, gR ar cI uM.2.2, gQ ou cL uC.2.1] ++ va_pl uC.1.1 (gE uC.1.2)) H := by rw [← hs2]; rw [← hs2] at hP; exact hP
  have hD : va_D (fun q : Nat => s.heap.size ≤ q) ([gO h0 lo (nI n2) rv, gM m0 ar (nI n2) rv uM.1, gR ar cI uM.2.2, gQ ou cL uC.2.1] ++ va_pl uC.1.1 (gE uC.1.2)) := by rw [← hs2]; rw [← hs2] at hD; exact hD
  refine lv_istore (lv' := [(6, .int bM), (5, .int kC), (0, .ref b), (1, .ref h0), (2, .ref m0), (3, .ref ou), (4, .int (nI ix))]) hx hb dL_law_163 hl (by decide) rfl (fun ls hl => ?_)
  refine lv_aload_n hx hb dL_law_165 rfl (lv_at hl 4 rfl) ?_
  have hPm : va_P D vwCl (wM ([gO h0 lo (nI n2) rv, gM m0 ar (nI n2) rv uM.1, gR ar cI uM.2.2, gQ ou cL uC.2.1] ++ va_pl uC.1.1 (gE uC.1.2)) 1 2 m0 ar cI (nI n2) rv uM.1 uM.2.2) H := hP
  have hDm : va_D (fun q : Nat => s.heap.size ≤ q) (wM ([gO h0 lo (nI n2) rv, gM m0 ar (nI n2) rv uM.1, gR ar cI uM.2.2, gQ ou cL uC.2.1] ++ va_pl uC.1.1 (gE uC.1.2)) 1 2 m0 ar cI (nI n2) rv uM.1 uM.2.2) := hD
  refine g_calli (va_runV (As := []) (rest := []) ⟨hx, hb, hml, hown, hts⟩ (m_thrown l D [(cI, .int), (cL, .long)] (t := 0) rfl (w := [gO h0 lo (nI n2) rv, gM m0 ar (nI n2) rv uM.1, gR ar cI uM.2.2, gQ ou cL uC.2.1] ++ va_pl uC.1.1 (gE uC.1.2)) (i := 1) (j := 2) (g_l4 (by omega)) (g_l4 (by omega)) (by decide) hev2.2.1 hrow2 H.size) (cwV 0 hts gL_law_X2_thrown rfl rfl rfl (by decide +kernel) ⟨Nat.le_of_ble_eq_true rfl, Nat.le_of_ble_eq_true rfl⟩) (gP_V (va_recv hK hPm (ci := 2) rfl (gM_i (g_l4 (by omega)) (by decide))) hPm hK hDm gBl_T (fun _ _ _ => trivial)) rfl rfl hl.1 rfl (lv_room (Nat.le_of_ble_eq_true rfl)) dL_law_166 ⟨by show kc + 3 + 0 + 0 ≤ 601024; omega, by show ns + 14 + 0 + 0 ≤ 7293034; omega⟩) hDm hS hA (fun r9 u9 H locs hr9 hP hD hS => ?_)
  have hP : va_P D vwCl ([gO h0 lo (nI n2) rv, gM m0 ar (nI n2) rv uM.1, gR ar cI uM.2.2, gQ ou cL uC.2.1] ++ va_pl uC.1.1 (gE uC.1.2)) H := hP
  have hD : va_D (fun q : Nat => s.heap.size ≤ q) ([gO h0 lo (nI n2) rv, gM m0 ar (nI n2) rv uM.1, gR ar cI uM.2.2, gQ ou cL uC.2.1] ++ va_pl uC.1.1 (gE uC.1.2)) := hD
  refine lv_iload hx hb dL_law_169 (lv_at hl 1 rfl) ?_
  refine lv_icmp_eq (tgt := 176) hx hb dL_law_171 (by decide) (fun _ => ?_) (fun c9 => absurd (hr9.trans hth) c9)
  refine lv_iload hx hb dL_law_176 (lv_at hl 1 rfl) ?_
  refine lv_if_ne (tgt := 193) hx hb dL_law_178 (by decide) (fun c1 => ?_) (fun c1 => ?_)
  · skip
    refine lv_goto (tgt := 1021) hx hb dL_law_193 (by decide) ?_
    refine W.widen (k := kc + 6) (n := ns + 40) (by omega) (by omega) ?_
    exact hend P2 n2 rv uM.1 uC.1.1 uC.1.2 uC.2.1 uM.2.2 H locs ls hC2 hev2 hrow2 hP hD hS (lv_sub hl [2, 3, 4, 5, 6] rfl)
  · have hk0 : kC = 0 := by first | exact c1 | exact Classical.not_not.mp c1
    refine lv_aload_n hx hb dL_law_181 rfl (lv_at hl 5 rfl) ?_
    refine lv_iconst (v := 0) hx hb dL_law_182 (by decide) ?_
    refine va_lald hx hb hK hP 3 1 rfl rfl (vp_in_nI (n := 0) (N := 1) (by omega) (by omega)) dL_law_183 ?_
    refine lv_iload hx hb dL_law_184 (lv_at hl 0 rfl) ?_
    refine lv_i2l (v := bM.toInt64) hx hb dL_law_186 rfl ?_
    refine W.lcmp hx hb dL_law_187 ?_
    have hcmp : lg_cmp (uC.2.1 ((0 : Int32).toNatClampNeg)) bM.toInt64 = 0 := by rw [sb_cl0, hval hk0]; exact g_cmp0 _
    refine lv_if_eq (tgt := 193) hx hb dL_law_188 (by decide) (fun _ => ?_) (fun c9 => absurd hcmp c9)
    refine lv_goto (tgt := 1021) hx hb dL_law_193 (by decide) ?_
    refine W.widen (k := kc + 6) (n := ns + 40) (by omega) (by omega) ?_
    exact hend P2 n2 rv uM.1 uC.1.1 uC.1.2 uC.2.1 uM.2.2 H locs ls hC2 hev2 hrow2 hP hD hS (lv_sub hl [2, 3, 4, 5, 6] rfl)
set_option maxHeartbeats 4000000 in
set_option maxRecDepth 100000 in
theorem k_pour {p : Program} {l : Launch} {e : Env} {s : State} {m : MethodId} {args : Array Value} {below : List Frame} {meth : Method} {c : Code} {Q : State → Prop} {D : va_G} {b Ls ix h0 m0 ar ou lo n kc ns : Nat} {xs : Nat → Int32} {cI cL : ClassId} {P : Nat → Int32} {rv tv : Int32} {L : List Nat} {S : gS} {f : Nat → Int64} {row : Nat → Int32} (hx : p.tables.exec = Jvm.exec) (hb : c.code = cL_law) (hml : c.maxLocals = 7) (hts : ∀ w ∈ wsL_law, w.before args s = true) (hown : s.vm.findClass RL = some m.cls) (hK : va_K D vwCl [(cI, .int), (cL, .long)] s) (hl9 : l.stackTraces = false) (hGL : gL (fun q : Nat => s.heap.size ≤ q) s) (hXs : va_X b Ls xs s s.heap) (hbl : b < s.heap.size) (hix : ix + 4 ≤ Ls) (hLs : Ls ≤ 2048) (hkc : kc + 6 ≤ 601024) (hns : ns + 40 ≤ 7293034) (hC : gCh P lo (L, S)) (hev : gEv P n) (hrow : gRow P n row) (H : Heap) (locs : List Loc) (ls : Array Slot) (hP : va_P D vwCl ([gO h0 lo (nI n) rv, gM m0 ar (nI n) rv tv, gR ar cI row, gQ ou cL f] ++ va_pl L (gE S)) H) (hD : va_D (fun q : Nat => s.heap.size ≤ q) ([gO h0 lo (nI n) rv, gM m0 ar (nI n) rv tv, gR ar cI row, gQ ou cL f] ++ va_pl L (gE S))) (hS : va_S (fun q : Nat => s.heap.size ≤ q) s.heap H locs) (hl : lv_has ls 7 [(0, .ref b), (1, .ref h0), (2, .ref m0), (3, .ref ou), (4, .int (nI ix))]) (hend : (∀ (P : Nat → Int32) (n : Nat) (rv tv : Int32) (L : List Nat) (S : gS) (f : Nat → Int64) (row : Nat → Int32) (H : Heap) (locs : List Loc) (ls : Array Slot), gCh P lo (L, S) → gEv P n → gRow P n row → va_P D vwCl ([gO h0 lo (nI n) rv, gM m0 ar (nI n) rv tv, gR ar cI row, gQ ou cL f] ++ va_pl L (gE S)) H → va_D (fun q : Nat => s.heap.size ≤ q) ([gO h0 lo (nI n) rv, gM m0 ar (nI n) rv tv, gR ar cI row, gQ ou cL f] ++ va_pl L (gE S)) → va_S (fun q : Nat => s.heap.size ≤ q) s.heap H locs → lv_has ls 7 [(0, .ref b), (1, .ref h0), (2, .ref m0), (3, .ref ou), (4, .int (nI ix))] → W p l e room_1 s m args below meth c H locs (kc + 6) (ns + 40) Q (F0 m 1021 ls []))) : W p l e room_1 s m args below meth c H locs kc ns Q (F0 m 196 ls []) := by
  have hA : ∀ q : Nat, s.heap.size ≤ q → (fun q : Nat => s.heap.size ≤ q) q := fun _ h => h
  have hbA : ¬ (fun q : Nat => s.heap.size ≤ q) b := Nat.not_le.mpr hbl
  refine lv_aload_n hx hb dL_law_196 rfl (lv_at hl 1 rfl) ?_
  refine lv_aload_n hx hb dL_law_197 rfl (lv_at hl 0 rfl) ?_
  refine lv_iload hx hb dL_law_198 (lv_at hl 4 rfl) ?_
  refine lv_iconst (v := 1) hx hb dL_law_200 (by decide) ?_
  refine lv_iadd hx hb dL_law_201 ?_
  refine g_top (y := nI (ix + 1)) (nI_add _ _) ?_
  refine va_sld hx hb hXs hbl hbA hS (vp_in_nI (n := ix + 1) (by omega) (by omega)) dL_law_202 ?_
  refine g_top (y := xs (ix + 1)) (by rw [nI_clamp (by omega)]) ?_
  refine lv_aload_n hx hb dL_law_203 rfl (lv_at hl 0 rfl) ?_
  refine lv_iload hx hb dL_law_204 (lv_at hl 4 rfl) ?_
  refine lv_iconst (v := 2) hx hb dL_law_206 (by decide) ?_
  refine lv_iadd hx hb dL_law_207 ?_
  refine g_top (y := nI (ix + 2)) (nI_add _ _) ?_
  refine va_sld hx hb hXs hbl hbA hS (vp_in_nI (n := ix + 2) (by omega) (by omega)) dL_law_208 ?_
  refine g_top (y := xs (ix + 2)) (by rw [nI_clamp (by omega)]) ?_
  refine lv_aload_n hx hb dL_law_209 rfl (lv_at hl 3 rfl) ?_
  refine g_calli (vx_runSW (As := [.ref h0, .int (xs (ix + 1)), .int (xs (ix + 2)), .ref ou]) (rest := []) ⟨hx, hb, hml, hown, hts⟩ (w_pour l hl9 D [(cI, .int), (cL, .long)] [gO h0 lo (nI n) rv, gM m0 ar (nI n) rv tv, gR ar cI row, gQ ou cL f] L S H.size (i := 0) (io := 3) (tl := 1) rfl rfl (by decide) rfl hC (xs (ix + 1)) (xs (ix + 2))) (vx_cwSW 4 hts gL_law_L_pour rfl rfl rfl (by decide +kernel) ⟨Nat.le_of_ble_eq_true rfl, Nat.le_of_ble_eq_true rfl⟩) (gP_S hP hK hD gBl_L (fun U hU hW => hGL.call hS (gA_sub hD hS hA) U hU hW)) rfl rfl hl.1 rfl (lv_room (Nat.le_of_ble_eq_true rfl)) dL_law_210 ⟨by show kc + 4 ≤ 601024; omega, by show ns + 20 ≤ 7293034; omega⟩) hD hS hA (fun kC uC H locs hw hP hD hS => ?_)
  have hP : va_P D vwCl ([gO h0 lo uC.2.2.1 uC.2.2.2, gM m0 ar (nI n) rv tv, gR ar cI row, gQ ou cL uC.2.1] ++ va_pl uC.1.1 (gE uC.1.2)) H := hP
  have hD : va_D (fun q : Nat => s.heap.size ≤ q) ([gO h0 lo uC.2.2.1 uC.2.2.2, gM m0 ar (nI n) rv tv, gR ar cI row, gQ ou cL uC.2.1] ++ va_pl uC.1.1 (gE uC.1.2)) := hD
  refine lv_istore (lv' := [(5, .int kC), (0, .ref b), (1, .ref h0), (2, .ref m0), (3, .ref ou), (4, .int (nI ix))]) hx hb dL_law_213 hl (by decide) rfl (fun ls hl => ?_)
  refine lv_aload_n hx hb dL_law_215 rfl (lv_at hl 3 rfl) ?_
  refine lv_aload_n hx hb dL_law_216 rfl (lv_at hl 1 rfl) ?_
  refine lv_iload hx hb dL_law_217 (lv_at hl 5 rfl) ?_
  refine lv_iconst (v := 1) hx hb dL_law_219 (by decide) ?_
  refine lv_iadd hx hb dL_law_220 ?_
  refine g_top (y := nI (ix + 1)) (nI_add _ _) ?_
  refine va_sld hx hb hXs hbl hbA hS (vp_in_nI (n := ix + 1) (by omega) (by omega)) dL_law_221 ?_
  refine g_top (y := xs (ix + 1)) (by rw [nI_clamp (by omega)]) ?_
  refine lv_aload_n hx hb dL_law_222 rfl (lv_at hl 1 rfl) ?_
  refine lv_iload hx hb dL_law_223 (lv_at hl 5 rfl) ?_
  refine lv_iconst (v := 2) hx hb dL_law_225 (by decide) ?_
  refine lv_iadd hx hb dL_law_226 ?_
  refine g_top (y := nI (ix + 2)) (nI_add _ _) ?_
  refine va_sld hx hb hXs hbl hbA hS (vp_in_nI (n := ix + 2) (by omega) (by omega)) dL_law_227 ?_
  refine g_top (y := xs (ix + 2)) (by rw [nI_clamp (by omega)]) ?_
  have hPm : va_P D vwCl (wM ([gO h0 lo uC.2.2.1 uC.2.2.2, gM m0 ar (nI n) rv tv, gR ar cI row, gQ ou cL uC.2.1] ++ va_pl uC.1.1 (gE uC.1.2)) 1 2 m0 ar cI (nI n) rv tv row) H := hP
  have hDm : va_D (fun q : Nat => s.heap.size ≤ q) (wM ([gO h0 lo uC.2.2.1 uC.2.2.2, gM m0 ar (nI n) rv tv, gR ar cI row, gQ ou cL uC.2.1] ++ va_pl uC.1.1 (gE uC.1.2)) 1 2 m0 ar cI (nI n) rv tv row) := hD
  refine g_calli (va_runV (As := [.int (xs (ix + 1)), .int (xs (ix + 2))]) (rest := []) ⟨hx, hb, hml, hown, hts⟩ (m_pour l D [(cI, .int), (cL, .long)] (t := 0) rfl (w := [gO h0 lo uC.2.2.1 uC.2.2.2, gM m0 ar (nI n) rv tv, gR ar cI row, gQ ou cL uC.2.1] ++ va_pl uC.1.1 (gE uC.1.2)) (i := 1) (j := 2) (g_l4 (by omega)) (g_l4 (by omega)) (by decide) hev.2.1 hrow H.size (by have := hev.1; omega) (xs (ix + 1)) (xs (ix + 2))) (cwV 2 hts gL_law_X2_pour rfl rfl rfl (by decide +kernel) ⟨Nat.le_of_ble_eq_true rfl, Nat.le_of_ble_eq_true rfl⟩) (gP_V (va_recv hK hPm (ci := 2) rfl (gM_i (g_l4 (by omega)) (by decide))) hPm hK hDm gBl_T (fun _ _ _ => trivial)) rfl rfl hl.1 rfl (lv_room (Nat.le_of_ble_eq_true rfl)) dL_law_228 ⟨by show kc + 4 + 0 ≤ 601024; omega, by show ns + 20 + 0 ≤ 7293034; omega⟩) hDm hS hA (fun bM uM H locs hm hP hD hS => ?_)
  have hP : va_P D vwCl ([gO h0 lo uC.2.2.1 uC.2.2.2, gM m0 ar (nI n) rv uM.1, gR ar cI uM.2, gQ ou cL uC.2.1] ++ va_pl uC.1.1 (gE uC.1.2)) H := hP
  have hD : va_D (fun q : Nat => s.heap.size ≤ q) ([gO h0 lo uC.2.2.1 uC.2.2.2, gM m0 ar (nI n) rv uM.1, gR ar cI uM.2, gQ ou cL uC.2.1] ++ va_pl uC.1.1 (gE uC.1.2)) := hD
  obtain ⟨hth, hval, P2, n2, hC2, hev2, hrow2, hs1, hs2, hs3⟩ := a_pour hev hrow hw hm
  rw [hs1, hs3] at hP hD
  have hP : va_P D vwCl ([gO h0 lo (nI n2) rv, gM m0 ar (nI n2) rv uM.1, gR ar cI uM.2, gQ ou cL uC.2.1] ++ va_pl uC.1.1 (gE uC.1.2)) H := by rw [← hs2]; rw [← hs2] at hP; exact hP
  have hD : va_D (fun q : Nat => s.heap.size ≤ q) ([gO h0 lo (nI n2) rv, gM m0 ar (nI n2) rv uM.1, gR ar cI uM.2, gQ ou cL uC.2.1] ++ va_pl uC.1.1 (gE uC.1.2)) := by rw [← hs2]; rw [← hs2] at hD; exact hD
  refine lv_istore (lv' := [(6, .int bM), (5, .int kC), (0, .ref b), (1, .ref h0), (2, .ref m0), (3, .ref ou), (4, .int (nI ix))]) hx hb dL_law_231 hl (by decide) rfl (fun ls hl => ?_)
  refine lv_aload_n hx hb dL_law_233 rfl (lv_at hl 4 rfl) ?_
  have hPm : va_P D vwCl (wM ([gO h0 lo (nI n2) rv, gM m0 ar (nI n2) rv uM.1, gR ar cI uM.2, gQ ou cL uC.2.1] ++ va_pl uC.1.1 (gE uC.1.2)) 1 2 m0 ar cI (nI n2) rv uM.1 uM.2) H := hP
  have hDm : va_D (fun q : Nat => s.heap.size ≤ q) (wM ([gO h0 lo (nI n2) rv, gM m0 ar (nI n2) rv uM.1, gR ar cI uM.2, gQ ou cL uC.2.1] ++ va_pl uC.1.1 (gE uC.1.2)) 1 2 m0 ar cI (nI n2) rv uM.1 uM.2) := hD
  refine g_calli (va_runV (As := []) (rest := []) ⟨hx, hb, hml, hown, hts⟩ (m_thrown l D [(cI, .int), (cL, .long)] (t := 0) rfl (w := [gO h0 lo (nI n2) rv, gM m0 ar (nI n2) rv uM.1, gR ar cI uM.2, gQ ou cL uC.2.1] ++ va_pl uC.1.1 (gE uC.1.2)) (i := 1) (j := 2) (g_l4 (by omega)) (g_l4 (by omega)) (by decide) hev2.2.1 hrow2 H.size) (cwV 0 hts gL_law_X2_thrown rfl rfl rfl (by decide +kernel) ⟨Nat.le_of_ble_eq_true rfl, Nat.le_of_ble_eq_true rfl⟩) (gP_V (va_recv hK hPm (ci := 2) rfl (gM_i (g_l4 (by omega)) (by decide))) hPm hK hDm gBl_T (fun _ _ _ => trivial)) rfl rfl hl.1 rfl (lv_room (Nat.le_of_ble_eq_true rfl)) dL_law_234 ⟨by show kc + 4 + 0 + 0 ≤ 601024; omega, by show ns + 20 + 0 + 0 ≤ 7293034; omega⟩) hDm hS hA (fun r9 u9 H locs hr9 hP hD hS => ?_)
  have hP : va_P D vwCl ([gO h0 lo (nI n2) rv, gM m0 ar (nI n2) rv uM.1, gR ar cI uM.2, gQ ou cL uC.2.1] ++ va_pl uC.1.1 (gE uC.1.2)) H := hP
  have hD : va_D (fun q : Nat => s.heap.size ≤ q) ([gO h0 lo (nI n2) rv, gM m0 ar (nI n2) rv uM.1, gR ar cI uM.2, gQ ou cL uC.2.1] ++ va_pl uC.1.1 (gE uC.1.2)) := hD
  refine lv_iload hx hb dL_law_237 (lv_at hl 1 rfl) ?_
  refine lv_icmp_eq (tgt := 244) hx hb dL_law_239 (by decide) (fun _ => ?_) (fun c9 => absurd (hr9.trans hth) c9)
  refine lv_iload hx hb dL_law_244 (lv_at hl 1 rfl) ?_
  refine lv_if_ne (tgt := 261) hx hb dL_law_246 (by decide) (fun c1 => ?_) (fun c1 => ?_)
  · skip
    refine lv_goto (tgt := 1021) hx hb dL_law_261 (by decide) ?_
    refine W.widen (k := kc + 6) (n := ns + 40) (by omega) (by omega) ?_
    exact hend P2 n2 rv uM.1 uC.1.1 uC.1.2 uC.2.1 uM.2 H locs ls hC2 hev2 hrow2 hP hD hS (lv_sub hl [2, 3, 4, 5, 6] rfl)
  · have hk0 : kC = 0 := by first | exact c1 | exact Classical.not_not.mp c1
    refine lv_aload_n hx hb dL_law_249 rfl (lv_at hl 5 rfl) ?_
    refine lv_iconst (v := 0) hx hb dL_law_250 (by decide) ?_
    refine va_lald hx hb hK hP 3 1 rfl rfl (vp_in_nI (n := 0) (N := 1) (by omega) (by omega)) dL_law_251 ?_
    refine lv_iload hx hb dL_law_252 (lv_at hl 0 rfl) ?_
    refine lv_i2l (v := bM.toInt64) hx hb dL_law_254 rfl ?_
    refine W.lcmp hx hb dL_law_255 ?_
    have hcmp : lg_cmp (uC.2.1 ((0 : Int32).toNatClampNeg)) bM.toInt64 = 0 := by rw [sb_cl0, hval hk0]; exact g_cmp0 _
    refine lv_if_eq (tgt := 261) hx hb dL_law_256 (by decide) (fun _ => ?_) (fun c9 => absurd hcmp c9)
    refine lv_goto (tgt := 1021) hx hb dL_law_261 (by decide) ?_
    refine W.widen (k := kc + 6) (n := ns + 40) (by omega) (by omega) ?_
    exact hend P2 n2 rv uM.1 uC.1.1 uC.1.2 uC.2.1 uM.2 H locs ls hC2 hev2 hrow2 hP hD hS (lv_sub hl [2, 3, 4, 5, 6] rfl)
set_option maxHeartbeats 4000000 in
set_option maxRecDepth 100000 in
theorem k_drink {p : Program} {l : Launch} {e : Env} {s : State} {m : MethodId} {args : Array Value} {below : List Frame} {meth : Method} {c : Code} {Q : State → Prop} {D : va_G} {b Ls ix h0 m0 ar ou lo n kc ns : Nat} {xs : Nat → Int32} {cI cL : ClassId} {P : Nat → Int32} {rv tv : Int32} {L : List Nat} {S : gS} {f : Nat → Int64} {row : Nat → Int32} (hx : p.tables.exec = Jvm.exec) (hb : c.code = cL_law) (hml : c.maxLocals = 7) (hts : ∀ w ∈ wsL_law, w.before args s = true) (hown : s.vm.findClass RL = some m.cls) (hK : va_K D vwCl [(cI, .int), (cL, .long)] s) (hl9 : l.stackTraces = false) (hGL : gL (fun q : Nat => s.heap.size ≤ q) s) (hXs : va_X b Ls xs s s.heap) (hbl : b < s.heap.size) (hix : ix + 4 ≤ Ls) (hLs : Ls ≤ 2048) (hkc : kc + 6 ≤ 601024) (hns : ns + 40 ≤ 7293034) (hC : gCh P lo (L, S)) (hev : gEv P n) (hrow : gRow P n row) (H : Heap) (locs : List Loc) (ls : Array Slot) (hP : va_P D vwCl ([gO h0 lo (nI n) rv, gM m0 ar (nI n) rv tv, gR ar cI row, gQ ou cL f] ++ va_pl L (gE S)) H) (hD : va_D (fun q : Nat => s.heap.size ≤ q) ([gO h0 lo (nI n) rv, gM m0 ar (nI n) rv tv, gR ar cI row, gQ ou cL f] ++ va_pl L (gE S))) (hS : va_S (fun q : Nat => s.heap.size ≤ q) s.heap H locs) (hl : lv_has ls 7 [(0, .ref b), (1, .ref h0), (2, .ref m0), (3, .ref ou), (4, .int (nI ix))]) (hend : (∀ (P : Nat → Int32) (n : Nat) (rv tv : Int32) (L : List Nat) (S : gS) (f : Nat → Int64) (row : Nat → Int32) (H : Heap) (locs : List Loc) (ls : Array Slot), gCh P lo (L, S) → gEv P n → gRow P n row → va_P D vwCl ([gO h0 lo (nI n) rv, gM m0 ar (nI n) rv tv, gR ar cI row, gQ ou cL f] ++ va_pl L (gE S)) H → va_D (fun q : Nat => s.heap.size ≤ q) ([gO h0 lo (nI n) rv, gM m0 ar (nI n) rv tv, gR ar cI row, gQ ou cL f] ++ va_pl L (gE S)) → va_S (fun q : Nat => s.heap.size ≤ q) s.heap H locs → lv_has ls 7 [(0, .ref b), (1, .ref h0), (2, .ref m0), (3, .ref ou), (4, .int (nI ix))] → W p l e room_1 s m args below meth c H locs (kc + 6) (ns + 40) Q (F0 m 1021 ls []))) : W p l e room_1 s m args below meth c H locs kc ns Q (F0 m 264 ls []) := by
  have hA : ∀ q : Nat, s.heap.size ≤ q → (fun q : Nat => s.heap.size ≤ q) q := fun _ h => h
  have hbA : ¬ (fun q : Nat => s.heap.size ≤ q) b := Nat.not_le.mpr hbl
  refine lv_aload_n hx hb dL_law_264 rfl (lv_at hl 1 rfl) ?_
  refine lv_aload_n hx hb dL_law_265 rfl (lv_at hl 0 rfl) ?_
  refine lv_iload hx hb dL_law_266 (lv_at hl 4 rfl) ?_
  refine lv_iconst (v := 1) hx hb dL_law_268 (by decide) ?_
  refine lv_iadd hx hb dL_law_269 ?_
  refine g_top (y := nI (ix + 1)) (nI_add _ _) ?_
  refine va_sld hx hb hXs hbl hbA hS (vp_in_nI (n := ix + 1) (by omega) (by omega)) dL_law_270 ?_
  refine g_top (y := xs (ix + 1)) (by rw [nI_clamp (by omega)]) ?_
  refine lv_aload_n hx hb dL_law_271 rfl (lv_at hl 3 rfl) ?_
  refine g_calli (vx_runSW (As := [.ref h0, .int (xs (ix + 1)), .ref ou]) (rest := []) ⟨hx, hb, hml, hown, hts⟩ (w_drink l hl9 D [(cI, .int), (cL, .long)] [gO h0 lo (nI n) rv, gM m0 ar (nI n) rv tv, gR ar cI row, gQ ou cL f] L S H.size (i := 0) (io := 3) (tl := 1) rfl rfl (by decide) rfl hC (xs (ix + 1)) (gEv_out hev)) (vx_cwSW 3 hts gL_law_L_drink rfl rfl rfl (by decide +kernel) ⟨Nat.le_of_ble_eq_true rfl, Nat.le_of_ble_eq_true rfl⟩) (gP_S hP hK hD gBl_L (fun U hU hW => hGL.call hS (gA_sub hD hS hA) U hU hW)) rfl rfl hl.1 rfl (lv_room (Nat.le_of_ble_eq_true rfl)) dL_law_272 ⟨by show kc + 5 ≤ 601024; omega, by show ns + 22 ≤ 7293034; omega⟩) hD hS hA (fun kC uC H locs hw hP hD hS => ?_)
  have hP : va_P D vwCl ([gO h0 lo uC.2.2.1 uC.2.2.2, gM m0 ar (nI n) rv tv, gR ar cI row, gQ ou cL uC.2.1] ++ va_pl uC.1.1 (gE uC.1.2)) H := hP
  have hD : va_D (fun q : Nat => s.heap.size ≤ q) ([gO h0 lo uC.2.2.1 uC.2.2.2, gM m0 ar (nI n) rv tv, gR ar cI row, gQ ou cL uC.2.1] ++ va_pl uC.1.1 (gE uC.1.2)) := hD
  refine lv_istore (lv' := [(5, .int kC), (0, .ref b), (1, .ref h0), (2, .ref m0), (3, .ref ou), (4, .int (nI ix))]) hx hb dL_law_275 hl (by decide) rfl (fun ls hl => ?_)
  refine lv_aload_n hx hb dL_law_277 rfl (lv_at hl 3 rfl) ?_
  refine lv_aload_n hx hb dL_law_278 rfl (lv_at hl 1 rfl) ?_
  refine lv_iload hx hb dL_law_279 (lv_at hl 5 rfl) ?_
  refine lv_iconst (v := 1) hx hb dL_law_281 (by decide) ?_
  refine lv_iadd hx hb dL_law_282 ?_
  refine g_top (y := nI (ix + 1)) (nI_add _ _) ?_
  refine va_sld hx hb hXs hbl hbA hS (vp_in_nI (n := ix + 1) (by omega) (by omega)) dL_law_283 ?_
  refine g_top (y := xs (ix + 1)) (by rw [nI_clamp (by omega)]) ?_
  have hPm : va_P D vwCl (wM ([gO h0 lo uC.2.2.1 uC.2.2.2, gM m0 ar (nI n) rv tv, gR ar cI row, gQ ou cL uC.2.1] ++ va_pl uC.1.1 (gE uC.1.2)) 1 2 m0 ar cI (nI n) rv tv row) H := hP
  have hDm : va_D (fun q : Nat => s.heap.size ≤ q) (wM ([gO h0 lo uC.2.2.1 uC.2.2.2, gM m0 ar (nI n) rv tv, gR ar cI row, gQ ou cL uC.2.1] ++ va_pl uC.1.1 (gE uC.1.2)) 1 2 m0 ar cI (nI n) rv tv row) := hD
  refine g_calli (va_runV (As := [.int (xs (ix + 1))]) (rest := []) ⟨hx, hb, hml, hown, hts⟩ (m_drink l D [(cI, .int), (cL, .long)] (t := 0) rfl (w := [gO h0 lo uC.2.2.1 uC.2.2.2, gM m0 ar (nI n) rv tv, gR ar cI row, gQ ou cL uC.2.1] ++ va_pl uC.1.1 (gE uC.1.2)) (i := 1) (j := 2) (g_l4 (by omega)) (g_l4 (by omega)) (by decide) hev.2.1 hrow H.size (xs (ix + 1))) (cwV 1 hts gL_law_X2_drink rfl rfl rfl (by decide +kernel) ⟨Nat.le_of_ble_eq_true rfl, Nat.le_of_ble_eq_true rfl⟩) (gP_V (va_recv hK hPm (ci := 2) rfl (gM_i (g_l4 (by omega)) (by decide))) hPm hK hDm gBl_T (fun _ _ _ => trivial)) rfl rfl hl.1 rfl (lv_room (Nat.le_of_ble_eq_true rfl)) dL_law_284 ⟨by show kc + 5 + 0 ≤ 601024; omega, by show ns + 22 + 0 ≤ 7293034; omega⟩) hDm hS hA (fun bM uM H locs hm hP hD hS => ?_)
  have hP : va_P D vwCl ([gO h0 lo uC.2.2.1 uC.2.2.2, gM m0 ar (nI n) rv uM.1, gR ar cI uM.2, gQ ou cL uC.2.1] ++ va_pl uC.1.1 (gE uC.1.2)) H := hP
  have hD : va_D (fun q : Nat => s.heap.size ≤ q) ([gO h0 lo uC.2.2.1 uC.2.2.2, gM m0 ar (nI n) rv uM.1, gR ar cI uM.2, gQ ou cL uC.2.1] ++ va_pl uC.1.1 (gE uC.1.2)) := hD
  obtain ⟨hth, hval, P2, n2, hC2, hev2, hrow2, hs1, hs2, hs3⟩ := a_drink hev hrow hw hm
  rw [hs1, hs3] at hP hD
  have hP : va_P D vwCl ([gO h0 lo (nI n2) rv, gM m0 ar (nI n2) rv uM.1, gR ar cI uM.2, gQ ou cL uC.2.1] ++ va_pl uC.1.1 (gE uC.1.2)) H := by rw [← hs2]; rw [← hs2] at hP; exact hP
  have hD : va_D (fun q : Nat => s.heap.size ≤ q) ([gO h0 lo (nI n2) rv, gM m0 ar (nI n2) rv uM.1, gR ar cI uM.2, gQ ou cL uC.2.1] ++ va_pl uC.1.1 (gE uC.1.2)) := by rw [← hs2]; rw [← hs2] at hD; exact hD
  refine lv_istore (lv' := [(6, .int bM), (5, .int kC), (0, .ref b), (1, .ref h0), (2, .ref m0), (3, .ref ou), (4, .int (nI ix))]) hx hb dL_law_287 hl (by decide) rfl (fun ls hl => ?_)
  refine lv_aload_n hx hb dL_law_289 rfl (lv_at hl 4 rfl) ?_
  have hPm : va_P D vwCl (wM ([gO h0 lo (nI n2) rv, gM m0 ar (nI n2) rv uM.1, gR ar cI uM.2, gQ ou cL uC.2.1] ++ va_pl uC.1.1 (gE uC.1.2)) 1 2 m0 ar cI (nI n2) rv uM.1 uM.2) H := hP
  have hDm : va_D (fun q : Nat => s.heap.size ≤ q) (wM ([gO h0 lo (nI n2) rv, gM m0 ar (nI n2) rv uM.1, gR ar cI uM.2, gQ ou cL uC.2.1] ++ va_pl uC.1.1 (gE uC.1.2)) 1 2 m0 ar cI (nI n2) rv uM.1 uM.2) := hD
  refine g_calli (va_runV (As := []) (rest := []) ⟨hx, hb, hml, hown, hts⟩ (m_thrown l D [(cI, .int), (cL, .long)] (t := 0) rfl (w := [gO h0 lo (nI n2) rv, gM m0 ar (nI n2) rv uM.1, gR ar cI uM.2, gQ ou cL uC.2.1] ++ va_pl uC.1.1 (gE uC.1.2)) (i := 1) (j := 2) (g_l4 (by omega)) (g_l4 (by omega)) (by decide) hev2.2.1 hrow2 H.size) (cwV 0 hts gL_law_X2_thrown rfl rfl rfl (by decide +kernel) ⟨Nat.le_of_ble_eq_true rfl, Nat.le_of_ble_eq_true rfl⟩) (gP_V (va_recv hK hPm (ci := 2) rfl (gM_i (g_l4 (by omega)) (by decide))) hPm hK hDm gBl_T (fun _ _ _ => trivial)) rfl rfl hl.1 rfl (lv_room (Nat.le_of_ble_eq_true rfl)) dL_law_290 ⟨by show kc + 5 + 0 + 0 ≤ 601024; omega, by show ns + 22 + 0 + 0 ≤ 7293034; omega⟩) hDm hS hA (fun r9 u9 H locs hr9 hP hD hS => ?_)
  have hP : va_P D vwCl ([gO h0 lo (nI n2) rv, gM m0 ar (nI n2) rv uM.1, gR ar cI uM.2, gQ ou cL uC.2.1] ++ va_pl uC.1.1 (gE uC.1.2)) H := hP
  have hD : va_D (fun q : Nat => s.heap.size ≤ q) ([gO h0 lo (nI n2) rv, gM m0 ar (nI n2) rv uM.1, gR ar cI uM.2, gQ ou cL uC.2.1] ++ va_pl uC.1.1 (gE uC.1.2)) := hD
  refine lv_iload hx hb dL_law_293 (lv_at hl 1 rfl) ?_
  refine lv_icmp_eq (tgt := 300) hx hb dL_law_295 (by decide) (fun _ => ?_) (fun c9 => absurd (hr9.trans hth) c9)
  refine lv_iload hx hb dL_law_300 (lv_at hl 1 rfl) ?_
  refine lv_if_ne (tgt := 317) hx hb dL_law_302 (by decide) (fun c1 => ?_) (fun c1 => ?_)
  · skip
    refine lv_goto (tgt := 1021) hx hb dL_law_317 (by decide) ?_
    refine W.widen (k := kc + 6) (n := ns + 40) (by omega) (by omega) ?_
    exact hend P2 n2 rv uM.1 uC.1.1 uC.1.2 uC.2.1 uM.2 H locs ls hC2 hev2 hrow2 hP hD hS (lv_sub hl [2, 3, 4, 5, 6] rfl)
  · have hk0 : kC = 0 := by first | exact c1 | exact Classical.not_not.mp c1
    refine lv_aload_n hx hb dL_law_305 rfl (lv_at hl 5 rfl) ?_
    refine lv_iconst (v := 0) hx hb dL_law_306 (by decide) ?_
    refine va_lald hx hb hK hP 3 1 rfl rfl (vp_in_nI (n := 0) (N := 1) (by omega) (by omega)) dL_law_307 ?_
    refine lv_iload hx hb dL_law_308 (lv_at hl 0 rfl) ?_
    refine lv_i2l (v := bM.toInt64) hx hb dL_law_310 rfl ?_
    refine W.lcmp hx hb dL_law_311 ?_
    have hcmp : lg_cmp (uC.2.1 ((0 : Int32).toNatClampNeg)) bM.toInt64 = 0 := by rw [sb_cl0, hval hk0]; exact g_cmp0 _
    refine lv_if_eq (tgt := 317) hx hb dL_law_312 (by decide) (fun _ => ?_) (fun c9 => absurd hcmp c9)
    refine lv_goto (tgt := 1021) hx hb dL_law_317 (by decide) ?_
    refine W.widen (k := kc + 6) (n := ns + 40) (by omega) (by omega) ?_
    exact hend P2 n2 rv uM.1 uC.1.1 uC.1.2 uC.2.1 uM.2 H locs ls hC2 hev2 hrow2 hP hD hS (lv_sub hl [2, 3, 4, 5, 6] rfl)
set_option maxHeartbeats 4000000 in
set_option maxRecDepth 100000 in
theorem k_pourBack {p : Program} {l : Launch} {e : Env} {s : State} {m : MethodId} {args : Array Value} {below : List Frame} {meth : Method} {c : Code} {Q : State → Prop} {D : va_G} {b Ls ix h0 m0 ar ou lo n kc ns : Nat} {xs : Nat → Int32} {cI cL : ClassId} {P : Nat → Int32} {rv tv : Int32} {L : List Nat} {S : gS} {f : Nat → Int64} {row : Nat → Int32} (hx : p.tables.exec = Jvm.exec) (hb : c.code = cL_law) (hml : c.maxLocals = 7) (hts : ∀ w ∈ wsL_law, w.before args s = true) (hown : s.vm.findClass RL = some m.cls) (hK : va_K D vwCl [(cI, .int), (cL, .long)] s) (hl9 : l.stackTraces = false) (hGL : gL (fun q : Nat => s.heap.size ≤ q) s) (hXs : va_X b Ls xs s s.heap) (hbl : b < s.heap.size) (hix : ix + 4 ≤ Ls) (hLs : Ls ≤ 2048) (hkc : kc + 6 ≤ 601024) (hns : ns + 40 ≤ 7293034) (hC : gCh P lo (L, S)) (hev : gEv P n) (hrow : gRow P n row) (H : Heap) (locs : List Loc) (ls : Array Slot) (hP : va_P D vwCl ([gO h0 lo (nI n) rv, gM m0 ar (nI n) rv tv, gR ar cI row, gQ ou cL f] ++ va_pl L (gE S)) H) (hD : va_D (fun q : Nat => s.heap.size ≤ q) ([gO h0 lo (nI n) rv, gM m0 ar (nI n) rv tv, gR ar cI row, gQ ou cL f] ++ va_pl L (gE S))) (hS : va_S (fun q : Nat => s.heap.size ≤ q) s.heap H locs) (hl : lv_has ls 7 [(0, .ref b), (1, .ref h0), (2, .ref m0), (3, .ref ou), (4, .int (nI ix))]) (hend : (∀ (P : Nat → Int32) (n : Nat) (rv tv : Int32) (L : List Nat) (S : gS) (f : Nat → Int64) (row : Nat → Int32) (H : Heap) (locs : List Loc) (ls : Array Slot), gCh P lo (L, S) → gEv P n → gRow P n row → va_P D vwCl ([gO h0 lo (nI n) rv, gM m0 ar (nI n) rv tv, gR ar cI row, gQ ou cL f] ++ va_pl L (gE S)) H → va_D (fun q : Nat => s.heap.size ≤ q) ([gO h0 lo (nI n) rv, gM m0 ar (nI n) rv tv, gR ar cI row, gQ ou cL f] ++ va_pl L (gE S)) → va_S (fun q : Nat => s.heap.size ≤ q) s.heap H locs → lv_has ls 7 [(0, .ref b), (1, .ref h0), (2, .ref m0), (3, .ref ou), (4, .int (nI ix))] → W p l e room_1 s m args below meth c H locs (kc + 6) (ns + 40) Q (F0 m 1021 ls []))) : W p l e room_1 s m args below meth c H locs kc ns Q (F0 m 320 ls []) := by
  have hA : ∀ q : Nat, s.heap.size ≤ q → (fun q : Nat => s.heap.size ≤ q) q := fun _ h => h
  have hbA : ¬ (fun q : Nat => s.heap.size ≤ q) b := Nat.not_le.mpr hbl
  refine lv_aload_n hx hb dL_law_320 rfl (lv_at hl 1 rfl) ?_
  refine lv_aload_n hx hb dL_law_321 rfl (lv_at hl 0 rfl) ?_
  refine lv_iload hx hb dL_law_322 (lv_at hl 4 rfl) ?_
  refine lv_iconst (v := 1) hx hb dL_law_324 (by decide) ?_
  refine lv_iadd hx hb dL_law_325 ?_
  refine g_top (y := nI (ix + 1)) (nI_add _ _) ?_
  refine va_sld hx hb hXs hbl hbA hS (vp_in_nI (n := ix + 1) (by omega) (by omega)) dL_law_326 ?_
  refine g_top (y := xs (ix + 1)) (by rw [nI_clamp (by omega)]) ?_
  refine lv_aload_n hx hb dL_law_327 rfl (lv_at hl 3 rfl) ?_
  refine g_calli (vx_runSW (As := [.ref h0, .int (xs (ix + 1)), .ref ou]) (rest := []) ⟨hx, hb, hml, hown, hts⟩ (w_pourBack l hl9 D [(cI, .int), (cL, .long)] [gO h0 lo (nI n) rv, gM m0 ar (nI n) rv tv, gR ar cI row, gQ ou cL f] L S H.size (i := 0) (io := 3) (tl := 1) rfl rfl (by decide) rfl hC (xs (ix + 1))) (vx_cwSW 3 hts gL_law_L_pourBack rfl rfl rfl (by decide +kernel) ⟨Nat.le_of_ble_eq_true rfl, Nat.le_of_ble_eq_true rfl⟩) (gP_S hP hK hD gBl_L (fun U hU hW => hGL.call hS (gA_sub hD hS hA) U hU hW)) rfl rfl hl.1 rfl (lv_room (Nat.le_of_ble_eq_true rfl)) dL_law_328 ⟨by show kc + 3 ≤ 601024; omega, by show ns + 14 ≤ 7293034; omega⟩) hD hS hA (fun kC uC H locs hw hP hD hS => ?_)
  have hP : va_P D vwCl ([gO h0 lo uC.2.2.1 uC.2.2.2, gM m0 ar (nI n) rv tv, gR ar cI row, gQ ou cL uC.2.1] ++ va_pl uC.1.1 (gE uC.1.2)) H := hP
  have hD : va_D (fun q : Nat => s.heap.size ≤ q) ([gO h0 lo uC.2.2.1 uC.2.2.2, gM m0 ar (nI n) rv tv, gR ar cI row, gQ ou cL uC.2.1] ++ va_pl uC.1.1 (gE uC.1.2)) := hD
  refine lv_istore (lv' := [(5, .int kC), (0, .ref b), (1, .ref h0), (2, .ref m0), (3, .ref ou), (4, .int (nI ix))]) hx hb dL_law_331 hl (by decide) rfl (fun ls hl => ?_)
  refine lv_aload_n hx hb dL_law_333 rfl (lv_at hl 3 rfl) ?_
  refine lv_aload_n hx hb dL_law_334 rfl (lv_at hl 1 rfl) ?_
  refine lv_iload hx hb dL_law_335 (lv_at hl 5 rfl) ?_
  refine lv_iconst (v := 1) hx hb dL_law_337 (by decide) ?_
  refine lv_iadd hx hb dL_law_338 ?_
  refine g_top (y := nI (ix + 1)) (nI_add _ _) ?_
  refine va_sld hx hb hXs hbl hbA hS (vp_in_nI (n := ix + 1) (by omega) (by omega)) dL_law_339 ?_
  refine g_top (y := xs (ix + 1)) (by rw [nI_clamp (by omega)]) ?_
  have hPm : va_P D vwCl (wM ([gO h0 lo uC.2.2.1 uC.2.2.2, gM m0 ar (nI n) rv tv, gR ar cI row, gQ ou cL uC.2.1] ++ va_pl uC.1.1 (gE uC.1.2)) 1 2 m0 ar cI (nI n) rv tv row) H := hP
  have hDm : va_D (fun q : Nat => s.heap.size ≤ q) (wM ([gO h0 lo uC.2.2.1 uC.2.2.2, gM m0 ar (nI n) rv tv, gR ar cI row, gQ ou cL uC.2.1] ++ va_pl uC.1.1 (gE uC.1.2)) 1 2 m0 ar cI (nI n) rv tv row) := hD
  refine g_calli (va_runV (As := [.int (xs (ix + 1))]) (rest := []) ⟨hx, hb, hml, hown, hts⟩ (m_pourBack l D [(cI, .int), (cL, .long)] (t := 0) rfl (w := [gO h0 lo uC.2.2.1 uC.2.2.2, gM m0 ar (nI n) rv tv, gR ar cI row, gQ ou cL uC.2.1] ++ va_pl uC.1.1 (gE uC.1.2)) (i := 1) (j := 2) (g_l4 (by omega)) (g_l4 (by omega)) (by decide) hev.2.1 hrow H.size (xs (ix + 1))) (cwV 1 hts gL_law_X2_pourBack rfl rfl rfl (by decide +kernel) ⟨Nat.le_of_ble_eq_true rfl, Nat.le_of_ble_eq_true rfl⟩) (gP_V (va_recv hK hPm (ci := 2) rfl (gM_i (g_l4 (by omega)) (by decide))) hPm hK hDm gBl_T (fun _ _ _ => trivial)) rfl rfl hl.1 rfl (lv_room (Nat.le_of_ble_eq_true rfl)) dL_law_340 ⟨by show kc + 3 + 0 ≤ 601024; omega, by show ns + 14 + 0 ≤ 7293034; omega⟩) hDm hS hA (fun bM uM H locs hm hP hD hS => ?_)
  have hP : va_P D vwCl ([gO h0 lo uC.2.2.1 uC.2.2.2, gM m0 ar (nI n) rv uM.1, gR ar cI uM.2, gQ ou cL uC.2.1] ++ va_pl uC.1.1 (gE uC.1.2)) H := hP
  have hD : va_D (fun q : Nat => s.heap.size ≤ q) ([gO h0 lo uC.2.2.1 uC.2.2.2, gM m0 ar (nI n) rv uM.1, gR ar cI uM.2, gQ ou cL uC.2.1] ++ va_pl uC.1.1 (gE uC.1.2)) := hD
  obtain ⟨hth, hval, P2, n2, hC2, hev2, hrow2, hs1, hs2, hs3⟩ := a_pourBack hev hrow hw hm
  rw [hs1, hs3] at hP hD
  have hP : va_P D vwCl ([gO h0 lo (nI n2) rv, gM m0 ar (nI n2) rv uM.1, gR ar cI uM.2, gQ ou cL uC.2.1] ++ va_pl uC.1.1 (gE uC.1.2)) H := by rw [← hs2]; rw [← hs2] at hP; exact hP
  have hD : va_D (fun q : Nat => s.heap.size ≤ q) ([gO h0 lo (nI n2) rv, gM m0 ar (nI n2) rv uM.1, gR ar cI uM.2, gQ ou cL uC.2.1] ++ va_pl uC.1.1 (gE uC.1.2)) := by rw [← hs2]; rw [← hs2] at hD; exact hD
  refine lv_istore (lv' := [(6, .int bM), (5, .int kC), (0, .ref b), (1, .ref h0), (2, .ref m0), (3, .ref ou), (4, .int (nI ix))]) hx hb dL_law_343 hl (by decide) rfl (fun ls hl => ?_)
  refine lv_aload_n hx hb dL_law_345 rfl (lv_at hl 4 rfl) ?_
  have hPm : va_P D vwCl (wM ([gO h0 lo (nI n2) rv, gM m0 ar (nI n2) rv uM.1, gR ar cI uM.2, gQ ou cL uC.2.1] ++ va_pl uC.1.1 (gE uC.1.2)) 1 2 m0 ar cI (nI n2) rv uM.1 uM.2) H := hP
  have hDm : va_D (fun q : Nat => s.heap.size ≤ q) (wM ([gO h0 lo (nI n2) rv, gM m0 ar (nI n2) rv uM.1, gR ar cI uM.2, gQ ou cL uC.2.1] ++ va_pl uC.1.1 (gE uC.1.2)) 1 2 m0 ar cI (nI n2) rv uM.1 uM.2) := hD
  refine g_calli (va_runV (As := []) (rest := []) ⟨hx, hb, hml, hown, hts⟩ (m_thrown l D [(cI, .int), (cL, .long)] (t := 0) rfl (w := [gO h0 lo (nI n2) rv, gM m0 ar (nI n2) rv uM.1, gR ar cI uM.2, gQ ou cL uC.2.1] ++ va_pl uC.1.1 (gE uC.1.2)) (i := 1) (j := 2) (g_l4 (by omega)) (g_l4 (by omega)) (by decide) hev2.2.1 hrow2 H.size) (cwV 0 hts gL_law_X2_thrown rfl rfl rfl (by decide +kernel) ⟨Nat.le_of_ble_eq_true rfl, Nat.le_of_ble_eq_true rfl⟩) (gP_V (va_recv hK hPm (ci := 2) rfl (gM_i (g_l4 (by omega)) (by decide))) hPm hK hDm gBl_T (fun _ _ _ => trivial)) rfl rfl hl.1 rfl (lv_room (Nat.le_of_ble_eq_true rfl)) dL_law_346 ⟨by show kc + 3 + 0 + 0 ≤ 601024; omega, by show ns + 14 + 0 + 0 ≤ 7293034; omega⟩) hDm hS hA (fun r9 u9 H locs hr9 hP hD hS => ?_)
  have hP : va_P D vwCl ([gO h0 lo (nI n2) rv, gM m0 ar (nI n2) rv uM.1, gR ar cI uM.2, gQ ou cL uC.2.1] ++ va_pl uC.1.1 (gE uC.1.2)) H := hP
  have hD : va_D (fun q : Nat => s.heap.size ≤ q) ([gO h0 lo (nI n2) rv, gM m0 ar (nI n2) rv uM.1, gR ar cI uM.2, gQ ou cL uC.2.1] ++ va_pl uC.1.1 (gE uC.1.2)) := hD
  refine lv_iload hx hb dL_law_349 (lv_at hl 1 rfl) ?_
  refine lv_icmp_eq (tgt := 356) hx hb dL_law_351 (by decide) (fun _ => ?_) (fun c9 => absurd (hr9.trans hth) c9)
  refine lv_iload hx hb dL_law_356 (lv_at hl 1 rfl) ?_
  refine lv_if_ne (tgt := 373) hx hb dL_law_358 (by decide) (fun c1 => ?_) (fun c1 => ?_)
  · skip
    refine lv_goto (tgt := 1021) hx hb dL_law_373 (by decide) ?_
    refine W.widen (k := kc + 6) (n := ns + 40) (by omega) (by omega) ?_
    exact hend P2 n2 rv uM.1 uC.1.1 uC.1.2 uC.2.1 uM.2 H locs ls hC2 hev2 hrow2 hP hD hS (lv_sub hl [2, 3, 4, 5, 6] rfl)
  · have hk0 : kC = 0 := by first | exact c1 | exact Classical.not_not.mp c1
    refine lv_aload_n hx hb dL_law_361 rfl (lv_at hl 5 rfl) ?_
    refine lv_iconst (v := 0) hx hb dL_law_362 (by decide) ?_
    refine va_lald hx hb hK hP 3 1 rfl rfl (vp_in_nI (n := 0) (N := 1) (by omega) (by omega)) dL_law_363 ?_
    refine lv_iload hx hb dL_law_364 (lv_at hl 0 rfl) ?_
    refine lv_i2l (v := bM.toInt64) hx hb dL_law_366 rfl ?_
    refine W.lcmp hx hb dL_law_367 ?_
    have hcmp : lg_cmp (uC.2.1 ((0 : Int32).toNatClampNeg)) bM.toInt64 = 0 := by rw [sb_cl0, hval hk0]; exact g_cmp0 _
    refine lv_if_eq (tgt := 373) hx hb dL_law_368 (by decide) (fun _ => ?_) (fun c9 => absurd hcmp c9)
    refine lv_goto (tgt := 1021) hx hb dL_law_373 (by decide) ?_
    refine W.widen (k := kc + 6) (n := ns + 40) (by omega) (by omega) ?_
    exact hend P2 n2 rv uM.1 uC.1.1 uC.1.2 uC.2.1 uM.2 H locs ls hC2 hev2 hrow2 hP hD hS (lv_sub hl [2, 3, 4, 5, 6] rfl)
set_option maxHeartbeats 4000000 in
set_option maxRecDepth 100000 in
theorem k_share {p : Program} {l : Launch} {e : Env} {s : State} {m : MethodId} {args : Array Value} {below : List Frame} {meth : Method} {c : Code} {Q : State → Prop} {D : va_G} {b Ls ix h0 m0 ar ou lo n kc ns : Nat} {xs : Nat → Int32} {cI cL : ClassId} {P : Nat → Int32} {rv tv : Int32} {L : List Nat} {S : gS} {f : Nat → Int64} {row : Nat → Int32} (hx : p.tables.exec = Jvm.exec) (hb : c.code = cL_law) (hml : c.maxLocals = 7) (hts : ∀ w ∈ wsL_law, w.before args s = true) (hown : s.vm.findClass RL = some m.cls) (hK : va_K D vwCl [(cI, .int), (cL, .long)] s) (hl9 : l.stackTraces = false) (hGL : gL (fun q : Nat => s.heap.size ≤ q) s) (hXs : va_X b Ls xs s s.heap) (hbl : b < s.heap.size) (hix : ix + 4 ≤ Ls) (hLs : Ls ≤ 2048) (hkc : kc + 6 ≤ 601024) (hns : ns + 40 ≤ 7293034) (hC : gCh P lo (L, S)) (hev : gEv P n) (hrow : gRow P n row) (H : Heap) (locs : List Loc) (ls : Array Slot) (hP : va_P D vwCl ([gO h0 lo (nI n) rv, gM m0 ar (nI n) rv tv, gR ar cI row, gQ ou cL f] ++ va_pl L (gE S)) H) (hD : va_D (fun q : Nat => s.heap.size ≤ q) ([gO h0 lo (nI n) rv, gM m0 ar (nI n) rv tv, gR ar cI row, gQ ou cL f] ++ va_pl L (gE S))) (hS : va_S (fun q : Nat => s.heap.size ≤ q) s.heap H locs) (hl : lv_has ls 7 [(0, .ref b), (1, .ref h0), (2, .ref m0), (3, .ref ou), (4, .int (nI ix))]) (hend : (∀ (P : Nat → Int32) (n : Nat) (rv tv : Int32) (L : List Nat) (S : gS) (f : Nat → Int64) (row : Nat → Int32) (H : Heap) (locs : List Loc) (ls : Array Slot), gCh P lo (L, S) → gEv P n → gRow P n row → va_P D vwCl ([gO h0 lo (nI n) rv, gM m0 ar (nI n) rv tv, gR ar cI row, gQ ou cL f] ++ va_pl L (gE S)) H → va_D (fun q : Nat => s.heap.size ≤ q) ([gO h0 lo (nI n) rv, gM m0 ar (nI n) rv tv, gR ar cI row, gQ ou cL f] ++ va_pl L (gE S)) → va_S (fun q : Nat => s.heap.size ≤ q) s.heap H locs → lv_has ls 7 [(0, .ref b), (1, .ref h0), (2, .ref m0), (3, .ref ou), (4, .int (nI ix))] → W p l e room_1 s m args below meth c H locs (kc + 6) (ns + 40) Q (F0 m 1021 ls []))) : W p l e room_1 s m args below meth c H locs kc ns Q (F0 m 376 ls []) := by
  have hA : ∀ q : Nat, s.heap.size ≤ q → (fun q : Nat => s.heap.size ≤ q) q := fun _ h => h
  have hbA : ¬ (fun q : Nat => s.heap.size ≤ q) b := Nat.not_le.mpr hbl
  refine lv_aload_n hx hb dL_law_376 rfl (lv_at hl 1 rfl) ?_
  refine lv_aload_n hx hb dL_law_377 rfl (lv_at hl 0 rfl) ?_
  refine lv_iload hx hb dL_law_378 (lv_at hl 4 rfl) ?_
  refine lv_iconst (v := 1) hx hb dL_law_380 (by decide) ?_
  refine lv_iadd hx hb dL_law_381 ?_
  refine g_top (y := nI (ix + 1)) (nI_add _ _) ?_
  refine va_sld hx hb hXs hbl hbA hS (vp_in_nI (n := ix + 1) (by omega) (by omega)) dL_law_382 ?_
  refine g_top (y := xs (ix + 1)) (by rw [nI_clamp (by omega)]) ?_
  refine lv_aload_n hx hb dL_law_383 rfl (lv_at hl 0 rfl) ?_
  refine lv_iload hx hb dL_law_384 (lv_at hl 4 rfl) ?_
  refine lv_iconst (v := 2) hx hb dL_law_386 (by decide) ?_
  refine lv_iadd hx hb dL_law_387 ?_
  refine g_top (y := nI (ix + 2)) (nI_add _ _) ?_
  refine va_sld hx hb hXs hbl hbA hS (vp_in_nI (n := ix + 2) (by omega) (by omega)) dL_law_388 ?_
  refine g_top (y := xs (ix + 2)) (by rw [nI_clamp (by omega)]) ?_
  refine lv_aload_n hx hb dL_law_389 rfl (lv_at hl 0 rfl) ?_
  refine lv_iload hx hb dL_law_390 (lv_at hl 4 rfl) ?_
  refine lv_iconst (v := 3) hx hb dL_law_392 (by decide) ?_
  refine lv_iadd hx hb dL_law_393 ?_
  refine g_top (y := nI (ix + 3)) (nI_add _ _) ?_
  refine va_sld hx hb hXs hbl hbA hS (vp_in_nI (n := ix + 3) (by omega) (by omega)) dL_law_394 ?_
  refine g_top (y := xs (ix + 3)) (by rw [nI_clamp (by omega)]) ?_
  refine lv_aload_n hx hb dL_law_395 rfl (lv_at hl 3 rfl) ?_
  refine g_calli (vx_runSW (As := [.ref h0, .int (xs (ix + 1)), .int (xs (ix + 2)), .int (xs (ix + 3)), .ref ou]) (rest := []) ⟨hx, hb, hml, hown, hts⟩ (w_share l hl9 D [(cI, .int), (cL, .long)] [gO h0 lo (nI n) rv, gM m0 ar (nI n) rv tv, gR ar cI row, gQ ou cL f] L S H.size (i := 0) (io := 3) (tl := 1) rfl rfl (by decide) rfl hC (xs (ix + 1)) (xs (ix + 2)) (xs (ix + 3))) (vx_cwSW 5 hts gL_law_L_share rfl rfl rfl (by decide +kernel) ⟨Nat.le_of_ble_eq_true rfl, Nat.le_of_ble_eq_true rfl⟩) (gP_S hP hK hD gBl_L (fun U hU hW => hGL.call hS (gA_sub hD hS hA) U hU hW)) rfl rfl hl.1 rfl (lv_room (Nat.le_of_ble_eq_true rfl)) dL_law_396 ⟨by show kc + 5 ≤ 601024; omega, by show ns + 26 ≤ 7293034; omega⟩) hD hS hA (fun kC uC H locs hw hP hD hS => ?_)
  have hP : va_P D vwCl ([gO h0 lo uC.2.2.1 uC.2.2.2, gM m0 ar (nI n) rv tv, gR ar cI row, gQ ou cL uC.2.1] ++ va_pl uC.1.1 (gE uC.1.2)) H := hP
  have hD : va_D (fun q : Nat => s.heap.size ≤ q) ([gO h0 lo uC.2.2.1 uC.2.2.2, gM m0 ar (nI n) rv tv, gR ar cI row, gQ ou cL uC.2.1] ++ va_pl uC.1.1 (gE uC.1.2)) := hD
  refine lv_istore (lv' := [(5, .int kC), (0, .ref b), (1, .ref h0), (2, .ref m0), (3, .ref ou), (4, .int (nI ix))]) hx hb dL_law_399 hl (by decide) rfl (fun ls hl => ?_)
  refine lv_aload_n hx hb dL_law_401 rfl (lv_at hl 3 rfl) ?_
  refine lv_aload_n hx hb dL_law_402 rfl (lv_at hl 1 rfl) ?_
  refine lv_iload hx hb dL_law_403 (lv_at hl 5 rfl) ?_
  refine lv_iconst (v := 1) hx hb dL_law_405 (by decide) ?_
  refine lv_iadd hx hb dL_law_406 ?_
  refine g_top (y := nI (ix + 1)) (nI_add _ _) ?_
  refine va_sld hx hb hXs hbl hbA hS (vp_in_nI (n := ix + 1) (by omega) (by omega)) dL_law_407 ?_
  refine g_top (y := xs (ix + 1)) (by rw [nI_clamp (by omega)]) ?_
  refine lv_aload_n hx hb dL_law_408 rfl (lv_at hl 1 rfl) ?_
  refine lv_iload hx hb dL_law_409 (lv_at hl 5 rfl) ?_
  refine lv_iconst (v := 2) hx hb dL_law_411 (by decide) ?_
  refine lv_iadd hx hb dL_law_412 ?_
  refine g_top (y := nI (ix + 2)) (nI_add _ _) ?_
  refine va_sld hx hb hXs hbl hbA hS (vp_in_nI (n := ix + 2) (by omega) (by omega)) dL_law_413 ?_
  refine g_top (y := xs (ix + 2)) (by rw [nI_clamp (by omega)]) ?_
  refine lv_aload_n hx hb dL_law_414 rfl (lv_at hl 1 rfl) ?_
  refine lv_iload hx hb dL_law_415 (lv_at hl 5 rfl) ?_
  refine lv_iconst (v := 3) hx hb dL_law_417 (by decide) ?_
  refine lv_iadd hx hb dL_law_418 ?_
  refine g_top (y := nI (ix + 3)) (nI_add _ _) ?_
  refine va_sld hx hb hXs hbl hbA hS (vp_in_nI (n := ix + 3) (by omega) (by omega)) dL_law_419 ?_
  refine g_top (y := xs (ix + 3)) (by rw [nI_clamp (by omega)]) ?_
  have hPm : va_P D vwCl (wM ([gO h0 lo uC.2.2.1 uC.2.2.2, gM m0 ar (nI n) rv tv, gR ar cI row, gQ ou cL uC.2.1] ++ va_pl uC.1.1 (gE uC.1.2)) 1 2 m0 ar cI (nI n) rv tv row) H := hP
  have hDm : va_D (fun q : Nat => s.heap.size ≤ q) (wM ([gO h0 lo uC.2.2.1 uC.2.2.2, gM m0 ar (nI n) rv tv, gR ar cI row, gQ ou cL uC.2.1] ++ va_pl uC.1.1 (gE uC.1.2)) 1 2 m0 ar cI (nI n) rv tv row) := hD
  refine g_calli (va_runV (As := [.int (xs (ix + 1)), .int (xs (ix + 2)), .int (xs (ix + 3))]) (rest := []) ⟨hx, hb, hml, hown, hts⟩ (m_share l D [(cI, .int), (cL, .long)] (t := 0) rfl (w := [gO h0 lo uC.2.2.1 uC.2.2.2, gM m0 ar (nI n) rv tv, gR ar cI row, gQ ou cL uC.2.1] ++ va_pl uC.1.1 (gE uC.1.2)) (i := 1) (j := 2) (g_l4 (by omega)) (g_l4 (by omega)) (by decide) hev.2.1 hrow H.size (by have := hev.1; omega) (xs (ix + 1)) (xs (ix + 2)) (xs (ix + 3))) (cwV 3 hts gL_law_X2_share rfl rfl rfl (by decide +kernel) ⟨Nat.le_of_ble_eq_true rfl, Nat.le_of_ble_eq_true rfl⟩) (gP_V (va_recv hK hPm (ci := 2) rfl (gM_i (g_l4 (by omega)) (by decide))) hPm hK hDm gBl_T (fun _ _ _ => trivial)) rfl rfl hl.1 rfl (lv_room (Nat.le_of_ble_eq_true rfl)) dL_law_420 ⟨by show kc + 5 + 0 ≤ 601024; omega, by show ns + 26 + 0 ≤ 7293034; omega⟩) hDm hS hA (fun bM uM H locs hm hP hD hS => ?_)
  have hP : va_P D vwCl ([gO h0 lo uC.2.2.1 uC.2.2.2, gM m0 ar (nI n) rv uM.1, gR ar cI uM.2, gQ ou cL uC.2.1] ++ va_pl uC.1.1 (gE uC.1.2)) H := hP
  have hD : va_D (fun q : Nat => s.heap.size ≤ q) ([gO h0 lo uC.2.2.1 uC.2.2.2, gM m0 ar (nI n) rv uM.1, gR ar cI uM.2, gQ ou cL uC.2.1] ++ va_pl uC.1.1 (gE uC.1.2)) := hD
  obtain ⟨hth, hval, P2, n2, hC2, hev2, hrow2, hs1, hs2, hs3⟩ := a_share hev hrow hw hm
  rw [hs1, hs3] at hP hD
  have hP : va_P D vwCl ([gO h0 lo (nI n2) rv, gM m0 ar (nI n2) rv uM.1, gR ar cI uM.2, gQ ou cL uC.2.1] ++ va_pl uC.1.1 (gE uC.1.2)) H := by rw [← hs2]; rw [← hs2] at hP; exact hP
  have hD : va_D (fun q : Nat => s.heap.size ≤ q) ([gO h0 lo (nI n2) rv, gM m0 ar (nI n2) rv uM.1, gR ar cI uM.2, gQ ou cL uC.2.1] ++ va_pl uC.1.1 (gE uC.1.2)) := by rw [← hs2]; rw [← hs2] at hD; exact hD
  refine lv_istore (lv' := [(6, .int bM), (5, .int kC), (0, .ref b), (1, .ref h0), (2, .ref m0), (3, .ref ou), (4, .int (nI ix))]) hx hb dL_law_423 hl (by decide) rfl (fun ls hl => ?_)
  refine lv_aload_n hx hb dL_law_425 rfl (lv_at hl 4 rfl) ?_
  have hPm : va_P D vwCl (wM ([gO h0 lo (nI n2) rv, gM m0 ar (nI n2) rv uM.1, gR ar cI uM.2, gQ ou cL uC.2.1] ++ va_pl uC.1.1 (gE uC.1.2)) 1 2 m0 ar cI (nI n2) rv uM.1 uM.2) H := hP
  have hDm : va_D (fun q : Nat => s.heap.size ≤ q) (wM ([gO h0 lo (nI n2) rv, gM m0 ar (nI n2) rv uM.1, gR ar cI uM.2, gQ ou cL uC.2.1] ++ va_pl uC.1.1 (gE uC.1.2)) 1 2 m0 ar cI (nI n2) rv uM.1 uM.2) := hD
  refine g_calli (va_runV (As := []) (rest := []) ⟨hx, hb, hml, hown, hts⟩ (m_thrown l D [(cI, .int), (cL, .long)] (t := 0) rfl (w := [gO h0 lo (nI n2) rv, gM m0 ar (nI n2) rv uM.1, gR ar cI uM.2, gQ ou cL uC.2.1] ++ va_pl uC.1.1 (gE uC.1.2)) (i := 1) (j := 2) (g_l4 (by omega)) (g_l4 (by omega)) (by decide) hev2.2.1 hrow2 H.size) (cwV 0 hts gL_law_X2_thrown rfl rfl rfl (by decide +kernel) ⟨Nat.le_of_ble_eq_true rfl, Nat.le_of_ble_eq_true rfl⟩) (gP_V (va_recv hK hPm (ci := 2) rfl (gM_i (g_l4 (by omega)) (by decide))) hPm hK hDm gBl_T (fun _ _ _ => trivial)) rfl rfl hl.1 rfl (lv_room (Nat.le_of_ble_eq_true rfl)) dL_law_426 ⟨by show kc + 5 + 0 + 0 ≤ 601024; omega, by show ns + 26 + 0 + 0 ≤ 7293034; omega⟩) hDm hS hA (fun r9 u9 H locs hr9 hP hD hS => ?_)
  have hP : va_P D vwCl ([gO h0 lo (nI n2) rv, gM m0 ar (nI n2) rv uM.1, gR ar cI uM.2, gQ ou cL uC.2.1] ++ va_pl uC.1.1 (gE uC.1.2)) H := hP
  have hD : va_D (fun q : Nat => s.heap.size ≤ q) ([gO h0 lo (nI n2) rv, gM m0 ar (nI n2) rv uM.1, gR ar cI uM.2, gQ ou cL uC.2.1] ++ va_pl uC.1.1 (gE uC.1.2)) := hD
  refine lv_iload hx hb dL_law_429 (lv_at hl 1 rfl) ?_
  refine lv_icmp_eq (tgt := 436) hx hb dL_law_431 (by decide) (fun _ => ?_) (fun c9 => absurd (hr9.trans hth) c9)
  refine lv_iload hx hb dL_law_436 (lv_at hl 1 rfl) ?_
  refine lv_if_ne (tgt := 453) hx hb dL_law_438 (by decide) (fun c1 => ?_) (fun c1 => ?_)
  · skip
    refine lv_goto (tgt := 1021) hx hb dL_law_453 (by decide) ?_
    refine W.widen (k := kc + 6) (n := ns + 40) (by omega) (by omega) ?_
    exact hend P2 n2 rv uM.1 uC.1.1 uC.1.2 uC.2.1 uM.2 H locs ls hC2 hev2 hrow2 hP hD hS (lv_sub hl [2, 3, 4, 5, 6] rfl)
  · have hk0 : kC = 0 := by first | exact c1 | exact Classical.not_not.mp c1
    refine lv_aload_n hx hb dL_law_441 rfl (lv_at hl 5 rfl) ?_
    refine lv_iconst (v := 0) hx hb dL_law_442 (by decide) ?_
    refine va_lald hx hb hK hP 3 1 rfl rfl (vp_in_nI (n := 0) (N := 1) (by omega) (by omega)) dL_law_443 ?_
    refine lv_iload hx hb dL_law_444 (lv_at hl 0 rfl) ?_
    refine lv_i2l (v := bM.toInt64) hx hb dL_law_446 rfl ?_
    refine W.lcmp hx hb dL_law_447 ?_
    have hcmp : lg_cmp (uC.2.1 ((0 : Int32).toNatClampNeg)) bM.toInt64 = 0 := by rw [sb_cl0, hval hk0]; exact g_cmp0 _
    refine lv_if_eq (tgt := 453) hx hb dL_law_448 (by decide) (fun _ => ?_) (fun c9 => absurd hcmp c9)
    refine lv_goto (tgt := 1021) hx hb dL_law_453 (by decide) ?_
    refine W.widen (k := kc + 6) (n := ns + 40) (by omega) (by omega) ?_
    exact hend P2 n2 rv uM.1 uC.1.1 uC.1.2 uC.2.1 uM.2 H locs ls hC2 hev2 hrow2 hP hD hS (lv_sub hl [2, 3, 4, 5, 6] rfl)
set_option maxHeartbeats 4000000 in
set_option maxRecDepth 100000 in
theorem k_giveBack {p : Program} {l : Launch} {e : Env} {s : State} {m : MethodId} {args : Array Value} {below : List Frame} {meth : Method} {c : Code} {Q : State → Prop} {D : va_G} {b Ls ix h0 m0 ar ou lo n kc ns : Nat} {xs : Nat → Int32} {cI cL : ClassId} {P : Nat → Int32} {rv tv : Int32} {L : List Nat} {S : gS} {f : Nat → Int64} {row : Nat → Int32} (hx : p.tables.exec = Jvm.exec) (hb : c.code = cL_law) (hml : c.maxLocals = 7) (hts : ∀ w ∈ wsL_law, w.before args s = true) (hown : s.vm.findClass RL = some m.cls) (hK : va_K D vwCl [(cI, .int), (cL, .long)] s) (hl9 : l.stackTraces = false) (hGL : gL (fun q : Nat => s.heap.size ≤ q) s) (hXs : va_X b Ls xs s s.heap) (hbl : b < s.heap.size) (hix : ix + 4 ≤ Ls) (hLs : Ls ≤ 2048) (hkc : kc + 6 ≤ 601024) (hns : ns + 40 ≤ 7293034) (hC : gCh P lo (L, S)) (hev : gEv P n) (hrow : gRow P n row) (H : Heap) (locs : List Loc) (ls : Array Slot) (hP : va_P D vwCl ([gO h0 lo (nI n) rv, gM m0 ar (nI n) rv tv, gR ar cI row, gQ ou cL f] ++ va_pl L (gE S)) H) (hD : va_D (fun q : Nat => s.heap.size ≤ q) ([gO h0 lo (nI n) rv, gM m0 ar (nI n) rv tv, gR ar cI row, gQ ou cL f] ++ va_pl L (gE S))) (hS : va_S (fun q : Nat => s.heap.size ≤ q) s.heap H locs) (hl : lv_has ls 7 [(0, .ref b), (1, .ref h0), (2, .ref m0), (3, .ref ou), (4, .int (nI ix))]) (hend : (∀ (P : Nat → Int32) (n : Nat) (rv tv : Int32) (L : List Nat) (S : gS) (f : Nat → Int64) (row : Nat → Int32) (H : Heap) (locs : List Loc) (ls : Array Slot), gCh P lo (L, S) → gEv P n → gRow P n row → va_P D vwCl ([gO h0 lo (nI n) rv, gM m0 ar (nI n) rv tv, gR ar cI row, gQ ou cL f] ++ va_pl L (gE S)) H → va_D (fun q : Nat => s.heap.size ≤ q) ([gO h0 lo (nI n) rv, gM m0 ar (nI n) rv tv, gR ar cI row, gQ ou cL f] ++ va_pl L (gE S)) → va_S (fun q : Nat => s.heap.size ≤ q) s.heap H locs → lv_has ls 7 [(0, .ref b), (1, .ref h0), (2, .ref m0), (3, .ref ou), (4, .int (nI ix))] → W p l e room_1 s m args below meth c H locs (kc + 6) (ns + 40) Q (F0 m 1021 ls []))) : W p l e room_1 s m args below meth c H locs kc ns Q (F0 m 456 ls []) := by
  have hA : ∀ q : Nat, s.heap.size ≤ q → (fun q : Nat => s.heap.size ≤ q) q := fun _ h => h
  have hbA : ¬ (fun q : Nat => s.heap.size ≤ q) b := Nat.not_le.mpr hbl
  refine lv_aload_n hx hb dL_law_456 rfl (lv_at hl 1 rfl) ?_
  refine lv_aload_n hx hb dL_law_457 rfl (lv_at hl 0 rfl) ?_
  refine lv_iload hx hb dL_law_458 (lv_at hl 4 rfl) ?_
  refine lv_iconst (v := 1) hx hb dL_law_460 (by decide) ?_
  refine lv_iadd hx hb dL_law_461 ?_
  refine g_top (y := nI (ix + 1)) (nI_add _ _) ?_
  refine va_sld hx hb hXs hbl hbA hS (vp_in_nI (n := ix + 1) (by omega) (by omega)) dL_law_462 ?_
  refine g_top (y := xs (ix + 1)) (by rw [nI_clamp (by omega)]) ?_
  refine lv_aload_n hx hb dL_law_463 rfl (lv_at hl 3 rfl) ?_
  refine g_calli (vx_runSW (As := [.ref h0, .int (xs (ix + 1)), .ref ou]) (rest := []) ⟨hx, hb, hml, hown, hts⟩ (w_giveBack l hl9 D [(cI, .int), (cL, .long)] [gO h0 lo (nI n) rv, gM m0 ar (nI n) rv tv, gR ar cI row, gQ ou cL f] L S H.size (i := 0) (io := 3) (tl := 1) rfl rfl (by decide) rfl hC (xs (ix + 1)) (gEv_out hev)) (vx_cwSW 3 hts gL_law_L_giveBack rfl rfl rfl (by decide +kernel) ⟨Nat.le_of_ble_eq_true rfl, Nat.le_of_ble_eq_true rfl⟩) (gP_S hP hK hD gBl_L (fun U hU hW => hGL.call hS (gA_sub hD hS hA) U hU hW)) rfl rfl hl.1 rfl (lv_room (Nat.le_of_ble_eq_true rfl)) dL_law_464 ⟨by show kc + 3 ≤ 601024; omega, by show ns + 14 ≤ 7293034; omega⟩) hD hS hA (fun kC uC H locs hw hP hD hS => ?_)
  have hP : va_P D vwCl ([gO h0 lo uC.2.2.1 uC.2.2.2, gM m0 ar (nI n) rv tv, gR ar cI row, gQ ou cL uC.2.1] ++ va_pl uC.1.1 (gE uC.1.2)) H := hP
  have hD : va_D (fun q : Nat => s.heap.size ≤ q) ([gO h0 lo uC.2.2.1 uC.2.2.2, gM m0 ar (nI n) rv tv, gR ar cI row, gQ ou cL uC.2.1] ++ va_pl uC.1.1 (gE uC.1.2)) := hD
  refine lv_istore (lv' := [(5, .int kC), (0, .ref b), (1, .ref h0), (2, .ref m0), (3, .ref ou), (4, .int (nI ix))]) hx hb dL_law_467 hl (by decide) rfl (fun ls hl => ?_)
  refine lv_aload_n hx hb dL_law_469 rfl (lv_at hl 3 rfl) ?_
  refine lv_aload_n hx hb dL_law_470 rfl (lv_at hl 1 rfl) ?_
  refine lv_iload hx hb dL_law_471 (lv_at hl 5 rfl) ?_
  refine lv_iconst (v := 1) hx hb dL_law_473 (by decide) ?_
  refine lv_iadd hx hb dL_law_474 ?_
  refine g_top (y := nI (ix + 1)) (nI_add _ _) ?_
  refine va_sld hx hb hXs hbl hbA hS (vp_in_nI (n := ix + 1) (by omega) (by omega)) dL_law_475 ?_
  refine g_top (y := xs (ix + 1)) (by rw [nI_clamp (by omega)]) ?_
  have hPm : va_P D vwCl (wM ([gO h0 lo uC.2.2.1 uC.2.2.2, gM m0 ar (nI n) rv tv, gR ar cI row, gQ ou cL uC.2.1] ++ va_pl uC.1.1 (gE uC.1.2)) 1 2 m0 ar cI (nI n) rv tv row) H := hP
  have hDm : va_D (fun q : Nat => s.heap.size ≤ q) (wM ([gO h0 lo uC.2.2.1 uC.2.2.2, gM m0 ar (nI n) rv tv, gR ar cI row, gQ ou cL uC.2.1] ++ va_pl uC.1.1 (gE uC.1.2)) 1 2 m0 ar cI (nI n) rv tv row) := hD
  refine g_calli (va_runV (As := [.int (xs (ix + 1))]) (rest := []) ⟨hx, hb, hml, hown, hts⟩ (m_giveBack l D [(cI, .int), (cL, .long)] (t := 0) rfl (w := [gO h0 lo uC.2.2.1 uC.2.2.2, gM m0 ar (nI n) rv tv, gR ar cI row, gQ ou cL uC.2.1] ++ va_pl uC.1.1 (gE uC.1.2)) (i := 1) (j := 2) (g_l4 (by omega)) (g_l4 (by omega)) (by decide) hev.2.1 hrow H.size (xs (ix + 1))) (cwV 1 hts gL_law_X2_giveBack rfl rfl rfl (by decide +kernel) ⟨Nat.le_of_ble_eq_true rfl, Nat.le_of_ble_eq_true rfl⟩) (gP_V (va_recv hK hPm (ci := 2) rfl (gM_i (g_l4 (by omega)) (by decide))) hPm hK hDm gBl_T (fun _ _ _ => trivial)) rfl rfl hl.1 rfl (lv_room (Nat.le_of_ble_eq_true rfl)) dL_law_476 ⟨by show kc + 3 + 0 ≤ 601024; omega, by show ns + 14 + 0 ≤ 7293034; omega⟩) hDm hS hA (fun bM uM H locs hm hP hD hS => ?_)
  have hP : va_P D vwCl ([gO h0 lo uC.2.2.1 uC.2.2.2, gM m0 ar (nI n) rv uM.1, gR ar cI uM.2, gQ ou cL uC.2.1] ++ va_pl uC.1.1 (gE uC.1.2)) H := hP
  have hD : va_D (fun q : Nat => s.heap.size ≤ q) ([gO h0 lo uC.2.2.1 uC.2.2.2, gM m0 ar (nI n) rv uM.1, gR ar cI uM.2, gQ ou cL uC.2.1] ++ va_pl uC.1.1 (gE uC.1.2)) := hD
  obtain ⟨hth, hval, P2, n2, hC2, hev2, hrow2, hs1, hs2, hs3⟩ := a_giveBack hev hrow hw hm
  rw [hs1, hs3] at hP hD
  have hP : va_P D vwCl ([gO h0 lo (nI n2) rv, gM m0 ar (nI n2) rv uM.1, gR ar cI uM.2, gQ ou cL uC.2.1] ++ va_pl uC.1.1 (gE uC.1.2)) H := by rw [← hs2]; rw [← hs2] at hP; exact hP
  have hD : va_D (fun q : Nat => s.heap.size ≤ q) ([gO h0 lo (nI n2) rv, gM m0 ar (nI n2) rv uM.1, gR ar cI uM.2, gQ ou cL uC.2.1] ++ va_pl uC.1.1 (gE uC.1.2)) := by rw [← hs2]; rw [← hs2] at hD; exact hD
  refine lv_istore (lv' := [(6, .int bM), (5, .int kC), (0, .ref b), (1, .ref h0), (2, .ref m0), (3, .ref ou), (4, .int (nI ix))]) hx hb dL_law_479 hl (by decide) rfl (fun ls hl => ?_)
  refine lv_aload_n hx hb dL_law_481 rfl (lv_at hl 4 rfl) ?_
  have hPm : va_P D vwCl (wM ([gO h0 lo (nI n2) rv, gM m0 ar (nI n2) rv uM.1, gR ar cI uM.2, gQ ou cL uC.2.1] ++ va_pl uC.1.1 (gE uC.1.2)) 1 2 m0 ar cI (nI n2) rv uM.1 uM.2) H := hP
  have hDm : va_D (fun q : Nat => s.heap.size ≤ q) (wM ([gO h0 lo (nI n2) rv, gM m0 ar (nI n2) rv uM.1, gR ar cI uM.2, gQ ou cL uC.2.1] ++ va_pl uC.1.1 (gE uC.1.2)) 1 2 m0 ar cI (nI n2) rv uM.1 uM.2) := hD
  refine g_calli (va_runV (As := []) (rest := []) ⟨hx, hb, hml, hown, hts⟩ (m_thrown l D [(cI, .int), (cL, .long)] (t := 0) rfl (w := [gO h0 lo (nI n2) rv, gM m0 ar (nI n2) rv uM.1, gR ar cI uM.2, gQ ou cL uC.2.1] ++ va_pl uC.1.1 (gE uC.1.2)) (i := 1) (j := 2) (g_l4 (by omega)) (g_l4 (by omega)) (by decide) hev2.2.1 hrow2 H.size) (cwV 0 hts gL_law_X2_thrown rfl rfl rfl (by decide +kernel) ⟨Nat.le_of_ble_eq_true rfl, Nat.le_of_ble_eq_true rfl⟩) (gP_V (va_recv hK hPm (ci := 2) rfl (gM_i (g_l4 (by omega)) (by decide))) hPm hK hDm gBl_T (fun _ _ _ => trivial)) rfl rfl hl.1 rfl (lv_room (Nat.le_of_ble_eq_true rfl)) dL_law_482 ⟨by show kc + 3 + 0 + 0 ≤ 601024; omega, by show ns + 14 + 0 + 0 ≤ 7293034; omega⟩) hDm hS hA (fun r9 u9 H locs hr9 hP hD hS => ?_)
  have hP : va_P D vwCl ([gO h0 lo (nI n2) rv, gM m0 ar (nI n2) rv uM.1, gR ar cI uM.2, gQ ou cL uC.2.1] ++ va_pl uC.1.1 (gE uC.1.2)) H := hP
  have hD : va_D (fun q : Nat => s.heap.size ≤ q) ([gO h0 lo (nI n2) rv, gM m0 ar (nI n2) rv uM.1, gR ar cI uM.2, gQ ou cL uC.2.1] ++ va_pl uC.1.1 (gE uC.1.2)) := hD
  refine lv_iload hx hb dL_law_485 (lv_at hl 1 rfl) ?_
  refine lv_icmp_eq (tgt := 492) hx hb dL_law_487 (by decide) (fun _ => ?_) (fun c9 => absurd (hr9.trans hth) c9)
  refine lv_iload hx hb dL_law_492 (lv_at hl 1 rfl) ?_
  refine lv_if_ne (tgt := 509) hx hb dL_law_494 (by decide) (fun c1 => ?_) (fun c1 => ?_)
  · skip
    refine lv_goto (tgt := 1021) hx hb dL_law_509 (by decide) ?_
    refine W.widen (k := kc + 6) (n := ns + 40) (by omega) (by omega) ?_
    exact hend P2 n2 rv uM.1 uC.1.1 uC.1.2 uC.2.1 uM.2 H locs ls hC2 hev2 hrow2 hP hD hS (lv_sub hl [2, 3, 4, 5, 6] rfl)
  · have hk0 : kC = 0 := by first | exact c1 | exact Classical.not_not.mp c1
    refine lv_aload_n hx hb dL_law_497 rfl (lv_at hl 5 rfl) ?_
    refine lv_iconst (v := 0) hx hb dL_law_498 (by decide) ?_
    refine va_lald hx hb hK hP 3 1 rfl rfl (vp_in_nI (n := 0) (N := 1) (by omega) (by omega)) dL_law_499 ?_
    refine lv_iload hx hb dL_law_500 (lv_at hl 0 rfl) ?_
    refine lv_i2l (v := bM.toInt64) hx hb dL_law_502 rfl ?_
    refine W.lcmp hx hb dL_law_503 ?_
    have hcmp : lg_cmp (uC.2.1 ((0 : Int32).toNatClampNeg)) bM.toInt64 = 0 := by rw [sb_cl0, hval hk0]; exact g_cmp0 _
    refine lv_if_eq (tgt := 509) hx hb dL_law_504 (by decide) (fun _ => ?_) (fun c9 => absurd hcmp c9)
    refine lv_goto (tgt := 1021) hx hb dL_law_509 (by decide) ?_
    refine W.widen (k := kc + 6) (n := ns + 40) (by omega) (by omega) ?_
    exact hend P2 n2 rv uM.1 uC.1.1 uC.1.2 uC.2.1 uM.2 H locs ls hC2 hev2 hrow2 hP hD hS (lv_sub hl [2, 3, 4, 5, 6] rfl)
set_option maxHeartbeats 4000000 in
set_option maxRecDepth 100000 in
theorem k_spill {p : Program} {l : Launch} {e : Env} {s : State} {m : MethodId} {args : Array Value} {below : List Frame} {meth : Method} {c : Code} {Q : State → Prop} {D : va_G} {b Ls ix h0 m0 ar ou lo n kc ns : Nat} {xs : Nat → Int32} {cI cL : ClassId} {P : Nat → Int32} {rv tv : Int32} {L : List Nat} {S : gS} {f : Nat → Int64} {row : Nat → Int32} (hx : p.tables.exec = Jvm.exec) (hb : c.code = cL_law) (hml : c.maxLocals = 7) (hts : ∀ w ∈ wsL_law, w.before args s = true) (hown : s.vm.findClass RL = some m.cls) (hK : va_K D vwCl [(cI, .int), (cL, .long)] s) (hl9 : l.stackTraces = false) (hGL : gL (fun q : Nat => s.heap.size ≤ q) s) (hXs : va_X b Ls xs s s.heap) (hbl : b < s.heap.size) (hix : ix + 4 ≤ Ls) (hLs : Ls ≤ 2048) (hkc : kc + 6 ≤ 601024) (hns : ns + 40 ≤ 7293034) (hC : gCh P lo (L, S)) (hev : gEv P n) (hrow : gRow P n row) (H : Heap) (locs : List Loc) (ls : Array Slot) (hP : va_P D vwCl ([gO h0 lo (nI n) rv, gM m0 ar (nI n) rv tv, gR ar cI row, gQ ou cL f] ++ va_pl L (gE S)) H) (hD : va_D (fun q : Nat => s.heap.size ≤ q) ([gO h0 lo (nI n) rv, gM m0 ar (nI n) rv tv, gR ar cI row, gQ ou cL f] ++ va_pl L (gE S))) (hS : va_S (fun q : Nat => s.heap.size ≤ q) s.heap H locs) (hl : lv_has ls 7 [(0, .ref b), (1, .ref h0), (2, .ref m0), (3, .ref ou), (4, .int (nI ix))]) (hend : (∀ (P : Nat → Int32) (n : Nat) (rv tv : Int32) (L : List Nat) (S : gS) (f : Nat → Int64) (row : Nat → Int32) (H : Heap) (locs : List Loc) (ls : Array Slot), gCh P lo (L, S) → gEv P n → gRow P n row → va_P D vwCl ([gO h0 lo (nI n) rv, gM m0 ar (nI n) rv tv, gR ar cI row, gQ ou cL f] ++ va_pl L (gE S)) H → va_D (fun q : Nat => s.heap.size ≤ q) ([gO h0 lo (nI n) rv, gM m0 ar (nI n) rv tv, gR ar cI row, gQ ou cL f] ++ va_pl L (gE S)) → va_S (fun q : Nat => s.heap.size ≤ q) s.heap H locs → lv_has ls 7 [(0, .ref b), (1, .ref h0), (2, .ref m0), (3, .ref ou), (4, .int (nI ix))] → W p l e room_1 s m args below meth c H locs (kc + 6) (ns + 40) Q (F0 m 1021 ls []))) : W p l e room_1 s m args below meth c H locs kc ns Q (F0 m 512 ls []) := by
  have hA : ∀ q : Nat, s.heap.size ≤ q → (fun q : Nat => s.heap.size ≤ q) q := fun _ h => h
  have hbA : ¬ (fun q : Nat => s.heap.size ≤ q) b := Nat.not_le.mpr hbl
  refine lv_aload_n hx hb dL_law_512 rfl (lv_at hl 1 rfl) ?_
  refine lv_aload_n hx hb dL_law_513 rfl (lv_at hl 0 rfl) ?_
  refine lv_iload hx hb dL_law_514 (lv_at hl 4 rfl) ?_
  refine lv_iconst (v := 1) hx hb dL_law_516 (by decide) ?_
  refine lv_iadd hx hb dL_law_517 ?_
  refine g_top (y := nI (ix + 1)) (nI_add _ _) ?_
  refine va_sld hx hb hXs hbl hbA hS (vp_in_nI (n := ix + 1) (by omega) (by omega)) dL_law_518 ?_
  refine g_top (y := xs (ix + 1)) (by rw [nI_clamp (by omega)]) ?_
  refine lv_aload_n hx hb dL_law_519 rfl (lv_at hl 3 rfl) ?_
  refine g_calli (vx_runSW (As := [.ref h0, .int (xs (ix + 1)), .ref ou]) (rest := []) ⟨hx, hb, hml, hown, hts⟩ (w_spill l hl9 D [(cI, .int), (cL, .long)] [gO h0 lo (nI n) rv, gM m0 ar (nI n) rv tv, gR ar cI row, gQ ou cL f] L S H.size (i := 0) (io := 3) (tl := 1) rfl rfl (by decide) rfl hC (xs (ix + 1))) (vx_cwSW 3 hts gL_law_L_spill rfl rfl rfl (by decide +kernel) ⟨Nat.le_of_ble_eq_true rfl, Nat.le_of_ble_eq_true rfl⟩) (gP_S hP hK hD gBl_L (fun U hU hW => hGL.call hS (gA_sub hD hS hA) U hU hW)) rfl rfl hl.1 rfl (lv_room (Nat.le_of_ble_eq_true rfl)) dL_law_520 ⟨by show kc + 3 ≤ 601024; omega, by show ns + 14 ≤ 7293034; omega⟩) hD hS hA (fun kC uC H locs hw hP hD hS => ?_)
  have hP : va_P D vwCl ([gO h0 lo uC.2.2.1 uC.2.2.2, gM m0 ar (nI n) rv tv, gR ar cI row, gQ ou cL uC.2.1] ++ va_pl uC.1.1 (gE uC.1.2)) H := hP
  have hD : va_D (fun q : Nat => s.heap.size ≤ q) ([gO h0 lo uC.2.2.1 uC.2.2.2, gM m0 ar (nI n) rv tv, gR ar cI row, gQ ou cL uC.2.1] ++ va_pl uC.1.1 (gE uC.1.2)) := hD
  refine lv_istore (lv' := [(5, .int kC), (0, .ref b), (1, .ref h0), (2, .ref m0), (3, .ref ou), (4, .int (nI ix))]) hx hb dL_law_523 hl (by decide) rfl (fun ls hl => ?_)
  refine lv_aload_n hx hb dL_law_525 rfl (lv_at hl 3 rfl) ?_
  refine lv_aload_n hx hb dL_law_526 rfl (lv_at hl 1 rfl) ?_
  refine lv_iload hx hb dL_law_527 (lv_at hl 5 rfl) ?_
  refine lv_iconst (v := 1) hx hb dL_law_529 (by decide) ?_
  refine lv_iadd hx hb dL_law_530 ?_
  refine g_top (y := nI (ix + 1)) (nI_add _ _) ?_
  refine va_sld hx hb hXs hbl hbA hS (vp_in_nI (n := ix + 1) (by omega) (by omega)) dL_law_531 ?_
  refine g_top (y := xs (ix + 1)) (by rw [nI_clamp (by omega)]) ?_
  have hPm : va_P D vwCl (wM ([gO h0 lo uC.2.2.1 uC.2.2.2, gM m0 ar (nI n) rv tv, gR ar cI row, gQ ou cL uC.2.1] ++ va_pl uC.1.1 (gE uC.1.2)) 1 2 m0 ar cI (nI n) rv tv row) H := hP
  have hDm : va_D (fun q : Nat => s.heap.size ≤ q) (wM ([gO h0 lo uC.2.2.1 uC.2.2.2, gM m0 ar (nI n) rv tv, gR ar cI row, gQ ou cL uC.2.1] ++ va_pl uC.1.1 (gE uC.1.2)) 1 2 m0 ar cI (nI n) rv tv row) := hD
  refine g_calli (va_runV (As := [.int (xs (ix + 1))]) (rest := []) ⟨hx, hb, hml, hown, hts⟩ (m_spill l D [(cI, .int), (cL, .long)] (t := 0) rfl (w := [gO h0 lo uC.2.2.1 uC.2.2.2, gM m0 ar (nI n) rv tv, gR ar cI row, gQ ou cL uC.2.1] ++ va_pl uC.1.1 (gE uC.1.2)) (i := 1) (j := 2) (g_l4 (by omega)) (g_l4 (by omega)) (by decide) hev.2.1 hrow H.size (xs (ix + 1))) (cwV 1 hts gL_law_X2_spill rfl rfl rfl (by decide +kernel) ⟨Nat.le_of_ble_eq_true rfl, Nat.le_of_ble_eq_true rfl⟩) (gP_V (va_recv hK hPm (ci := 2) rfl (gM_i (g_l4 (by omega)) (by decide))) hPm hK hDm gBl_T (fun _ _ _ => trivial)) rfl rfl hl.1 rfl (lv_room (Nat.le_of_ble_eq_true rfl)) dL_law_532 ⟨by show kc + 3 + 0 ≤ 601024; omega, by show ns + 14 + 0 ≤ 7293034; omega⟩) hDm hS hA (fun bM uM H locs hm hP hD hS => ?_)
  have hP : va_P D vwCl ([gO h0 lo uC.2.2.1 uC.2.2.2, gM m0 ar (nI n) rv uM.1, gR ar cI uM.2, gQ ou cL uC.2.1] ++ va_pl uC.1.1 (gE uC.1.2)) H := hP
  have hD : va_D (fun q : Nat => s.heap.size ≤ q) ([gO h0 lo uC.2.2.1 uC.2.2.2, gM m0 ar (nI n) rv uM.1, gR ar cI uM.2, gQ ou cL uC.2.1] ++ va_pl uC.1.1 (gE uC.1.2)) := hD
  obtain ⟨hth, hval, P2, n2, hC2, hev2, hrow2, hs1, hs2, hs3⟩ := a_spill hev hrow hw hm
  rw [hs1, hs3] at hP hD
  have hP : va_P D vwCl ([gO h0 lo (nI n2) rv, gM m0 ar (nI n2) rv uM.1, gR ar cI uM.2, gQ ou cL uC.2.1] ++ va_pl uC.1.1 (gE uC.1.2)) H := by rw [← hs2]; rw [← hs2] at hP; exact hP
  have hD : va_D (fun q : Nat => s.heap.size ≤ q) ([gO h0 lo (nI n2) rv, gM m0 ar (nI n2) rv uM.1, gR ar cI uM.2, gQ ou cL uC.2.1] ++ va_pl uC.1.1 (gE uC.1.2)) := by rw [← hs2]; rw [← hs2] at hD; exact hD
  refine lv_istore (lv' := [(6, .int bM), (5, .int kC), (0, .ref b), (1, .ref h0), (2, .ref m0), (3, .ref ou), (4, .int (nI ix))]) hx hb dL_law_535 hl (by decide) rfl (fun ls hl => ?_)
  refine lv_aload_n hx hb dL_law_537 rfl (lv_at hl 4 rfl) ?_
  have hPm : va_P D vwCl (wM ([gO h0 lo (nI n2) rv, gM m0 ar (nI n2) rv uM.1, gR ar cI uM.2, gQ ou cL uC.2.1] ++ va_pl uC.1.1 (gE uC.1.2)) 1 2 m0 ar cI (nI n2) rv uM.1 uM.2) H := hP
  have hDm : va_D (fun q : Nat => s.heap.size ≤ q) (wM ([gO h0 lo (nI n2) rv, gM m0 ar (nI n2) rv uM.1, gR ar cI uM.2, gQ ou cL uC.2.1] ++ va_pl uC.1.1 (gE uC.1.2)) 1 2 m0 ar cI (nI n2) rv uM.1 uM.2) := hD
  refine g_calli (va_runV (As := []) (rest := []) ⟨hx, hb, hml, hown, hts⟩ (m_thrown l D [(cI, .int), (cL, .long)] (t := 0) rfl (w := [gO h0 lo (nI n2) rv, gM m0 ar (nI n2) rv uM.1, gR ar cI uM.2, gQ ou cL uC.2.1] ++ va_pl uC.1.1 (gE uC.1.2)) (i := 1) (j := 2) (g_l4 (by omega)) (g_l4 (by omega)) (by decide) hev2.2.1 hrow2 H.size) (cwV 0 hts gL_law_X2_thrown rfl rfl rfl (by decide +kernel) ⟨Nat.le_of_ble_eq_true rfl, Nat.le_of_ble_eq_true rfl⟩) (gP_V (va_recv hK hPm (ci := 2) rfl (gM_i (g_l4 (by omega)) (by decide))) hPm hK hDm gBl_T (fun _ _ _ => trivial)) rfl rfl hl.1 rfl (lv_room (Nat.le_of_ble_eq_true rfl)) dL_law_538 ⟨by show kc + 3 + 0 + 0 ≤ 601024; omega, by show ns + 14 + 0 + 0 ≤ 7293034; omega⟩) hDm hS hA (fun r9 u9 H locs hr9 hP hD hS => ?_)
  have hP : va_P D vwCl ([gO h0 lo (nI n2) rv, gM m0 ar (nI n2) rv uM.1, gR ar cI uM.2, gQ ou cL uC.2.1] ++ va_pl uC.1.1 (gE uC.1.2)) H := hP
  have hD : va_D (fun q : Nat => s.heap.size ≤ q) ([gO h0 lo (nI n2) rv, gM m0 ar (nI n2) rv uM.1, gR ar cI uM.2, gQ ou cL uC.2.1] ++ va_pl uC.1.1 (gE uC.1.2)) := hD
  refine lv_iload hx hb dL_law_541 (lv_at hl 1 rfl) ?_
  refine lv_icmp_eq (tgt := 548) hx hb dL_law_543 (by decide) (fun _ => ?_) (fun c9 => absurd (hr9.trans hth) c9)
  refine lv_iload hx hb dL_law_548 (lv_at hl 1 rfl) ?_
  refine lv_if_ne (tgt := 565) hx hb dL_law_550 (by decide) (fun c1 => ?_) (fun c1 => ?_)
  · skip
    refine lv_goto (tgt := 1021) hx hb dL_law_565 (by decide) ?_
    refine W.widen (k := kc + 6) (n := ns + 40) (by omega) (by omega) ?_
    exact hend P2 n2 rv uM.1 uC.1.1 uC.1.2 uC.2.1 uM.2 H locs ls hC2 hev2 hrow2 hP hD hS (lv_sub hl [2, 3, 4, 5, 6] rfl)
  · have hk0 : kC = 0 := by first | exact c1 | exact Classical.not_not.mp c1
    refine lv_aload_n hx hb dL_law_553 rfl (lv_at hl 5 rfl) ?_
    refine lv_iconst (v := 0) hx hb dL_law_554 (by decide) ?_
    refine va_lald hx hb hK hP 3 1 rfl rfl (vp_in_nI (n := 0) (N := 1) (by omega) (by omega)) dL_law_555 ?_
    refine lv_iload hx hb dL_law_556 (lv_at hl 0 rfl) ?_
    refine lv_i2l (v := bM.toInt64) hx hb dL_law_558 rfl ?_
    refine W.lcmp hx hb dL_law_559 ?_
    have hcmp : lg_cmp (uC.2.1 ((0 : Int32).toNatClampNeg)) bM.toInt64 = 0 := by rw [sb_cl0, hval hk0]; exact g_cmp0 _
    refine lv_if_eq (tgt := 565) hx hb dL_law_560 (by decide) (fun _ => ?_) (fun c9 => absurd hcmp c9)
    refine lv_goto (tgt := 1021) hx hb dL_law_565 (by decide) ?_
    refine W.widen (k := kc + 6) (n := ns + 40) (by omega) (by omega) ?_
    exact hend P2 n2 rv uM.1 uC.1.1 uC.1.2 uC.2.1 uM.2 H locs ls hC2 hev2 hrow2 hP hD hS (lv_sub hl [2, 3, 4, 5, 6] rfl)
set_option maxHeartbeats 4000000 in
set_option maxRecDepth 100000 in
theorem k_nextRound {p : Program} {l : Launch} {e : Env} {s : State} {m : MethodId} {args : Array Value} {below : List Frame} {meth : Method} {c : Code} {Q : State → Prop} {D : va_G} {b Ls ix h0 m0 ar ou lo n kc ns : Nat} {xs : Nat → Int32} {cI cL : ClassId} {P : Nat → Int32} {rv tv : Int32} {L : List Nat} {S : gS} {f : Nat → Int64} {row : Nat → Int32} (hx : p.tables.exec = Jvm.exec) (hb : c.code = cL_law) (hml : c.maxLocals = 7) (hts : ∀ w ∈ wsL_law, w.before args s = true) (hown : s.vm.findClass RL = some m.cls) (hK : va_K D vwCl [(cI, .int), (cL, .long)] s) (hl9 : l.stackTraces = false) (hGL : gL (fun q : Nat => s.heap.size ≤ q) s) (hXs : va_X b Ls xs s s.heap) (hbl : b < s.heap.size) (hix : ix + 4 ≤ Ls) (hLs : Ls ≤ 2048) (hkc : kc + 6 ≤ 601024) (hns : ns + 40 ≤ 7293034) (hC : gCh P lo (L, S)) (hev : gEv P n) (hrow : gRow P n row) (H : Heap) (locs : List Loc) (ls : Array Slot) (hP : va_P D vwCl ([gO h0 lo (nI n) rv, gM m0 ar (nI n) rv tv, gR ar cI row, gQ ou cL f] ++ va_pl L (gE S)) H) (hD : va_D (fun q : Nat => s.heap.size ≤ q) ([gO h0 lo (nI n) rv, gM m0 ar (nI n) rv tv, gR ar cI row, gQ ou cL f] ++ va_pl L (gE S))) (hS : va_S (fun q : Nat => s.heap.size ≤ q) s.heap H locs) (hl : lv_has ls 7 [(0, .ref b), (1, .ref h0), (2, .ref m0), (3, .ref ou), (4, .int (nI ix))]) (hend : (∀ (P : Nat → Int32) (n : Nat) (rv tv : Int32) (L : List Nat) (S : gS) (f : Nat → Int64) (row : Nat → Int32) (H : Heap) (locs : List Loc) (ls : Array Slot), gCh P lo (L, S) → gEv P n → gRow P n row → va_P D vwCl ([gO h0 lo (nI n) rv, gM m0 ar (nI n) rv tv, gR ar cI row, gQ ou cL f] ++ va_pl L (gE S)) H → va_D (fun q : Nat => s.heap.size ≤ q) ([gO h0 lo (nI n) rv, gM m0 ar (nI n) rv tv, gR ar cI row, gQ ou cL f] ++ va_pl L (gE S)) → va_S (fun q : Nat => s.heap.size ≤ q) s.heap H locs → lv_has ls 7 [(0, .ref b), (1, .ref h0), (2, .ref m0), (3, .ref ou), (4, .int (nI ix))] → W p l e room_1 s m args below meth c H locs (kc + 6) (ns + 40) Q (F0 m 1021 ls []))) : W p l e room_1 s m args below meth c H locs kc ns Q (F0 m 568 ls []) := by
  have hA : ∀ q : Nat, s.heap.size ≤ q → (fun q : Nat => s.heap.size ≤ q) q := fun _ h => h
  have hbA : ¬ (fun q : Nat => s.heap.size ≤ q) b := Nat.not_le.mpr hbl
  refine lv_aload_n hx hb dL_law_568 rfl (lv_at hl 1 rfl) ?_
  refine lv_aload_n hx hb dL_law_569 rfl (lv_at hl 3 rfl) ?_
  refine g_calli (vx_runSW (As := [.ref h0, .ref ou]) (rest := []) ⟨hx, hb, hml, hown, hts⟩ (w_nextRound l hl9 D [(cI, .int), (cL, .long)] [gO h0 lo (nI n) rv, gM m0 ar (nI n) rv tv, gR ar cI row, gQ ou cL f] L S H.size (i := 0) (io := 3) (tl := 1) rfl rfl (by decide) rfl hC rfl hev.2.1) (vx_cwSW 2 hts gL_law_L_nextRound rfl rfl rfl (by decide +kernel) ⟨Nat.le_of_ble_eq_true rfl, Nat.le_of_ble_eq_true rfl⟩) (gP_S hP hK hD gBl_L (fun U hU hW => hGL.call hS (gA_sub hD hS hA) U hU hW)) rfl rfl hl.1 rfl (lv_room (Nat.le_of_ble_eq_true rfl)) dL_law_570 ⟨by show kc + 4 ≤ 601024; omega, by show ns + 16 ≤ 7293034; omega⟩) hD hS hA (fun kC uC H locs hw hP hD hS => ?_)
  have hP : va_P D vwCl ([gO h0 lo uC.2.2.1 uC.2.2.2, gM m0 ar (nI n) rv tv, gR ar cI row, gQ ou cL uC.2.1] ++ va_pl uC.1.1 (gE uC.1.2)) H := hP
  have hD : va_D (fun q : Nat => s.heap.size ≤ q) ([gO h0 lo uC.2.2.1 uC.2.2.2, gM m0 ar (nI n) rv tv, gR ar cI row, gQ ou cL uC.2.1] ++ va_pl uC.1.1 (gE uC.1.2)) := hD
  refine lv_istore (lv' := [(5, .int kC), (0, .ref b), (1, .ref h0), (2, .ref m0), (3, .ref ou), (4, .int (nI ix))]) hx hb dL_law_573 hl (by decide) rfl (fun ls hl => ?_)
  refine lv_aload_n hx hb dL_law_575 rfl (lv_at hl 3 rfl) ?_
  have hPm : va_P D vwCl (wM ([gO h0 lo uC.2.2.1 uC.2.2.2, gM m0 ar (nI n) rv tv, gR ar cI row, gQ ou cL uC.2.1] ++ va_pl uC.1.1 (gE uC.1.2)) 1 2 m0 ar cI (nI n) rv tv row) H := hP
  have hDm : va_D (fun q : Nat => s.heap.size ≤ q) (wM ([gO h0 lo uC.2.2.1 uC.2.2.2, gM m0 ar (nI n) rv tv, gR ar cI row, gQ ou cL uC.2.1] ++ va_pl uC.1.1 (gE uC.1.2)) 1 2 m0 ar cI (nI n) rv tv row) := hD
  refine g_calli (va_runV (As := []) (rest := []) ⟨hx, hb, hml, hown, hts⟩ (m_nextRound l D [(cI, .int), (cL, .long)] (t := 0) rfl (w := [gO h0 lo uC.2.2.1 uC.2.2.2, gM m0 ar (nI n) rv tv, gR ar cI row, gQ ou cL uC.2.1] ++ va_pl uC.1.1 (gE uC.1.2)) (i := 1) (j := 2) (g_l4 (by omega)) (g_l4 (by omega)) (by decide) hev.2.1 hrow H.size ) (cwV 0 hts gL_law_X2_nextRound rfl rfl rfl (by decide +kernel) ⟨Nat.le_of_ble_eq_true rfl, Nat.le_of_ble_eq_true rfl⟩) (gP_V (va_recv hK hPm (ci := 2) rfl (gM_i (g_l4 (by omega)) (by decide))) hPm hK hDm gBl_T (fun _ _ _ => trivial)) rfl rfl hl.1 rfl (lv_room (Nat.le_of_ble_eq_true rfl)) dL_law_576 ⟨by show kc + 4 + 0 ≤ 601024; omega, by show ns + 16 + 0 ≤ 7293034; omega⟩) hDm hS hA (fun bM uM H locs hm hP hD hS => ?_)
  have hP : va_P D vwCl ([gO h0 lo uC.2.2.1 uC.2.2.2, gM m0 ar (nI n) uM.2.1 uM.1, gR ar cI uM.2.2, gQ ou cL uC.2.1] ++ va_pl uC.1.1 (gE uC.1.2)) H := hP
  have hD : va_D (fun q : Nat => s.heap.size ≤ q) ([gO h0 lo uC.2.2.1 uC.2.2.2, gM m0 ar (nI n) uM.2.1 uM.1, gR ar cI uM.2.2, gQ ou cL uC.2.1] ++ va_pl uC.1.1 (gE uC.1.2)) := hD
  obtain ⟨hth, hval, P2, n2, hC2, hev2, hrow2, hs1, hs2, hs3⟩ := a_nextRound hev hrow hw hm
  rw [hs1, hs3] at hP hD
  have hP : va_P D vwCl ([gO h0 lo (nI n2) uM.2.1, gM m0 ar (nI n2) uM.2.1 uM.1, gR ar cI uM.2.2, gQ ou cL uC.2.1] ++ va_pl uC.1.1 (gE uC.1.2)) H := by rw [← hs2]; rw [← hs2] at hP; exact hP
  have hD : va_D (fun q : Nat => s.heap.size ≤ q) ([gO h0 lo (nI n2) uM.2.1, gM m0 ar (nI n2) uM.2.1 uM.1, gR ar cI uM.2.2, gQ ou cL uC.2.1] ++ va_pl uC.1.1 (gE uC.1.2)) := by rw [← hs2]; rw [← hs2] at hD; exact hD
  refine lv_istore (lv' := [(6, .int bM), (5, .int kC), (0, .ref b), (1, .ref h0), (2, .ref m0), (3, .ref ou), (4, .int (nI ix))]) hx hb dL_law_579 hl (by decide) rfl (fun ls hl => ?_)
  refine lv_aload_n hx hb dL_law_581 rfl (lv_at hl 4 rfl) ?_
  have hPm : va_P D vwCl (wM ([gO h0 lo (nI n2) uM.2.1, gM m0 ar (nI n2) uM.2.1 uM.1, gR ar cI uM.2.2, gQ ou cL uC.2.1] ++ va_pl uC.1.1 (gE uC.1.2)) 1 2 m0 ar cI (nI n2) uM.2.1 uM.1 uM.2.2) H := hP
  have hDm : va_D (fun q : Nat => s.heap.size ≤ q) (wM ([gO h0 lo (nI n2) uM.2.1, gM m0 ar (nI n2) uM.2.1 uM.1, gR ar cI uM.2.2, gQ ou cL uC.2.1] ++ va_pl uC.1.1 (gE uC.1.2)) 1 2 m0 ar cI (nI n2) uM.2.1 uM.1 uM.2.2) := hD
  refine g_calli (va_runV (As := []) (rest := []) ⟨hx, hb, hml, hown, hts⟩ (m_thrown l D [(cI, .int), (cL, .long)] (t := 0) rfl (w := [gO h0 lo (nI n2) uM.2.1, gM m0 ar (nI n2) uM.2.1 uM.1, gR ar cI uM.2.2, gQ ou cL uC.2.1] ++ va_pl uC.1.1 (gE uC.1.2)) (i := 1) (j := 2) (g_l4 (by omega)) (g_l4 (by omega)) (by decide) hev2.2.1 hrow2 H.size) (cwV 0 hts gL_law_X2_thrown rfl rfl rfl (by decide +kernel) ⟨Nat.le_of_ble_eq_true rfl, Nat.le_of_ble_eq_true rfl⟩) (gP_V (va_recv hK hPm (ci := 2) rfl (gM_i (g_l4 (by omega)) (by decide))) hPm hK hDm gBl_T (fun _ _ _ => trivial)) rfl rfl hl.1 rfl (lv_room (Nat.le_of_ble_eq_true rfl)) dL_law_582 ⟨by show kc + 4 + 0 + 0 ≤ 601024; omega, by show ns + 16 + 0 + 0 ≤ 7293034; omega⟩) hDm hS hA (fun r9 u9 H locs hr9 hP hD hS => ?_)
  have hP : va_P D vwCl ([gO h0 lo (nI n2) uM.2.1, gM m0 ar (nI n2) uM.2.1 uM.1, gR ar cI uM.2.2, gQ ou cL uC.2.1] ++ va_pl uC.1.1 (gE uC.1.2)) H := hP
  have hD : va_D (fun q : Nat => s.heap.size ≤ q) ([gO h0 lo (nI n2) uM.2.1, gM m0 ar (nI n2) uM.2.1 uM.1, gR ar cI uM.2.2, gQ ou cL uC.2.1] ++ va_pl uC.1.1 (gE uC.1.2)) := hD
  refine lv_iload hx hb dL_law_585 (lv_at hl 1 rfl) ?_
  refine lv_icmp_eq (tgt := 592) hx hb dL_law_587 (by decide) (fun _ => ?_) (fun c9 => absurd (hr9.trans hth) c9)
  refine lv_iload hx hb dL_law_592 (lv_at hl 1 rfl) ?_
  refine lv_if_ne (tgt := 609) hx hb dL_law_594 (by decide) (fun c1 => ?_) (fun c1 => ?_)
  · skip
    refine lv_goto (tgt := 1021) hx hb dL_law_609 (by decide) ?_
    refine W.widen (k := kc + 6) (n := ns + 40) (by omega) (by omega) ?_
    exact hend P2 n2 uM.2.1 uM.1 uC.1.1 uC.1.2 uC.2.1 uM.2.2 H locs ls hC2 hev2 hrow2 hP hD hS (lv_sub hl [2, 3, 4, 5, 6] rfl)
  · have hk0 : kC = 0 := by first | exact c1 | exact Classical.not_not.mp c1
    refine lv_aload_n hx hb dL_law_597 rfl (lv_at hl 5 rfl) ?_
    refine lv_iconst (v := 0) hx hb dL_law_598 (by decide) ?_
    refine va_lald hx hb hK hP 3 1 rfl rfl (vp_in_nI (n := 0) (N := 1) (by omega) (by omega)) dL_law_599 ?_
    refine lv_iload hx hb dL_law_600 (lv_at hl 0 rfl) ?_
    refine lv_i2l (v := bM.toInt64) hx hb dL_law_602 rfl ?_
    refine W.lcmp hx hb dL_law_603 ?_
    have hcmp : lg_cmp (uC.2.1 ((0 : Int32).toNatClampNeg)) bM.toInt64 = 0 := by rw [sb_cl0, hval hk0]; exact g_cmp0 _
    refine lv_if_eq (tgt := 609) hx hb dL_law_604 (by decide) (fun _ => ?_) (fun c9 => absurd hcmp c9)
    refine lv_goto (tgt := 1021) hx hb dL_law_609 (by decide) ?_
    refine W.widen (k := kc + 6) (n := ns + 40) (by omega) (by omega) ?_
    exact hend P2 n2 uM.2.1 uM.1 uC.1.1 uC.1.2 uC.2.1 uM.2.2 H locs ls hC2 hev2 hrow2 hP hD hS (lv_sub hl [2, 3, 4, 5, 6] rfl)
set_option maxHeartbeats 4000000 in
set_option maxRecDepth 100000 in
theorem k_size {p : Program} {l : Launch} {e : Env} {s : State} {m : MethodId} {args : Array Value} {below : List Frame} {meth : Method} {c : Code} {Q : State → Prop} {D : va_G} {b Ls ix h0 m0 ar ou lo n kc ns : Nat} {xs : Nat → Int32} {cI cL : ClassId} {P : Nat → Int32} {rv tv : Int32} {L : List Nat} {S : gS} {f : Nat → Int64} {row : Nat → Int32} (hx : p.tables.exec = Jvm.exec) (hb : c.code = cL_law) (hml : c.maxLocals = 7) (hts : ∀ w ∈ wsL_law, w.before args s = true) (hown : s.vm.findClass RL = some m.cls) (hK : va_K D vwCl [(cI, .int), (cL, .long)] s) (hl9 : l.stackTraces = false) (hGL : gL (fun q : Nat => s.heap.size ≤ q) s) (hXs : va_X b Ls xs s s.heap) (hbl : b < s.heap.size) (hix : ix + 4 ≤ Ls) (hLs : Ls ≤ 2048) (hkc : kc + 6 ≤ 601024) (hns : ns + 40 ≤ 7293034) (hC : gCh P lo (L, S)) (hev : gEv P n) (hrow : gRow P n row) (H : Heap) (locs : List Loc) (ls : Array Slot) (hP : va_P D vwCl ([gO h0 lo (nI n) rv, gM m0 ar (nI n) rv tv, gR ar cI row, gQ ou cL f] ++ va_pl L (gE S)) H) (hD : va_D (fun q : Nat => s.heap.size ≤ q) ([gO h0 lo (nI n) rv, gM m0 ar (nI n) rv tv, gR ar cI row, gQ ou cL f] ++ va_pl L (gE S))) (hS : va_S (fun q : Nat => s.heap.size ≤ q) s.heap H locs) (hl : lv_has ls 7 [(0, .ref b), (1, .ref h0), (2, .ref m0), (3, .ref ou), (4, .int (nI ix))]) (hend : (∀ (P : Nat → Int32) (n : Nat) (rv tv : Int32) (L : List Nat) (S : gS) (f : Nat → Int64) (row : Nat → Int32) (H : Heap) (locs : List Loc) (ls : Array Slot), gCh P lo (L, S) → gEv P n → gRow P n row → va_P D vwCl ([gO h0 lo (nI n) rv, gM m0 ar (nI n) rv tv, gR ar cI row, gQ ou cL f] ++ va_pl L (gE S)) H → va_D (fun q : Nat => s.heap.size ≤ q) ([gO h0 lo (nI n) rv, gM m0 ar (nI n) rv tv, gR ar cI row, gQ ou cL f] ++ va_pl L (gE S)) → va_S (fun q : Nat => s.heap.size ≤ q) s.heap H locs → lv_has ls 7 [(0, .ref b), (1, .ref h0), (2, .ref m0), (3, .ref ou), (4, .int (nI ix))] → W p l e room_1 s m args below meth c H locs (kc + 6) (ns + 40) Q (F0 m 1021 ls []))) : W p l e room_1 s m args below meth c H locs kc ns Q (F0 m 612 ls []) := by
  have hA : ∀ q : Nat, s.heap.size ≤ q → (fun q : Nat => s.heap.size ≤ q) q := fun _ h => h
  have hbA : ¬ (fun q : Nat => s.heap.size ≤ q) b := Nat.not_le.mpr hbl
  obtain ⟨g9, hch9, hwf9, hmx9⟩ := id hC
  refine lv_aload_n hx hb dL_law_612 rfl (lv_at hl 1 rfl) ?_
  refine g_calli (va_runV (As := []) (rest := []) ⟨hx, hb, hml, hown, hts⟩ (c_size l D [(cI, .int), (cL, .long)] [gO h0 lo (nI n) rv, gM m0 ar (nI n) rv tv, gR ar cI row, gQ ou cL f] L S H.size (i := 0) rfl hC) (cwV 0 hts gL_law_X1_size rfl rfl rfl (by decide +kernel) ⟨Nat.le_of_ble_eq_true rfl, Nat.le_of_ble_eq_true rfl⟩) (gP_V (va_recv hK hP (ci := 1) rfl (g_inX (X := [gO h0 lo (nI n) rv, gM m0 ar (nI n) rv tv, gR ar cI row, gQ ou cL f]) (i := 0) rfl)) hP hK hD gBl_N (fun U _ hW => hGL.1.1.warm hW)) rfl rfl hl.1 rfl (lv_room (Nat.le_of_ble_eq_true rfl)) dL_law_613 ⟨by show kc + 0 ≤ 601024; omega, by show ns + 0 ≤ 7293034; omega⟩) hD hS hA (fun r1 u1 H locs hr1 hP hD hS => ?_)
  refine lv_aload_n hx hb dL_law_616 rfl (lv_at hl 2 rfl) ?_
  have hPm : va_P D vwCl (wM ([gO h0 lo (nI n) rv, gM m0 ar (nI n) rv tv, gR ar cI row, gQ ou cL f] ++ va_pl L (gE S)) 1 2 m0 ar cI (nI n) rv tv row) H := hP
  have hDm : va_D (fun q : Nat => s.heap.size ≤ q) (wM ([gO h0 lo (nI n) rv, gM m0 ar (nI n) rv tv, gR ar cI row, gQ ou cL f] ++ va_pl L (gE S)) 1 2 m0 ar cI (nI n) rv tv row) := hD
  refine g_calli (va_runV (As := []) (rest := [.int r1]) ⟨hx, hb, hml, hown, hts⟩ (m_size l D [(cI, .int), (cL, .long)] (t := 0) rfl (w := [gO h0 lo (nI n) rv, gM m0 ar (nI n) rv tv, gR ar cI row, gQ ou cL f] ++ va_pl L (gE S)) (i := 1) (j := 2) (g_l4 (by omega)) (g_l4 (by omega)) (by decide) hev.2.1 hrow H.size ) (cwV 0 hts gL_law_X2_size rfl rfl rfl (by decide +kernel) ⟨Nat.le_of_ble_eq_true rfl, Nat.le_of_ble_eq_true rfl⟩) (gP_V (va_recv hK hPm (ci := 2) rfl (gM_i (g_l4 (by omega)) (by decide))) hPm hK hDm gBl_T (fun _ _ _ => trivial)) rfl rfl hl.1 rfl (lv_room (Nat.le_of_ble_eq_true rfl)) dL_law_617 ⟨by show kc + 0 + 0 ≤ 601024; omega, by show ns + 0 + 0 ≤ 7293034; omega⟩) hDm hS hA (fun r2 u2 H locs hr2 hP hD hS => ?_)
  have hP : va_P D vwCl ([gO h0 lo (nI n) rv, gM m0 ar (nI n) rv 0, gR ar cI row, gQ ou cL f] ++ va_pl L (gE S)) H := hP
  have hD : va_D (fun q : Nat => s.heap.size ≤ q) ([gO h0 lo (nI n) rv, gM m0 ar (nI n) rv 0, gR ar cI row, gQ ou cL f] ++ va_pl L (gE S)) := hD
  have heq : r1 = r2 := hr1.trans hr2.symm
  refine lv_icmp_eq (tgt := 1021) hx hb dL_law_620 (by decide) (fun _ => ?_) (fun c9 => absurd heq c9)
  refine W.widen (k := kc + 6) (n := ns + 40) (by omega) (by omega) ?_
  exact hend P n rv 0 L S f row H locs ls hC hev hrow hP hD hS hl
set_option maxHeartbeats 4000000 in
set_option maxRecDepth 100000 in
theorem k_round {p : Program} {l : Launch} {e : Env} {s : State} {m : MethodId} {args : Array Value} {below : List Frame} {meth : Method} {c : Code} {Q : State → Prop} {D : va_G} {b Ls ix h0 m0 ar ou lo n kc ns : Nat} {xs : Nat → Int32} {cI cL : ClassId} {P : Nat → Int32} {rv tv : Int32} {L : List Nat} {S : gS} {f : Nat → Int64} {row : Nat → Int32} (hx : p.tables.exec = Jvm.exec) (hb : c.code = cL_law) (hml : c.maxLocals = 7) (hts : ∀ w ∈ wsL_law, w.before args s = true) (hown : s.vm.findClass RL = some m.cls) (hK : va_K D vwCl [(cI, .int), (cL, .long)] s) (hl9 : l.stackTraces = false) (hGL : gL (fun q : Nat => s.heap.size ≤ q) s) (hXs : va_X b Ls xs s s.heap) (hbl : b < s.heap.size) (hix : ix + 4 ≤ Ls) (hLs : Ls ≤ 2048) (hkc : kc + 6 ≤ 601024) (hns : ns + 40 ≤ 7293034) (hC : gCh P lo (L, S)) (hev : gEv P n) (hrow : gRow P n row) (H : Heap) (locs : List Loc) (ls : Array Slot) (hP : va_P D vwCl ([gO h0 lo (nI n) rv, gM m0 ar (nI n) rv tv, gR ar cI row, gQ ou cL f] ++ va_pl L (gE S)) H) (hD : va_D (fun q : Nat => s.heap.size ≤ q) ([gO h0 lo (nI n) rv, gM m0 ar (nI n) rv tv, gR ar cI row, gQ ou cL f] ++ va_pl L (gE S))) (hS : va_S (fun q : Nat => s.heap.size ≤ q) s.heap H locs) (hl : lv_has ls 7 [(0, .ref b), (1, .ref h0), (2, .ref m0), (3, .ref ou), (4, .int (nI ix))]) (hend : (∀ (P : Nat → Int32) (n : Nat) (rv tv : Int32) (L : List Nat) (S : gS) (f : Nat → Int64) (row : Nat → Int32) (H : Heap) (locs : List Loc) (ls : Array Slot), gCh P lo (L, S) → gEv P n → gRow P n row → va_P D vwCl ([gO h0 lo (nI n) rv, gM m0 ar (nI n) rv tv, gR ar cI row, gQ ou cL f] ++ va_pl L (gE S)) H → va_D (fun q : Nat => s.heap.size ≤ q) ([gO h0 lo (nI n) rv, gM m0 ar (nI n) rv tv, gR ar cI row, gQ ou cL f] ++ va_pl L (gE S)) → va_S (fun q : Nat => s.heap.size ≤ q) s.heap H locs → lv_has ls 7 [(0, .ref b), (1, .ref h0), (2, .ref m0), (3, .ref ou), (4, .int (nI ix))] → W p l e room_1 s m args below meth c H locs (kc + 6) (ns + 40) Q (F0 m 1021 ls []))) : W p l e room_1 s m args below meth c H locs kc ns Q (F0 m 625 ls []) := by
  have hA : ∀ q : Nat, s.heap.size ≤ q → (fun q : Nat => s.heap.size ≤ q) q := fun _ h => h
  have hbA : ¬ (fun q : Nat => s.heap.size ≤ q) b := Nat.not_le.mpr hbl
  obtain ⟨g9, hch9, hwf9, hmx9⟩ := id hC
  refine lv_aload_n hx hb dL_law_625 rfl (lv_at hl 1 rfl) ?_
  refine g_calli (va_runV (As := []) (rest := []) ⟨hx, hb, hml, hown, hts⟩ (c_round l D [(cI, .int), (cL, .long)] [gO h0 lo (nI n) rv, gM m0 ar (nI n) rv tv, gR ar cI row, gQ ou cL f] L S H.size (i := 0) rfl hC) (cwV 0 hts gL_law_X1_round rfl rfl rfl (by decide +kernel) ⟨Nat.le_of_ble_eq_true rfl, Nat.le_of_ble_eq_true rfl⟩) (gP_V (va_recv hK hP (ci := 1) rfl (g_inX (X := [gO h0 lo (nI n) rv, gM m0 ar (nI n) rv tv, gR ar cI row, gQ ou cL f]) (i := 0) rfl)) hP hK hD gBl_N (fun U _ hW => hGL.1.1.warm hW)) rfl rfl hl.1 rfl (lv_room (Nat.le_of_ble_eq_true rfl)) dL_law_626 ⟨by show kc + 0 ≤ 601024; omega, by show ns + 0 ≤ 7293034; omega⟩) hD hS hA (fun r1 u1 H locs hr1 hP hD hS => ?_)
  refine lv_aload_n hx hb dL_law_629 rfl (lv_at hl 2 rfl) ?_
  have hPm : va_P D vwCl (wM ([gO h0 lo (nI n) rv, gM m0 ar (nI n) rv tv, gR ar cI row, gQ ou cL f] ++ va_pl L (gE S)) 1 2 m0 ar cI (nI n) rv tv row) H := hP
  have hDm : va_D (fun q : Nat => s.heap.size ≤ q) (wM ([gO h0 lo (nI n) rv, gM m0 ar (nI n) rv tv, gR ar cI row, gQ ou cL f] ++ va_pl L (gE S)) 1 2 m0 ar cI (nI n) rv tv row) := hD
  refine g_calli (va_runV (As := []) (rest := [.int r1]) ⟨hx, hb, hml, hown, hts⟩ (m_round l D [(cI, .int), (cL, .long)] (t := 0) rfl (w := [gO h0 lo (nI n) rv, gM m0 ar (nI n) rv tv, gR ar cI row, gQ ou cL f] ++ va_pl L (gE S)) (i := 1) (j := 2) (g_l4 (by omega)) (g_l4 (by omega)) (by decide) hev.2.1 hrow H.size ) (cwV 0 hts gL_law_X2_round rfl rfl rfl (by decide +kernel) ⟨Nat.le_of_ble_eq_true rfl, Nat.le_of_ble_eq_true rfl⟩) (gP_V (va_recv hK hPm (ci := 2) rfl (gM_i (g_l4 (by omega)) (by decide))) hPm hK hDm gBl_T (fun _ _ _ => trivial)) rfl rfl hl.1 rfl (lv_room (Nat.le_of_ble_eq_true rfl)) dL_law_630 ⟨by show kc + 0 + 0 ≤ 601024; omega, by show ns + 0 + 0 ≤ 7293034; omega⟩) hDm hS hA (fun r2 u2 H locs hr2 hP hD hS => ?_)
  have hP : va_P D vwCl ([gO h0 lo (nI n) rv, gM m0 ar (nI n) rv 0, gR ar cI row, gQ ou cL f] ++ va_pl L (gE S)) H := hP
  have hD : va_D (fun q : Nat => s.heap.size ≤ q) ([gO h0 lo (nI n) rv, gM m0 ar (nI n) rv 0, gR ar cI row, gQ ou cL f] ++ va_pl L (gE S)) := hD
  have heq : r1 = r2 := hr1.trans hr2.symm
  refine lv_icmp_eq (tgt := 1021) hx hb dL_law_633 (by decide) (fun _ => ?_) (fun c9 => absurd heq c9)
  refine W.widen (k := kc + 6) (n := ns + 40) (by omega) (by omega) ?_
  exact hend P n rv 0 L S f row H locs ls hC hev hrow hP hD hS hl
set_option maxHeartbeats 4000000 in
set_option maxRecDepth 100000 in
theorem k_inJug {p : Program} {l : Launch} {e : Env} {s : State} {m : MethodId} {args : Array Value} {below : List Frame} {meth : Method} {c : Code} {Q : State → Prop} {D : va_G} {b Ls ix h0 m0 ar ou lo n kc ns : Nat} {xs : Nat → Int32} {cI cL : ClassId} {P : Nat → Int32} {rv tv : Int32} {L : List Nat} {S : gS} {f : Nat → Int64} {row : Nat → Int32} (hx : p.tables.exec = Jvm.exec) (hb : c.code = cL_law) (hml : c.maxLocals = 7) (hts : ∀ w ∈ wsL_law, w.before args s = true) (hown : s.vm.findClass RL = some m.cls) (hK : va_K D vwCl [(cI, .int), (cL, .long)] s) (hl9 : l.stackTraces = false) (hGL : gL (fun q : Nat => s.heap.size ≤ q) s) (hXs : va_X b Ls xs s s.heap) (hbl : b < s.heap.size) (hix : ix + 4 ≤ Ls) (hLs : Ls ≤ 2048) (hkc : kc + 6 ≤ 601024) (hns : ns + 40 ≤ 7293034) (hC : gCh P lo (L, S)) (hev : gEv P n) (hrow : gRow P n row) (H : Heap) (locs : List Loc) (ls : Array Slot) (hP : va_P D vwCl ([gO h0 lo (nI n) rv, gM m0 ar (nI n) rv tv, gR ar cI row, gQ ou cL f] ++ va_pl L (gE S)) H) (hD : va_D (fun q : Nat => s.heap.size ≤ q) ([gO h0 lo (nI n) rv, gM m0 ar (nI n) rv tv, gR ar cI row, gQ ou cL f] ++ va_pl L (gE S))) (hS : va_S (fun q : Nat => s.heap.size ≤ q) s.heap H locs) (hl : lv_has ls 7 [(0, .ref b), (1, .ref h0), (2, .ref m0), (3, .ref ou), (4, .int (nI ix))]) (hend : (∀ (P : Nat → Int32) (n : Nat) (rv tv : Int32) (L : List Nat) (S : gS) (f : Nat → Int64) (row : Nat → Int32) (H : Heap) (locs : List Loc) (ls : Array Slot), gCh P lo (L, S) → gEv P n → gRow P n row → va_P D vwCl ([gO h0 lo (nI n) rv, gM m0 ar (nI n) rv tv, gR ar cI row, gQ ou cL f] ++ va_pl L (gE S)) H → va_D (fun q : Nat => s.heap.size ≤ q) ([gO h0 lo (nI n) rv, gM m0 ar (nI n) rv tv, gR ar cI row, gQ ou cL f] ++ va_pl L (gE S)) → va_S (fun q : Nat => s.heap.size ≤ q) s.heap H locs → lv_has ls 7 [(0, .ref b), (1, .ref h0), (2, .ref m0), (3, .ref ou), (4, .int (nI ix))] → W p l e room_1 s m args below meth c H locs (kc + 6) (ns + 40) Q (F0 m 1021 ls []))) : W p l e room_1 s m args below meth c H locs kc ns Q (F0 m 638 ls []) := by
  have hA : ∀ q : Nat, s.heap.size ≤ q → (fun q : Nat => s.heap.size ≤ q) q := fun _ h => h
  have hbA : ¬ (fun q : Nat => s.heap.size ≤ q) b := Nat.not_le.mpr hbl
  obtain ⟨g9, hch9, hwf9, hmx9⟩ := id hC
  refine lv_aload_n hx hb dL_law_638 rfl (lv_at hl 1 rfl) ?_
  refine g_calli (va_runV (As := []) (rest := []) ⟨hx, hb, hml, hown, hts⟩ (c_inJug l D [(cI, .int), (cL, .long)] [gO h0 lo (nI n) rv, gM m0 ar (nI n) rv tv, gR ar cI row, gQ ou cL f] L S H.size (i := 0) rfl hC) (cwV 0 hts gL_law_X1_inJug rfl rfl rfl (by decide +kernel) ⟨Nat.le_of_ble_eq_true rfl, Nat.le_of_ble_eq_true rfl⟩) (gP_V (va_recv hK hP (ci := 1) rfl (g_inX (X := [gO h0 lo (nI n) rv, gM m0 ar (nI n) rv tv, gR ar cI row, gQ ou cL f]) (i := 0) rfl)) hP hK hD gBl_N (fun U _ hW => hGL.1.1.warm hW)) rfl rfl hl.1 rfl (lv_room (Nat.le_of_ble_eq_true rfl)) dL_law_639 ⟨by show kc + 0 ≤ 601024; omega, by show ns + 0 ≤ 7293034; omega⟩) hD hS hA (fun r1 u1 H locs hr1 hP hD hS => ?_)
  refine lv_aload_n hx hb dL_law_642 rfl (lv_at hl 2 rfl) ?_
  have hPm : va_P D vwCl (wM ([gO h0 lo (nI n) rv, gM m0 ar (nI n) rv tv, gR ar cI row, gQ ou cL f] ++ va_pl L (gE S)) 1 2 m0 ar cI (nI n) rv tv row) H := hP
  have hDm : va_D (fun q : Nat => s.heap.size ≤ q) (wM ([gO h0 lo (nI n) rv, gM m0 ar (nI n) rv tv, gR ar cI row, gQ ou cL f] ++ va_pl L (gE S)) 1 2 m0 ar cI (nI n) rv tv row) := hD
  refine g_calli (va_runV (As := []) (rest := [.int r1]) ⟨hx, hb, hml, hown, hts⟩ (m_inJug l D [(cI, .int), (cL, .long)] (t := 0) rfl (w := [gO h0 lo (nI n) rv, gM m0 ar (nI n) rv tv, gR ar cI row, gQ ou cL f] ++ va_pl L (gE S)) (i := 1) (j := 2) (g_l4 (by omega)) (g_l4 (by omega)) (by decide) hev.2.1 hrow H.size ) (cwV 0 hts gL_law_X2_inJug rfl rfl rfl (by decide +kernel) ⟨Nat.le_of_ble_eq_true rfl, Nat.le_of_ble_eq_true rfl⟩) (gP_V (va_recv hK hPm (ci := 2) rfl (gM_i (g_l4 (by omega)) (by decide))) hPm hK hDm gBl_T (fun _ _ _ => trivial)) rfl rfl hl.1 rfl (lv_room (Nat.le_of_ble_eq_true rfl)) dL_law_643 ⟨by show kc + 0 + 0 ≤ 601024; omega, by show ns + 0 + 0 ≤ 7293034; omega⟩) hDm hS hA (fun r2 u2 H locs hr2 hP hD hS => ?_)
  have hP : va_P D vwCl ([gO h0 lo (nI n) rv, gM m0 ar (nI n) rv 0, gR ar cI row, gQ ou cL f] ++ va_pl L (gE S)) H := hP
  have hD : va_D (fun q : Nat => s.heap.size ≤ q) ([gO h0 lo (nI n) rv, gM m0 ar (nI n) rv 0, gR ar cI row, gQ ou cL f] ++ va_pl L (gE S)) := hD
  have heq : r1 = r2 := by rw [hr1, hr2, b_ct hev (by decide)]
  refine lv_icmp_eq (tgt := 1021) hx hb dL_law_646 (by decide) (fun _ => ?_) (fun c9 => absurd heq c9)
  refine W.widen (k := kc + 6) (n := ns + 40) (by omega) (by omega) ?_
  exact hend P n rv 0 L S f row H locs ls hC hev hrow hP hD hS hl
set_option maxHeartbeats 4000000 in
set_option maxRecDepth 100000 in
theorem k_ranges {p : Program} {l : Launch} {e : Env} {s : State} {m : MethodId} {args : Array Value} {below : List Frame} {meth : Method} {c : Code} {Q : State → Prop} {D : va_G} {b Ls ix h0 m0 ar ou lo n kc ns : Nat} {xs : Nat → Int32} {cI cL : ClassId} {P : Nat → Int32} {rv tv : Int32} {L : List Nat} {S : gS} {f : Nat → Int64} {row : Nat → Int32} (hx : p.tables.exec = Jvm.exec) (hb : c.code = cL_law) (hml : c.maxLocals = 7) (hts : ∀ w ∈ wsL_law, w.before args s = true) (hown : s.vm.findClass RL = some m.cls) (hK : va_K D vwCl [(cI, .int), (cL, .long)] s) (hl9 : l.stackTraces = false) (hGL : gL (fun q : Nat => s.heap.size ≤ q) s) (hXs : va_X b Ls xs s s.heap) (hbl : b < s.heap.size) (hix : ix + 4 ≤ Ls) (hLs : Ls ≤ 2048) (hkc : kc + 6 ≤ 601024) (hns : ns + 40 ≤ 7293034) (hC : gCh P lo (L, S)) (hev : gEv P n) (hrow : gRow P n row) (H : Heap) (locs : List Loc) (ls : Array Slot) (hP : va_P D vwCl ([gO h0 lo (nI n) rv, gM m0 ar (nI n) rv tv, gR ar cI row, gQ ou cL f] ++ va_pl L (gE S)) H) (hD : va_D (fun q : Nat => s.heap.size ≤ q) ([gO h0 lo (nI n) rv, gM m0 ar (nI n) rv tv, gR ar cI row, gQ ou cL f] ++ va_pl L (gE S))) (hS : va_S (fun q : Nat => s.heap.size ≤ q) s.heap H locs) (hl : lv_has ls 7 [(0, .ref b), (1, .ref h0), (2, .ref m0), (3, .ref ou), (4, .int (nI ix))]) (hend : (∀ (P : Nat → Int32) (n : Nat) (rv tv : Int32) (L : List Nat) (S : gS) (f : Nat → Int64) (row : Nat → Int32) (H : Heap) (locs : List Loc) (ls : Array Slot), gCh P lo (L, S) → gEv P n → gRow P n row → va_P D vwCl ([gO h0 lo (nI n) rv, gM m0 ar (nI n) rv tv, gR ar cI row, gQ ou cL f] ++ va_pl L (gE S)) H → va_D (fun q : Nat => s.heap.size ≤ q) ([gO h0 lo (nI n) rv, gM m0 ar (nI n) rv tv, gR ar cI row, gQ ou cL f] ++ va_pl L (gE S)) → va_S (fun q : Nat => s.heap.size ≤ q) s.heap H locs → lv_has ls 7 [(0, .ref b), (1, .ref h0), (2, .ref m0), (3, .ref ou), (4, .int (nI ix))] → W p l e room_1 s m args below meth c H locs (kc + 6) (ns + 40) Q (F0 m 1021 ls []))) : W p l e room_1 s m args below meth c H locs kc ns Q (F0 m 651 ls []) := by
  have hA : ∀ q : Nat, s.heap.size ≤ q → (fun q : Nat => s.heap.size ≤ q) q := fun _ h => h
  have hbA : ¬ (fun q : Nat => s.heap.size ≤ q) b := Nat.not_le.mpr hbl
  obtain ⟨g9, hch9, hwf9, hmx9⟩ := id hC
  refine lv_aload_n hx hb dL_law_651 rfl (lv_at hl 1 rfl) ?_
  refine g_calli (va_runV (As := []) (rest := []) ⟨hx, hb, hml, hown, hts⟩ (c_rangesP l D [(cI, .int), (cL, .long)] [gO h0 lo (nI n) rv, gM m0 ar (nI n) rv tv, gR ar cI row, gQ ou cL f] L S H.size (i := 0) rfl hC (hev.2.2.1 0 (Or.inl rfl))) (cwV 0 hts gL_law_X1_ranges rfl rfl rfl (by decide +kernel) ⟨Nat.le_of_ble_eq_true rfl, Nat.le_of_ble_eq_true rfl⟩) (gP_V (va_recv hK hP (ci := 1) rfl (g_inX (X := [gO h0 lo (nI n) rv, gM m0 ar (nI n) rv tv, gR ar cI row, gQ ou cL f]) (i := 0) rfl)) hP hK hD gBl_N (fun U _ hW => hGL.1.1.warm hW)) rfl rfl hl.1 rfl (lv_room (Nat.le_of_ble_eq_true rfl)) dL_law_652 ⟨by show kc + 0 ≤ 601024; omega, by show ns + 0 ≤ 7293034; omega⟩) hD hS hA (fun r1 u1 H locs hr1 hP hD hS => ?_)
  refine lv_aload_n hx hb dL_law_655 rfl (lv_at hl 2 rfl) ?_
  have hPm : va_P D vwCl (wM ([gO h0 lo (nI n) rv, gM m0 ar (nI n) rv tv, gR ar cI row, gQ ou cL f] ++ va_pl L (gE S)) 1 2 m0 ar cI (nI n) rv tv row) H := hP
  have hDm : va_D (fun q : Nat => s.heap.size ≤ q) (wM ([gO h0 lo (nI n) rv, gM m0 ar (nI n) rv tv, gR ar cI row, gQ ou cL f] ++ va_pl L (gE S)) 1 2 m0 ar cI (nI n) rv tv row) := hD
  refine g_calli (va_runV (As := []) (rest := [.int r1]) ⟨hx, hb, hml, hown, hts⟩ (m_ranges l D [(cI, .int), (cL, .long)] (t := 0) rfl (w := [gO h0 lo (nI n) rv, gM m0 ar (nI n) rv tv, gR ar cI row, gQ ou cL f] ++ va_pl L (gE S)) (i := 1) (j := 2) (g_l4 (by omega)) (g_l4 (by omega)) (by decide) hev.2.1 hrow H.size (hev.2.2.1 0 (Or.inl rfl))) (cwV 0 hts gL_law_X2_ranges rfl rfl rfl (by decide +kernel) ⟨Nat.le_of_ble_eq_true rfl, Nat.le_of_ble_eq_true rfl⟩) (gP_V (va_recv hK hPm (ci := 2) rfl (gM_i (g_l4 (by omega)) (by decide))) hPm hK hDm gBl_T (fun _ _ _ => trivial)) rfl rfl hl.1 rfl (lv_room (Nat.le_of_ble_eq_true rfl)) dL_law_656 ⟨by show kc + 0 + 0 ≤ 601024; omega, by show ns + 0 + 0 ≤ 7293034; omega⟩) hDm hS hA (fun r2 u2 H locs hr2 hP hD hS => ?_)
  have hP : va_P D vwCl ([gO h0 lo (nI n) rv, gM m0 ar (nI n) rv 0, gR ar cI row, gQ ou cL f] ++ va_pl L (gE S)) H := hP
  have hD : va_D (fun q : Nat => s.heap.size ≤ q) ([gO h0 lo (nI n) rv, gM m0 ar (nI n) rv 0, gR ar cI row, gQ ou cL f] ++ va_pl L (gE S)) := hD
  have heq : r1 = r2 := by rw [hr1, hr2, b_bg hev (by decide)]
  refine lv_icmp_eq (tgt := 1021) hx hb dL_law_659 (by decide) (fun _ => ?_) (fun c9 => absurd heq c9)
  refine W.widen (k := kc + 6) (n := ns + 40) (by omega) (by omega) ?_
  exact hend P n rv 0 L S f row H locs ls hC hev hrow hP hD hS hl
set_option maxHeartbeats 4000000 in
set_option maxRecDepth 100000 in
theorem k_rangeFrom {p : Program} {l : Launch} {e : Env} {s : State} {m : MethodId} {args : Array Value} {below : List Frame} {meth : Method} {c : Code} {Q : State → Prop} {D : va_G} {b Ls ix h0 m0 ar ou lo n kc ns : Nat} {xs : Nat → Int32} {cI cL : ClassId} {P : Nat → Int32} {rv tv : Int32} {L : List Nat} {S : gS} {f : Nat → Int64} {row : Nat → Int32} (hx : p.tables.exec = Jvm.exec) (hb : c.code = cL_law) (hml : c.maxLocals = 7) (hts : ∀ w ∈ wsL_law, w.before args s = true) (hown : s.vm.findClass RL = some m.cls) (hK : va_K D vwCl [(cI, .int), (cL, .long)] s) (hl9 : l.stackTraces = false) (hGL : gL (fun q : Nat => s.heap.size ≤ q) s) (hXs : va_X b Ls xs s s.heap) (hbl : b < s.heap.size) (hix : ix + 4 ≤ Ls) (hLs : Ls ≤ 2048) (hkc : kc + 6 ≤ 601024) (hns : ns + 40 ≤ 7293034) (hC : gCh P lo (L, S)) (hev : gEv P n) (hrow : gRow P n row) (H : Heap) (locs : List Loc) (ls : Array Slot) (hP : va_P D vwCl ([gO h0 lo (nI n) rv, gM m0 ar (nI n) rv tv, gR ar cI row, gQ ou cL f] ++ va_pl L (gE S)) H) (hD : va_D (fun q : Nat => s.heap.size ≤ q) ([gO h0 lo (nI n) rv, gM m0 ar (nI n) rv tv, gR ar cI row, gQ ou cL f] ++ va_pl L (gE S))) (hS : va_S (fun q : Nat => s.heap.size ≤ q) s.heap H locs) (hl : lv_has ls 7 [(0, .ref b), (1, .ref h0), (2, .ref m0), (3, .ref ou), (4, .int (nI ix))]) (hend : (∀ (P : Nat → Int32) (n : Nat) (rv tv : Int32) (L : List Nat) (S : gS) (f : Nat → Int64) (row : Nat → Int32) (H : Heap) (locs : List Loc) (ls : Array Slot), gCh P lo (L, S) → gEv P n → gRow P n row → va_P D vwCl ([gO h0 lo (nI n) rv, gM m0 ar (nI n) rv tv, gR ar cI row, gQ ou cL f] ++ va_pl L (gE S)) H → va_D (fun q : Nat => s.heap.size ≤ q) ([gO h0 lo (nI n) rv, gM m0 ar (nI n) rv tv, gR ar cI row, gQ ou cL f] ++ va_pl L (gE S)) → va_S (fun q : Nat => s.heap.size ≤ q) s.heap H locs → lv_has ls 7 [(0, .ref b), (1, .ref h0), (2, .ref m0), (3, .ref ou), (4, .int (nI ix))] → W p l e room_1 s m args below meth c H locs (kc + 6) (ns + 40) Q (F0 m 1021 ls []))) : W p l e room_1 s m args below meth c H locs kc ns Q (F0 m 664 ls []) := by
  have hA : ∀ q : Nat, s.heap.size ≤ q → (fun q : Nat => s.heap.size ≤ q) q := fun _ h => h
  have hbA : ¬ (fun q : Nat => s.heap.size ≤ q) b := Nat.not_le.mpr hbl
  refine lv_aload_n hx hb dL_law_664 rfl (lv_at hl 1 rfl) ?_
  refine lv_aload_n hx hb dL_law_665 rfl (lv_at hl 0 rfl) ?_
  refine lv_iload hx hb dL_law_666 (lv_at hl 4 rfl) ?_
  refine lv_iconst (v := 1) hx hb dL_law_668 (by decide) ?_
  refine lv_iadd hx hb dL_law_669 ?_
  refine g_top (y := nI (ix + 1)) (nI_add _ _) ?_
  refine va_sld hx hb hXs hbl hbA hS (vp_in_nI (n := ix + 1) (by omega) (by omega)) dL_law_670 ?_
  refine g_top (y := xs (ix + 1)) (by rw [nI_clamp (by omega)]) ?_
  refine lv_aload_n hx hb dL_law_671 rfl (lv_at hl 3 rfl) ?_
  refine g_calli (vx_runSW (As := [.ref h0, .int (xs (ix + 1)), .ref ou]) (rest := []) ⟨hx, hb, hml, hown, hts⟩ (w_rangeFrom l hl9 D [(cI, .int), (cL, .long)] [gO h0 lo (nI n) rv, gM m0 ar (nI n) rv tv, gR ar cI row, gQ ou cL f] L S H.size (i := 0) (io := 3) (tl := 1) rfl rfl (by decide) rfl hC (xs (ix + 1)) (hev.2.2.1 0 (Or.inl rfl)) (hev.2.2.1 5001 (Or.inr (by have := hev.2.1; omega)))) (vx_cwSW 3 hts gL_law_L_rangeFrom rfl rfl rfl (by decide +kernel) ⟨Nat.le_of_ble_eq_true rfl, Nat.le_of_ble_eq_true rfl⟩) (gP_S hP hK hD gBl_L (fun U hU hW => hGL.call hS (gA_sub hD hS hA) U hU hW)) rfl rfl hl.1 rfl (lv_room (Nat.le_of_ble_eq_true rfl)) dL_law_672 ⟨by show kc + 1 ≤ 601024; omega, by show ns + 6 ≤ 7293034; omega⟩) hD hS hA (fun kC uC H locs hw hP hD hS => ?_)
  have hP : va_P D vwCl ([gO h0 lo uC.2.2.1 uC.2.2.2, gM m0 ar (nI n) rv tv, gR ar cI row, gQ ou cL uC.2.1] ++ va_pl uC.1.1 (gE uC.1.2)) H := hP
  have hD : va_D (fun q : Nat => s.heap.size ≤ q) ([gO h0 lo uC.2.2.1 uC.2.2.2, gM m0 ar (nI n) rv tv, gR ar cI row, gQ ou cL uC.2.1] ++ va_pl uC.1.1 (gE uC.1.2)) := hD
  refine lv_istore (lv' := [(5, .int kC), (0, .ref b), (1, .ref h0), (2, .ref m0), (3, .ref ou), (4, .int (nI ix))]) hx hb dL_law_675 hl (by decide) rfl (fun ls hl => ?_)
  refine lv_aload_n hx hb dL_law_677 rfl (lv_at hl 3 rfl) ?_
  refine lv_aload_n hx hb dL_law_678 rfl (lv_at hl 1 rfl) ?_
  refine lv_iload hx hb dL_law_679 (lv_at hl 5 rfl) ?_
  refine lv_iconst (v := 1) hx hb dL_law_681 (by decide) ?_
  refine lv_iadd hx hb dL_law_682 ?_
  refine g_top (y := nI (ix + 1)) (nI_add _ _) ?_
  refine va_sld hx hb hXs hbl hbA hS (vp_in_nI (n := ix + 1) (by omega) (by omega)) dL_law_683 ?_
  refine g_top (y := xs (ix + 1)) (by rw [nI_clamp (by omega)]) ?_
  have hPm : va_P D vwCl (wM ([gO h0 lo uC.2.2.1 uC.2.2.2, gM m0 ar (nI n) rv tv, gR ar cI row, gQ ou cL uC.2.1] ++ va_pl uC.1.1 (gE uC.1.2)) 1 2 m0 ar cI (nI n) rv tv row) H := hP
  have hDm : va_D (fun q : Nat => s.heap.size ≤ q) (wM ([gO h0 lo uC.2.2.1 uC.2.2.2, gM m0 ar (nI n) rv tv, gR ar cI row, gQ ou cL uC.2.1] ++ va_pl uC.1.1 (gE uC.1.2)) 1 2 m0 ar cI (nI n) rv tv row) := hD
  refine g_calli (va_runV (As := [.int (xs (ix + 1))]) (rest := []) ⟨hx, hb, hml, hown, hts⟩ (m_rangeFrom l D [(cI, .int), (cL, .long)] (t := 0) rfl (w := [gO h0 lo uC.2.2.1 uC.2.2.2, gM m0 ar (nI n) rv tv, gR ar cI row, gQ ou cL uC.2.1] ++ va_pl uC.1.1 (gE uC.1.2)) (i := 1) (j := 2) (g_l4 (by omega)) (g_l4 (by omega)) (by decide) hev.2.1 hrow H.size (by rw [hev.2.2.1 0 (Or.inl rfl)]; decide) (by have := hev.1; omega) (xs (ix + 1))) (cwV 1 hts gL_law_X2_rangeFrom rfl rfl rfl (by decide +kernel) ⟨Nat.le_of_ble_eq_true rfl, Nat.le_of_ble_eq_true rfl⟩) (gP_V (va_recv hK hPm (ci := 2) rfl (gM_i (g_l4 (by omega)) (by decide))) hPm hK hDm gBl_T (fun _ _ _ => trivial)) rfl rfl hl.1 rfl (lv_room (Nat.le_of_ble_eq_true rfl)) dL_law_684 ⟨by show kc + 1 + 0 ≤ 601024; omega, by show ns + 6 + 0 ≤ 7293034; omega⟩) hDm hS hA (fun bM uM H locs hm hP hD hS => ?_)
  have hP : va_P D vwCl ([gO h0 lo uC.2.2.1 uC.2.2.2, gM m0 ar (nI n) rv uM, gR ar cI row, gQ ou cL uC.2.1] ++ va_pl uC.1.1 (gE uC.1.2)) H := hP
  have hD : va_D (fun q : Nat => s.heap.size ≤ q) ([gO h0 lo uC.2.2.1 uC.2.2.2, gM m0 ar (nI n) rv uM, gR ar cI row, gQ ou cL uC.2.1] ++ va_pl uC.1.1 (gE uC.1.2)) := hD
  obtain ⟨hth, hval, P2, n2, hC2, hev2, hrow2, hs1, hs2, hs3⟩ := a_rangeFrom hev hrow hw hm
  rw [hs1, hs3] at hP hD
  have hP : va_P D vwCl ([gO h0 lo (nI n2) rv, gM m0 ar (nI n2) rv uM, gR ar cI row, gQ ou cL uC.2.1] ++ va_pl uC.1.1 (gE uC.1.2)) H := by rw [← hs2]; rw [← hs2] at hP; exact hP
  have hD : va_D (fun q : Nat => s.heap.size ≤ q) ([gO h0 lo (nI n2) rv, gM m0 ar (nI n2) rv uM, gR ar cI row, gQ ou cL uC.2.1] ++ va_pl uC.1.1 (gE uC.1.2)) := by rw [← hs2]; rw [← hs2] at hD; exact hD
  refine lv_istore (lv' := [(6, .int bM), (5, .int kC), (0, .ref b), (1, .ref h0), (2, .ref m0), (3, .ref ou), (4, .int (nI ix))]) hx hb dL_law_687 hl (by decide) rfl (fun ls hl => ?_)
  refine lv_aload_n hx hb dL_law_689 rfl (lv_at hl 4 rfl) ?_
  have hPm : va_P D vwCl (wM ([gO h0 lo (nI n2) rv, gM m0 ar (nI n2) rv uM, gR ar cI row, gQ ou cL uC.2.1] ++ va_pl uC.1.1 (gE uC.1.2)) 1 2 m0 ar cI (nI n2) rv uM row) H := hP
  have hDm : va_D (fun q : Nat => s.heap.size ≤ q) (wM ([gO h0 lo (nI n2) rv, gM m0 ar (nI n2) rv uM, gR ar cI row, gQ ou cL uC.2.1] ++ va_pl uC.1.1 (gE uC.1.2)) 1 2 m0 ar cI (nI n2) rv uM row) := hD
  refine g_calli (va_runV (As := []) (rest := []) ⟨hx, hb, hml, hown, hts⟩ (m_thrown l D [(cI, .int), (cL, .long)] (t := 0) rfl (w := [gO h0 lo (nI n2) rv, gM m0 ar (nI n2) rv uM, gR ar cI row, gQ ou cL uC.2.1] ++ va_pl uC.1.1 (gE uC.1.2)) (i := 1) (j := 2) (g_l4 (by omega)) (g_l4 (by omega)) (by decide) hev2.2.1 hrow2 H.size) (cwV 0 hts gL_law_X2_thrown rfl rfl rfl (by decide +kernel) ⟨Nat.le_of_ble_eq_true rfl, Nat.le_of_ble_eq_true rfl⟩) (gP_V (va_recv hK hPm (ci := 2) rfl (gM_i (g_l4 (by omega)) (by decide))) hPm hK hDm gBl_T (fun _ _ _ => trivial)) rfl rfl hl.1 rfl (lv_room (Nat.le_of_ble_eq_true rfl)) dL_law_690 ⟨by show kc + 1 + 0 + 0 ≤ 601024; omega, by show ns + 6 + 0 + 0 ≤ 7293034; omega⟩) hDm hS hA (fun r9 u9 H locs hr9 hP hD hS => ?_)
  have hP : va_P D vwCl ([gO h0 lo (nI n2) rv, gM m0 ar (nI n2) rv uM, gR ar cI row, gQ ou cL uC.2.1] ++ va_pl uC.1.1 (gE uC.1.2)) H := hP
  have hD : va_D (fun q : Nat => s.heap.size ≤ q) ([gO h0 lo (nI n2) rv, gM m0 ar (nI n2) rv uM, gR ar cI row, gQ ou cL uC.2.1] ++ va_pl uC.1.1 (gE uC.1.2)) := hD
  refine lv_iload hx hb dL_law_693 (lv_at hl 1 rfl) ?_
  refine lv_icmp_eq (tgt := 700) hx hb dL_law_695 (by decide) (fun _ => ?_) (fun c9 => absurd (hr9.trans hth) c9)
  refine lv_iload hx hb dL_law_700 (lv_at hl 1 rfl) ?_
  refine lv_if_ne (tgt := 717) hx hb dL_law_702 (by decide) (fun c1 => ?_) (fun c1 => ?_)
  · skip
    refine lv_goto (tgt := 1021) hx hb dL_law_717 (by decide) ?_
    refine W.widen (k := kc + 6) (n := ns + 40) (by omega) (by omega) ?_
    exact hend P2 n2 rv uM uC.1.1 uC.1.2 uC.2.1 row H locs ls hC2 hev2 hrow2 hP hD hS (lv_sub hl [2, 3, 4, 5, 6] rfl)
  · have hk0 : kC = 0 := by first | exact c1 | exact Classical.not_not.mp c1
    refine lv_aload_n hx hb dL_law_705 rfl (lv_at hl 5 rfl) ?_
    refine lv_iconst (v := 0) hx hb dL_law_706 (by decide) ?_
    refine va_lald hx hb hK hP 3 1 rfl rfl (vp_in_nI (n := 0) (N := 1) (by omega) (by omega)) dL_law_707 ?_
    refine lv_iload hx hb dL_law_708 (lv_at hl 0 rfl) ?_
    refine lv_i2l (v := bM.toInt64) hx hb dL_law_710 rfl ?_
    refine W.lcmp hx hb dL_law_711 ?_
    have hcmp : lg_cmp (uC.2.1 ((0 : Int32).toNatClampNeg)) bM.toInt64 = 0 := by rw [sb_cl0, hval hk0]; exact g_cmp0 _
    refine lv_if_eq (tgt := 717) hx hb dL_law_712 (by decide) (fun _ => ?_) (fun c9 => absurd hcmp c9)
    refine lv_goto (tgt := 1021) hx hb dL_law_717 (by decide) ?_
    refine W.widen (k := kc + 6) (n := ns + 40) (by omega) (by omega) ?_
    exact hend P2 n2 rv uM uC.1.1 uC.1.2 uC.2.1 row H locs ls hC2 hev2 hrow2 hP hD hS (lv_sub hl [2, 3, 4, 5, 6] rfl)
set_option maxHeartbeats 4000000 in
set_option maxRecDepth 100000 in
theorem k_rangeTo {p : Program} {l : Launch} {e : Env} {s : State} {m : MethodId} {args : Array Value} {below : List Frame} {meth : Method} {c : Code} {Q : State → Prop} {D : va_G} {b Ls ix h0 m0 ar ou lo n kc ns : Nat} {xs : Nat → Int32} {cI cL : ClassId} {P : Nat → Int32} {rv tv : Int32} {L : List Nat} {S : gS} {f : Nat → Int64} {row : Nat → Int32} (hx : p.tables.exec = Jvm.exec) (hb : c.code = cL_law) (hml : c.maxLocals = 7) (hts : ∀ w ∈ wsL_law, w.before args s = true) (hown : s.vm.findClass RL = some m.cls) (hK : va_K D vwCl [(cI, .int), (cL, .long)] s) (hl9 : l.stackTraces = false) (hGL : gL (fun q : Nat => s.heap.size ≤ q) s) (hXs : va_X b Ls xs s s.heap) (hbl : b < s.heap.size) (hix : ix + 4 ≤ Ls) (hLs : Ls ≤ 2048) (hkc : kc + 6 ≤ 601024) (hns : ns + 40 ≤ 7293034) (hC : gCh P lo (L, S)) (hev : gEv P n) (hrow : gRow P n row) (H : Heap) (locs : List Loc) (ls : Array Slot) (hP : va_P D vwCl ([gO h0 lo (nI n) rv, gM m0 ar (nI n) rv tv, gR ar cI row, gQ ou cL f] ++ va_pl L (gE S)) H) (hD : va_D (fun q : Nat => s.heap.size ≤ q) ([gO h0 lo (nI n) rv, gM m0 ar (nI n) rv tv, gR ar cI row, gQ ou cL f] ++ va_pl L (gE S))) (hS : va_S (fun q : Nat => s.heap.size ≤ q) s.heap H locs) (hl : lv_has ls 7 [(0, .ref b), (1, .ref h0), (2, .ref m0), (3, .ref ou), (4, .int (nI ix))]) (hend : (∀ (P : Nat → Int32) (n : Nat) (rv tv : Int32) (L : List Nat) (S : gS) (f : Nat → Int64) (row : Nat → Int32) (H : Heap) (locs : List Loc) (ls : Array Slot), gCh P lo (L, S) → gEv P n → gRow P n row → va_P D vwCl ([gO h0 lo (nI n) rv, gM m0 ar (nI n) rv tv, gR ar cI row, gQ ou cL f] ++ va_pl L (gE S)) H → va_D (fun q : Nat => s.heap.size ≤ q) ([gO h0 lo (nI n) rv, gM m0 ar (nI n) rv tv, gR ar cI row, gQ ou cL f] ++ va_pl L (gE S)) → va_S (fun q : Nat => s.heap.size ≤ q) s.heap H locs → lv_has ls 7 [(0, .ref b), (1, .ref h0), (2, .ref m0), (3, .ref ou), (4, .int (nI ix))] → W p l e room_1 s m args below meth c H locs (kc + 6) (ns + 40) Q (F0 m 1021 ls []))) : W p l e room_1 s m args below meth c H locs kc ns Q (F0 m 720 ls []) := by
  have hA : ∀ q : Nat, s.heap.size ≤ q → (fun q : Nat => s.heap.size ≤ q) q := fun _ h => h
  have hbA : ¬ (fun q : Nat => s.heap.size ≤ q) b := Nat.not_le.mpr hbl
  refine lv_aload_n hx hb dL_law_720 rfl (lv_at hl 1 rfl) ?_
  refine lv_aload_n hx hb dL_law_721 rfl (lv_at hl 0 rfl) ?_
  refine lv_iload hx hb dL_law_722 (lv_at hl 4 rfl) ?_
  refine lv_iconst (v := 1) hx hb dL_law_724 (by decide) ?_
  refine lv_iadd hx hb dL_law_725 ?_
  refine g_top (y := nI (ix + 1)) (nI_add _ _) ?_
  refine va_sld hx hb hXs hbl hbA hS (vp_in_nI (n := ix + 1) (by omega) (by omega)) dL_law_726 ?_
  refine g_top (y := xs (ix + 1)) (by rw [nI_clamp (by omega)]) ?_
  refine lv_aload_n hx hb dL_law_727 rfl (lv_at hl 3 rfl) ?_
  refine g_calli (vx_runSW (As := [.ref h0, .int (xs (ix + 1)), .ref ou]) (rest := []) ⟨hx, hb, hml, hown, hts⟩ (w_rangeTo l hl9 D [(cI, .int), (cL, .long)] [gO h0 lo (nI n) rv, gM m0 ar (nI n) rv tv, gR ar cI row, gQ ou cL f] L S H.size (i := 0) (io := 3) (tl := 1) rfl rfl (by decide) rfl hC (xs (ix + 1)) (hev.2.2.1 0 (Or.inl rfl)) (hev.2.2.1 5001 (Or.inr (by have := hev.2.1; omega)))) (vx_cwSW 3 hts gL_law_L_rangeTo rfl rfl rfl (by decide +kernel) ⟨Nat.le_of_ble_eq_true rfl, Nat.le_of_ble_eq_true rfl⟩) (gP_S hP hK hD gBl_L (fun U hU hW => hGL.call hS (gA_sub hD hS hA) U hU hW)) rfl rfl hl.1 rfl (lv_room (Nat.le_of_ble_eq_true rfl)) dL_law_728 ⟨by show kc + 1 ≤ 601024; omega, by show ns + 6 ≤ 7293034; omega⟩) hD hS hA (fun kC uC H locs hw hP hD hS => ?_)
  have hP : va_P D vwCl ([gO h0 lo uC.2.2.1 uC.2.2.2, gM m0 ar (nI n) rv tv, gR ar cI row, gQ ou cL uC.2.1] ++ va_pl uC.1.1 (gE uC.1.2)) H := hP
  have hD : va_D (fun q : Nat => s.heap.size ≤ q) ([gO h0 lo uC.2.2.1 uC.2.2.2, gM m0 ar (nI n) rv tv, gR ar cI row, gQ ou cL uC.2.1] ++ va_pl uC.1.1 (gE uC.1.2)) := hD
  refine lv_istore (lv' := [(5, .int kC), (0, .ref b), (1, .ref h0), (2, .ref m0), (3, .ref ou), (4, .int (nI ix))]) hx hb dL_law_731 hl (by decide) rfl (fun ls hl => ?_)
  refine lv_aload_n hx hb dL_law_733 rfl (lv_at hl 3 rfl) ?_
  refine lv_aload_n hx hb dL_law_734 rfl (lv_at hl 1 rfl) ?_
  refine lv_iload hx hb dL_law_735 (lv_at hl 5 rfl) ?_
  refine lv_iconst (v := 1) hx hb dL_law_737 (by decide) ?_
  refine lv_iadd hx hb dL_law_738 ?_
  refine g_top (y := nI (ix + 1)) (nI_add _ _) ?_
  refine va_sld hx hb hXs hbl hbA hS (vp_in_nI (n := ix + 1) (by omega) (by omega)) dL_law_739 ?_
  refine g_top (y := xs (ix + 1)) (by rw [nI_clamp (by omega)]) ?_
  have hPm : va_P D vwCl (wM ([gO h0 lo uC.2.2.1 uC.2.2.2, gM m0 ar (nI n) rv tv, gR ar cI row, gQ ou cL uC.2.1] ++ va_pl uC.1.1 (gE uC.1.2)) 1 2 m0 ar cI (nI n) rv tv row) H := hP
  have hDm : va_D (fun q : Nat => s.heap.size ≤ q) (wM ([gO h0 lo uC.2.2.1 uC.2.2.2, gM m0 ar (nI n) rv tv, gR ar cI row, gQ ou cL uC.2.1] ++ va_pl uC.1.1 (gE uC.1.2)) 1 2 m0 ar cI (nI n) rv tv row) := hD
  refine g_calli (va_runV (As := [.int (xs (ix + 1))]) (rest := []) ⟨hx, hb, hml, hown, hts⟩ (m_rangeTo l D [(cI, .int), (cL, .long)] (t := 0) rfl (w := [gO h0 lo uC.2.2.1 uC.2.2.2, gM m0 ar (nI n) rv tv, gR ar cI row, gQ ou cL uC.2.1] ++ va_pl uC.1.1 (gE uC.1.2)) (i := 1) (j := 2) (g_l4 (by omega)) (g_l4 (by omega)) (by decide) hev.2.1 hrow H.size (by rw [hev.2.2.1 (n + 1) (Or.inr (Nat.lt_succ_self n))]; decide) (by have := hev.1; omega) (xs (ix + 1))) (cwV 1 hts gL_law_X2_rangeTo rfl rfl rfl (by decide +kernel) ⟨Nat.le_of_ble_eq_true rfl, Nat.le_of_ble_eq_true rfl⟩) (gP_V (va_recv hK hPm (ci := 2) rfl (gM_i (g_l4 (by omega)) (by decide))) hPm hK hDm gBl_T (fun _ _ _ => trivial)) rfl rfl hl.1 rfl (lv_room (Nat.le_of_ble_eq_true rfl)) dL_law_740 ⟨by show kc + 1 + 0 ≤ 601024; omega, by show ns + 6 + 0 ≤ 7293034; omega⟩) hDm hS hA (fun bM uM H locs hm hP hD hS => ?_)
  have hP : va_P D vwCl ([gO h0 lo uC.2.2.1 uC.2.2.2, gM m0 ar (nI n) rv uM, gR ar cI row, gQ ou cL uC.2.1] ++ va_pl uC.1.1 (gE uC.1.2)) H := hP
  have hD : va_D (fun q : Nat => s.heap.size ≤ q) ([gO h0 lo uC.2.2.1 uC.2.2.2, gM m0 ar (nI n) rv uM, gR ar cI row, gQ ou cL uC.2.1] ++ va_pl uC.1.1 (gE uC.1.2)) := hD
  obtain ⟨hth, hval, P2, n2, hC2, hev2, hrow2, hs1, hs2, hs3⟩ := a_rangeTo hev hrow hw hm
  rw [hs1, hs3] at hP hD
  have hP : va_P D vwCl ([gO h0 lo (nI n2) rv, gM m0 ar (nI n2) rv uM, gR ar cI row, gQ ou cL uC.2.1] ++ va_pl uC.1.1 (gE uC.1.2)) H := by rw [← hs2]; rw [← hs2] at hP; exact hP
  have hD : va_D (fun q : Nat => s.heap.size ≤ q) ([gO h0 lo (nI n2) rv, gM m0 ar (nI n2) rv uM, gR ar cI row, gQ ou cL uC.2.1] ++ va_pl uC.1.1 (gE uC.1.2)) := by rw [← hs2]; rw [← hs2] at hD; exact hD
  refine lv_istore (lv' := [(6, .int bM), (5, .int kC), (0, .ref b), (1, .ref h0), (2, .ref m0), (3, .ref ou), (4, .int (nI ix))]) hx hb dL_law_743 hl (by decide) rfl (fun ls hl => ?_)
  refine lv_aload_n hx hb dL_law_745 rfl (lv_at hl 4 rfl) ?_
  have hPm : va_P D vwCl (wM ([gO h0 lo (nI n2) rv, gM m0 ar (nI n2) rv uM, gR ar cI row, gQ ou cL uC.2.1] ++ va_pl uC.1.1 (gE uC.1.2)) 1 2 m0 ar cI (nI n2) rv uM row) H := hP
  have hDm : va_D (fun q : Nat => s.heap.size ≤ q) (wM ([gO h0 lo (nI n2) rv, gM m0 ar (nI n2) rv uM, gR ar cI row, gQ ou cL uC.2.1] ++ va_pl uC.1.1 (gE uC.1.2)) 1 2 m0 ar cI (nI n2) rv uM row) := hD
  refine g_calli (va_runV (As := []) (rest := []) ⟨hx, hb, hml, hown, hts⟩ (m_thrown l D [(cI, .int), (cL, .long)] (t := 0) rfl (w := [gO h0 lo (nI n2) rv, gM m0 ar (nI n2) rv uM, gR ar cI row, gQ ou cL uC.2.1] ++ va_pl uC.1.1 (gE uC.1.2)) (i := 1) (j := 2) (g_l4 (by omega)) (g_l4 (by omega)) (by decide) hev2.2.1 hrow2 H.size) (cwV 0 hts gL_law_X2_thrown rfl rfl rfl (by decide +kernel) ⟨Nat.le_of_ble_eq_true rfl, Nat.le_of_ble_eq_true rfl⟩) (gP_V (va_recv hK hPm (ci := 2) rfl (gM_i (g_l4 (by omega)) (by decide))) hPm hK hDm gBl_T (fun _ _ _ => trivial)) rfl rfl hl.1 rfl (lv_room (Nat.le_of_ble_eq_true rfl)) dL_law_746 ⟨by show kc + 1 + 0 + 0 ≤ 601024; omega, by show ns + 6 + 0 + 0 ≤ 7293034; omega⟩) hDm hS hA (fun r9 u9 H locs hr9 hP hD hS => ?_)
  have hP : va_P D vwCl ([gO h0 lo (nI n2) rv, gM m0 ar (nI n2) rv uM, gR ar cI row, gQ ou cL uC.2.1] ++ va_pl uC.1.1 (gE uC.1.2)) H := hP
  have hD : va_D (fun q : Nat => s.heap.size ≤ q) ([gO h0 lo (nI n2) rv, gM m0 ar (nI n2) rv uM, gR ar cI row, gQ ou cL uC.2.1] ++ va_pl uC.1.1 (gE uC.1.2)) := hD
  refine lv_iload hx hb dL_law_749 (lv_at hl 1 rfl) ?_
  refine lv_icmp_eq (tgt := 756) hx hb dL_law_751 (by decide) (fun _ => ?_) (fun c9 => absurd (hr9.trans hth) c9)
  refine lv_iload hx hb dL_law_756 (lv_at hl 1 rfl) ?_
  refine lv_if_ne (tgt := 773) hx hb dL_law_758 (by decide) (fun c1 => ?_) (fun c1 => ?_)
  · skip
    refine lv_goto (tgt := 1021) hx hb dL_law_773 (by decide) ?_
    refine W.widen (k := kc + 6) (n := ns + 40) (by omega) (by omega) ?_
    exact hend P2 n2 rv uM uC.1.1 uC.1.2 uC.2.1 row H locs ls hC2 hev2 hrow2 hP hD hS (lv_sub hl [2, 3, 4, 5, 6] rfl)
  · have hk0 : kC = 0 := by first | exact c1 | exact Classical.not_not.mp c1
    refine lv_aload_n hx hb dL_law_761 rfl (lv_at hl 5 rfl) ?_
    refine lv_iconst (v := 0) hx hb dL_law_762 (by decide) ?_
    refine va_lald hx hb hK hP 3 1 rfl rfl (vp_in_nI (n := 0) (N := 1) (by omega) (by omega)) dL_law_763 ?_
    refine lv_iload hx hb dL_law_764 (lv_at hl 0 rfl) ?_
    refine lv_i2l (v := bM.toInt64) hx hb dL_law_766 rfl ?_
    refine W.lcmp hx hb dL_law_767 ?_
    have hcmp : lg_cmp (uC.2.1 ((0 : Int32).toNatClampNeg)) bM.toInt64 = 0 := by rw [sb_cl0, hval hk0]; exact g_cmp0 _
    refine lv_if_eq (tgt := 773) hx hb dL_law_768 (by decide) (fun _ => ?_) (fun c9 => absurd hcmp c9)
    refine lv_goto (tgt := 1021) hx hb dL_law_773 (by decide) ?_
    refine W.widen (k := kc + 6) (n := ns + 40) (by omega) (by omega) ?_
    exact hend P2 n2 rv uM uC.1.1 uC.1.2 uC.2.1 row H locs ls hC2 hev2 hrow2 hP hD hS (lv_sub hl [2, 3, 4, 5, 6] rfl)
set_option maxHeartbeats 4000000 in
set_option maxRecDepth 100000 in
theorem k_longestRange {p : Program} {l : Launch} {e : Env} {s : State} {m : MethodId} {args : Array Value} {below : List Frame} {meth : Method} {c : Code} {Q : State → Prop} {D : va_G} {b Ls ix h0 m0 ar ou lo n kc ns : Nat} {xs : Nat → Int32} {cI cL : ClassId} {P : Nat → Int32} {rv tv : Int32} {L : List Nat} {S : gS} {f : Nat → Int64} {row : Nat → Int32} (hx : p.tables.exec = Jvm.exec) (hb : c.code = cL_law) (hml : c.maxLocals = 7) (hts : ∀ w ∈ wsL_law, w.before args s = true) (hown : s.vm.findClass RL = some m.cls) (hK : va_K D vwCl [(cI, .int), (cL, .long)] s) (hl9 : l.stackTraces = false) (hGL : gL (fun q : Nat => s.heap.size ≤ q) s) (hXs : va_X b Ls xs s s.heap) (hbl : b < s.heap.size) (hix : ix + 4 ≤ Ls) (hLs : Ls ≤ 2048) (hkc : kc + 6 ≤ 601024) (hns : ns + 40 ≤ 7293034) (hC : gCh P lo (L, S)) (hev : gEv P n) (hrow : gRow P n row) (H : Heap) (locs : List Loc) (ls : Array Slot) (hP : va_P D vwCl ([gO h0 lo (nI n) rv, gM m0 ar (nI n) rv tv, gR ar cI row, gQ ou cL f] ++ va_pl L (gE S)) H) (hD : va_D (fun q : Nat => s.heap.size ≤ q) ([gO h0 lo (nI n) rv, gM m0 ar (nI n) rv tv, gR ar cI row, gQ ou cL f] ++ va_pl L (gE S))) (hS : va_S (fun q : Nat => s.heap.size ≤ q) s.heap H locs) (hl : lv_has ls 7 [(0, .ref b), (1, .ref h0), (2, .ref m0), (3, .ref ou), (4, .int (nI ix))]) (hend : (∀ (P : Nat → Int32) (n : Nat) (rv tv : Int32) (L : List Nat) (S : gS) (f : Nat → Int64) (row : Nat → Int32) (H : Heap) (locs : List Loc) (ls : Array Slot), gCh P lo (L, S) → gEv P n → gRow P n row → va_P D vwCl ([gO h0 lo (nI n) rv, gM m0 ar (nI n) rv tv, gR ar cI row, gQ ou cL f] ++ va_pl L (gE S)) H → va_D (fun q : Nat => s.heap.size ≤ q) ([gO h0 lo (nI n) rv, gM m0 ar (nI n) rv tv, gR ar cI row, gQ ou cL f] ++ va_pl L (gE S)) → va_S (fun q : Nat => s.heap.size ≤ q) s.heap H locs → lv_has ls 7 [(0, .ref b), (1, .ref h0), (2, .ref m0), (3, .ref ou), (4, .int (nI ix))] → W p l e room_1 s m args below meth c H locs (kc + 6) (ns + 40) Q (F0 m 1021 ls []))) : W p l e room_1 s m args below meth c H locs kc ns Q (F0 m 776 ls []) := by
  have hA : ∀ q : Nat, s.heap.size ≤ q → (fun q : Nat => s.heap.size ≤ q) q := fun _ h => h
  have hbA : ¬ (fun q : Nat => s.heap.size ≤ q) b := Nat.not_le.mpr hbl
  obtain ⟨g9, hch9, hwf9, hmx9⟩ := id hC
  refine lv_aload_n hx hb dL_law_776 rfl (lv_at hl 1 rfl) ?_
  refine g_calli (va_runV (As := []) (rest := []) ⟨hx, hb, hml, hown, hts⟩ (c_longest l D [(cI, .int), (cL, .long)] [gO h0 lo (nI n) rv, gM m0 ar (nI n) rv tv, gR ar cI row, gQ ou cL f] L S H.size (i := 0) rfl hwf9 hmx9 hch9 (hev.2.2.1 0 (Or.inl rfl))) (cwV 0 hts gL_law_X1_longestRange rfl rfl rfl (by decide +kernel) ⟨Nat.le_of_ble_eq_true rfl, Nat.le_of_ble_eq_true rfl⟩) (gP_V (va_recv hK hP (ci := 1) rfl (g_inX (X := [gO h0 lo (nI n) rv, gM m0 ar (nI n) rv tv, gR ar cI row, gQ ou cL f]) (i := 0) rfl)) hP hK hD gBl_N (fun U _ hW => hGL.1.1.warm hW)) rfl rfl hl.1 rfl (lv_room (Nat.le_of_ble_eq_true rfl)) dL_law_777 ⟨by show kc + 0 ≤ 601024; omega, by show ns + 0 ≤ 7293034; omega⟩) hD hS hA (fun r1 u1 H locs hr1 hP hD hS => ?_)
  refine lv_aload_n hx hb dL_law_780 rfl (lv_at hl 2 rfl) ?_
  have hPm : va_P D vwCl (wM ([gO h0 lo (nI n) rv, gM m0 ar (nI n) rv tv, gR ar cI row, gQ ou cL f] ++ va_pl L (gE S)) 1 2 m0 ar cI (nI n) rv tv row) H := hP
  have hDm : va_D (fun q : Nat => s.heap.size ≤ q) (wM ([gO h0 lo (nI n) rv, gM m0 ar (nI n) rv tv, gR ar cI row, gQ ou cL f] ++ va_pl L (gE S)) 1 2 m0 ar cI (nI n) rv tv row) := hD
  refine g_calli (va_runV (As := []) (rest := [.int r1]) ⟨hx, hb, hml, hown, hts⟩ (m_longestRange l D [(cI, .int), (cL, .long)] (t := 0) rfl (w := [gO h0 lo (nI n) rv, gM m0 ar (nI n) rv tv, gR ar cI row, gQ ou cL f] ++ va_pl L (gE S)) (i := 1) (j := 2) (g_l4 (by omega)) (g_l4 (by omega)) (by decide) hev.2.1 hrow H.size (by rw [hev.2.2.1 0 (Or.inl rfl)]; decide)) (cwV 0 hts gL_law_X2_longestRange rfl rfl rfl (by decide +kernel) ⟨Nat.le_of_ble_eq_true rfl, Nat.le_of_ble_eq_true rfl⟩) (gP_V (va_recv hK hPm (ci := 2) rfl (gM_i (g_l4 (by omega)) (by decide))) hPm hK hDm gBl_T (fun _ _ _ => trivial)) rfl rfl hl.1 rfl (lv_room (Nat.le_of_ble_eq_true rfl)) dL_law_781 ⟨by show kc + 0 + 0 ≤ 601024; omega, by show ns + 0 + 0 ≤ 7293034; omega⟩) hDm hS hA (fun r2 u2 H locs hr2 hP hD hS => ?_)
  have hP : va_P D vwCl ([gO h0 lo (nI n) rv, gM m0 ar (nI n) rv 0, gR ar cI row, gQ ou cL f] ++ va_pl L (gE S)) H := hP
  have hD : va_D (fun q : Nat => s.heap.size ≤ q) ([gO h0 lo (nI n) rv, gM m0 ar (nI n) rv 0, gR ar cI row, gQ ou cL f] ++ va_pl L (gE S)) := hD
  have heq : r1 = r2 := by rw [hr1, hr2, b_lg hev]
  refine lv_icmp_eq (tgt := 1021) hx hb dL_law_784 (by decide) (fun _ => ?_) (fun c9 => absurd heq c9)
  refine W.widen (k := kc + 6) (n := ns + 40) (by omega) (by omega) ?_
  exact hend P n rv 0 L S f row H locs ls hC hev hrow hP hD hS hl
set_option maxHeartbeats 4000000 in
set_option maxRecDepth 100000 in
theorem k_inGoblet {p : Program} {l : Launch} {e : Env} {s : State} {m : MethodId} {args : Array Value} {below : List Frame} {meth : Method} {c : Code} {Q : State → Prop} {D : va_G} {b Ls ix h0 m0 ar ou lo n kc ns : Nat} {xs : Nat → Int32} {cI cL : ClassId} {P : Nat → Int32} {rv tv : Int32} {L : List Nat} {S : gS} {f : Nat → Int64} {row : Nat → Int32} (hx : p.tables.exec = Jvm.exec) (hb : c.code = cL_law) (hml : c.maxLocals = 7) (hts : ∀ w ∈ wsL_law, w.before args s = true) (hown : s.vm.findClass RL = some m.cls) (hK : va_K D vwCl [(cI, .int), (cL, .long)] s) (hl9 : l.stackTraces = false) (hGL : gL (fun q : Nat => s.heap.size ≤ q) s) (hXs : va_X b Ls xs s s.heap) (hbl : b < s.heap.size) (hix : ix + 4 ≤ Ls) (hLs : Ls ≤ 2048) (hkc : kc + 6 ≤ 601024) (hns : ns + 40 ≤ 7293034) (hC : gCh P lo (L, S)) (hev : gEv P n) (hrow : gRow P n row) (H : Heap) (locs : List Loc) (ls : Array Slot) (hP : va_P D vwCl ([gO h0 lo (nI n) rv, gM m0 ar (nI n) rv tv, gR ar cI row, gQ ou cL f] ++ va_pl L (gE S)) H) (hD : va_D (fun q : Nat => s.heap.size ≤ q) ([gO h0 lo (nI n) rv, gM m0 ar (nI n) rv tv, gR ar cI row, gQ ou cL f] ++ va_pl L (gE S))) (hS : va_S (fun q : Nat => s.heap.size ≤ q) s.heap H locs) (hl : lv_has ls 7 [(0, .ref b), (1, .ref h0), (2, .ref m0), (3, .ref ou), (4, .int (nI ix))]) (hend : (∀ (P : Nat → Int32) (n : Nat) (rv tv : Int32) (L : List Nat) (S : gS) (f : Nat → Int64) (row : Nat → Int32) (H : Heap) (locs : List Loc) (ls : Array Slot), gCh P lo (L, S) → gEv P n → gRow P n row → va_P D vwCl ([gO h0 lo (nI n) rv, gM m0 ar (nI n) rv tv, gR ar cI row, gQ ou cL f] ++ va_pl L (gE S)) H → va_D (fun q : Nat => s.heap.size ≤ q) ([gO h0 lo (nI n) rv, gM m0 ar (nI n) rv tv, gR ar cI row, gQ ou cL f] ++ va_pl L (gE S)) → va_S (fun q : Nat => s.heap.size ≤ q) s.heap H locs → lv_has ls 7 [(0, .ref b), (1, .ref h0), (2, .ref m0), (3, .ref ou), (4, .int (nI ix))] → W p l e room_1 s m args below meth c H locs (kc + 6) (ns + 40) Q (F0 m 1021 ls []))) : W p l e room_1 s m args below meth c H locs kc ns Q (F0 m 789 ls []) := by
  have hA : ∀ q : Nat, s.heap.size ≤ q → (fun q : Nat => s.heap.size ≤ q) q := fun _ h => h
  have hbA : ¬ (fun q : Nat => s.heap.size ≤ q) b := Nat.not_le.mpr hbl
  refine lv_aload_n hx hb dL_law_789 rfl (lv_at hl 1 rfl) ?_
  refine lv_aload_n hx hb dL_law_790 rfl (lv_at hl 0 rfl) ?_
  refine lv_iload hx hb dL_law_791 (lv_at hl 4 rfl) ?_
  refine lv_iconst (v := 1) hx hb dL_law_793 (by decide) ?_
  refine lv_iadd hx hb dL_law_794 ?_
  refine g_top (y := nI (ix + 1)) (nI_add _ _) ?_
  refine va_sld hx hb hXs hbl hbA hS (vp_in_nI (n := ix + 1) (by omega) (by omega)) dL_law_795 ?_
  refine g_top (y := xs (ix + 1)) (by rw [nI_clamp (by omega)]) ?_
  refine lv_aload_n hx hb dL_law_796 rfl (lv_at hl 3 rfl) ?_
  refine g_calli (vx_runSW (As := [.ref h0, .int (xs (ix + 1)), .ref ou]) (rest := []) ⟨hx, hb, hml, hown, hts⟩ (w_inGoblet l hl9 D [(cI, .int), (cL, .long)] [gO h0 lo (nI n) rv, gM m0 ar (nI n) rv tv, gR ar cI row, gQ ou cL f] L S H.size (i := 0) (io := 3) (tl := 1) rfl rfl (by decide) rfl hC (xs (ix + 1))) (vx_cwSW 3 hts gL_law_L_inGoblet rfl rfl rfl (by decide +kernel) ⟨Nat.le_of_ble_eq_true rfl, Nat.le_of_ble_eq_true rfl⟩) (gP_S hP hK hD gBl_L (fun U hU hW => hGL.call hS (gA_sub hD hS hA) U hU hW)) rfl rfl hl.1 rfl (lv_room (Nat.le_of_ble_eq_true rfl)) dL_law_797 ⟨by show kc + 1 ≤ 601024; omega, by show ns + 6 ≤ 7293034; omega⟩) hD hS hA (fun kC uC H locs hw hP hD hS => ?_)
  have hP : va_P D vwCl ([gO h0 lo uC.2.2.1 uC.2.2.2, gM m0 ar (nI n) rv tv, gR ar cI row, gQ ou cL uC.2.1] ++ va_pl uC.1.1 (gE uC.1.2)) H := hP
  have hD : va_D (fun q : Nat => s.heap.size ≤ q) ([gO h0 lo uC.2.2.1 uC.2.2.2, gM m0 ar (nI n) rv tv, gR ar cI row, gQ ou cL uC.2.1] ++ va_pl uC.1.1 (gE uC.1.2)) := hD
  refine lv_istore (lv' := [(5, .int kC), (0, .ref b), (1, .ref h0), (2, .ref m0), (3, .ref ou), (4, .int (nI ix))]) hx hb dL_law_800 hl (by decide) rfl (fun ls hl => ?_)
  refine lv_aload_n hx hb dL_law_802 rfl (lv_at hl 3 rfl) ?_
  refine lv_aload_n hx hb dL_law_803 rfl (lv_at hl 1 rfl) ?_
  refine lv_iload hx hb dL_law_804 (lv_at hl 5 rfl) ?_
  refine lv_iconst (v := 1) hx hb dL_law_806 (by decide) ?_
  refine lv_iadd hx hb dL_law_807 ?_
  refine g_top (y := nI (ix + 1)) (nI_add _ _) ?_
  refine va_sld hx hb hXs hbl hbA hS (vp_in_nI (n := ix + 1) (by omega) (by omega)) dL_law_808 ?_
  refine g_top (y := xs (ix + 1)) (by rw [nI_clamp (by omega)]) ?_
  have hPm : va_P D vwCl (wM ([gO h0 lo uC.2.2.1 uC.2.2.2, gM m0 ar (nI n) rv tv, gR ar cI row, gQ ou cL uC.2.1] ++ va_pl uC.1.1 (gE uC.1.2)) 1 2 m0 ar cI (nI n) rv tv row) H := hP
  have hDm : va_D (fun q : Nat => s.heap.size ≤ q) (wM ([gO h0 lo uC.2.2.1 uC.2.2.2, gM m0 ar (nI n) rv tv, gR ar cI row, gQ ou cL uC.2.1] ++ va_pl uC.1.1 (gE uC.1.2)) 1 2 m0 ar cI (nI n) rv tv row) := hD
  refine g_calli (va_runV (As := [.int (xs (ix + 1))]) (rest := []) ⟨hx, hb, hml, hown, hts⟩ (m_inGoblet l D [(cI, .int), (cL, .long)] (t := 0) rfl (w := [gO h0 lo uC.2.2.1 uC.2.2.2, gM m0 ar (nI n) rv tv, gR ar cI row, gQ ou cL uC.2.1] ++ va_pl uC.1.1 (gE uC.1.2)) (i := 1) (j := 2) (g_l4 (by omega)) (g_l4 (by omega)) (by decide) hev.2.1 hrow H.size (xs (ix + 1))) (cwV 1 hts gL_law_X2_inGoblet rfl rfl rfl (by decide +kernel) ⟨Nat.le_of_ble_eq_true rfl, Nat.le_of_ble_eq_true rfl⟩) (gP_V (va_recv hK hPm (ci := 2) rfl (gM_i (g_l4 (by omega)) (by decide))) hPm hK hDm gBl_T (fun _ _ _ => trivial)) rfl rfl hl.1 rfl (lv_room (Nat.le_of_ble_eq_true rfl)) dL_law_809 ⟨by show kc + 1 + 0 ≤ 601024; omega, by show ns + 6 + 0 ≤ 7293034; omega⟩) hDm hS hA (fun bM uM H locs hm hP hD hS => ?_)
  have hP : va_P D vwCl ([gO h0 lo uC.2.2.1 uC.2.2.2, gM m0 ar (nI n) rv uM, gR ar cI row, gQ ou cL uC.2.1] ++ va_pl uC.1.1 (gE uC.1.2)) H := hP
  have hD : va_D (fun q : Nat => s.heap.size ≤ q) ([gO h0 lo uC.2.2.1 uC.2.2.2, gM m0 ar (nI n) rv uM, gR ar cI row, gQ ou cL uC.2.1] ++ va_pl uC.1.1 (gE uC.1.2)) := hD
  obtain ⟨hth, hval, P2, n2, hC2, hev2, hrow2, hs1, hs2, hs3⟩ := a_inGoblet hev hrow hw hm
  rw [hs1, hs3] at hP hD
  have hP : va_P D vwCl ([gO h0 lo (nI n2) rv, gM m0 ar (nI n2) rv uM, gR ar cI row, gQ ou cL uC.2.1] ++ va_pl uC.1.1 (gE uC.1.2)) H := by rw [← hs2]; rw [← hs2] at hP; exact hP
  have hD : va_D (fun q : Nat => s.heap.size ≤ q) ([gO h0 lo (nI n2) rv, gM m0 ar (nI n2) rv uM, gR ar cI row, gQ ou cL uC.2.1] ++ va_pl uC.1.1 (gE uC.1.2)) := by rw [← hs2]; rw [← hs2] at hD; exact hD
  refine lv_istore (lv' := [(6, .int bM), (5, .int kC), (0, .ref b), (1, .ref h0), (2, .ref m0), (3, .ref ou), (4, .int (nI ix))]) hx hb dL_law_812 hl (by decide) rfl (fun ls hl => ?_)
  refine lv_aload_n hx hb dL_law_814 rfl (lv_at hl 4 rfl) ?_
  have hPm : va_P D vwCl (wM ([gO h0 lo (nI n2) rv, gM m0 ar (nI n2) rv uM, gR ar cI row, gQ ou cL uC.2.1] ++ va_pl uC.1.1 (gE uC.1.2)) 1 2 m0 ar cI (nI n2) rv uM row) H := hP
  have hDm : va_D (fun q : Nat => s.heap.size ≤ q) (wM ([gO h0 lo (nI n2) rv, gM m0 ar (nI n2) rv uM, gR ar cI row, gQ ou cL uC.2.1] ++ va_pl uC.1.1 (gE uC.1.2)) 1 2 m0 ar cI (nI n2) rv uM row) := hD
  refine g_calli (va_runV (As := []) (rest := []) ⟨hx, hb, hml, hown, hts⟩ (m_thrown l D [(cI, .int), (cL, .long)] (t := 0) rfl (w := [gO h0 lo (nI n2) rv, gM m0 ar (nI n2) rv uM, gR ar cI row, gQ ou cL uC.2.1] ++ va_pl uC.1.1 (gE uC.1.2)) (i := 1) (j := 2) (g_l4 (by omega)) (g_l4 (by omega)) (by decide) hev2.2.1 hrow2 H.size) (cwV 0 hts gL_law_X2_thrown rfl rfl rfl (by decide +kernel) ⟨Nat.le_of_ble_eq_true rfl, Nat.le_of_ble_eq_true rfl⟩) (gP_V (va_recv hK hPm (ci := 2) rfl (gM_i (g_l4 (by omega)) (by decide))) hPm hK hDm gBl_T (fun _ _ _ => trivial)) rfl rfl hl.1 rfl (lv_room (Nat.le_of_ble_eq_true rfl)) dL_law_815 ⟨by show kc + 1 + 0 + 0 ≤ 601024; omega, by show ns + 6 + 0 + 0 ≤ 7293034; omega⟩) hDm hS hA (fun r9 u9 H locs hr9 hP hD hS => ?_)
  have hP : va_P D vwCl ([gO h0 lo (nI n2) rv, gM m0 ar (nI n2) rv uM, gR ar cI row, gQ ou cL uC.2.1] ++ va_pl uC.1.1 (gE uC.1.2)) H := hP
  have hD : va_D (fun q : Nat => s.heap.size ≤ q) ([gO h0 lo (nI n2) rv, gM m0 ar (nI n2) rv uM, gR ar cI row, gQ ou cL uC.2.1] ++ va_pl uC.1.1 (gE uC.1.2)) := hD
  refine lv_iload hx hb dL_law_818 (lv_at hl 1 rfl) ?_
  refine lv_icmp_eq (tgt := 825) hx hb dL_law_820 (by decide) (fun _ => ?_) (fun c9 => absurd (hr9.trans hth) c9)
  refine lv_iload hx hb dL_law_825 (lv_at hl 1 rfl) ?_
  refine lv_if_ne (tgt := 842) hx hb dL_law_827 (by decide) (fun c1 => ?_) (fun c1 => ?_)
  · skip
    refine lv_goto (tgt := 1021) hx hb dL_law_842 (by decide) ?_
    refine W.widen (k := kc + 6) (n := ns + 40) (by omega) (by omega) ?_
    exact hend P2 n2 rv uM uC.1.1 uC.1.2 uC.2.1 row H locs ls hC2 hev2 hrow2 hP hD hS (lv_sub hl [2, 3, 4, 5, 6] rfl)
  · have hk0 : kC = 0 := by first | exact c1 | exact Classical.not_not.mp c1
    refine lv_aload_n hx hb dL_law_830 rfl (lv_at hl 5 rfl) ?_
    refine lv_iconst (v := 0) hx hb dL_law_831 (by decide) ?_
    refine va_lald hx hb hK hP 3 1 rfl rfl (vp_in_nI (n := 0) (N := 1) (by omega) (by omega)) dL_law_832 ?_
    refine lv_iload hx hb dL_law_833 (lv_at hl 0 rfl) ?_
    refine lv_i2l (v := bM.toInt64) hx hb dL_law_835 rfl ?_
    refine W.lcmp hx hb dL_law_836 ?_
    have hcmp : lg_cmp (uC.2.1 ((0 : Int32).toNatClampNeg)) bM.toInt64 = 0 := by rw [sb_cl0, hval hk0]; exact g_cmp0 _
    refine lv_if_eq (tgt := 842) hx hb dL_law_837 (by decide) (fun _ => ?_) (fun c9 => absurd hcmp c9)
    refine lv_goto (tgt := 1021) hx hb dL_law_842 (by decide) ?_
    refine W.widen (k := kc + 6) (n := ns + 40) (by omega) (by omega) ?_
    exact hend P2 n2 rv uM uC.1.1 uC.1.2 uC.2.1 row H locs ls hC2 hev2 hrow2 hP hD hS (lv_sub hl [2, 3, 4, 5, 6] rfl)
set_option maxHeartbeats 4000000 in
set_option maxRecDepth 100000 in
theorem k_rangesOf {p : Program} {l : Launch} {e : Env} {s : State} {m : MethodId} {args : Array Value} {below : List Frame} {meth : Method} {c : Code} {Q : State → Prop} {D : va_G} {b Ls ix h0 m0 ar ou lo n kc ns : Nat} {xs : Nat → Int32} {cI cL : ClassId} {P : Nat → Int32} {rv tv : Int32} {L : List Nat} {S : gS} {f : Nat → Int64} {row : Nat → Int32} (hx : p.tables.exec = Jvm.exec) (hb : c.code = cL_law) (hml : c.maxLocals = 7) (hts : ∀ w ∈ wsL_law, w.before args s = true) (hown : s.vm.findClass RL = some m.cls) (hK : va_K D vwCl [(cI, .int), (cL, .long)] s) (hl9 : l.stackTraces = false) (hGL : gL (fun q : Nat => s.heap.size ≤ q) s) (hXs : va_X b Ls xs s s.heap) (hbl : b < s.heap.size) (hix : ix + 4 ≤ Ls) (hLs : Ls ≤ 2048) (hkc : kc + 6 ≤ 601024) (hns : ns + 40 ≤ 7293034) (hC : gCh P lo (L, S)) (hev : gEv P n) (hrow : gRow P n row) (H : Heap) (locs : List Loc) (ls : Array Slot) (hP : va_P D vwCl ([gO h0 lo (nI n) rv, gM m0 ar (nI n) rv tv, gR ar cI row, gQ ou cL f] ++ va_pl L (gE S)) H) (hD : va_D (fun q : Nat => s.heap.size ≤ q) ([gO h0 lo (nI n) rv, gM m0 ar (nI n) rv tv, gR ar cI row, gQ ou cL f] ++ va_pl L (gE S))) (hS : va_S (fun q : Nat => s.heap.size ≤ q) s.heap H locs) (hl : lv_has ls 7 [(0, .ref b), (1, .ref h0), (2, .ref m0), (3, .ref ou), (4, .int (nI ix))]) (hend : (∀ (P : Nat → Int32) (n : Nat) (rv tv : Int32) (L : List Nat) (S : gS) (f : Nat → Int64) (row : Nat → Int32) (H : Heap) (locs : List Loc) (ls : Array Slot), gCh P lo (L, S) → gEv P n → gRow P n row → va_P D vwCl ([gO h0 lo (nI n) rv, gM m0 ar (nI n) rv tv, gR ar cI row, gQ ou cL f] ++ va_pl L (gE S)) H → va_D (fun q : Nat => s.heap.size ≤ q) ([gO h0 lo (nI n) rv, gM m0 ar (nI n) rv tv, gR ar cI row, gQ ou cL f] ++ va_pl L (gE S)) → va_S (fun q : Nat => s.heap.size ≤ q) s.heap H locs → lv_has ls 7 [(0, .ref b), (1, .ref h0), (2, .ref m0), (3, .ref ou), (4, .int (nI ix))] → W p l e room_1 s m args below meth c H locs (kc + 6) (ns + 40) Q (F0 m 1021 ls []))) : W p l e room_1 s m args below meth c H locs kc ns Q (F0 m 845 ls []) := by
  have hA : ∀ q : Nat, s.heap.size ≤ q → (fun q : Nat => s.heap.size ≤ q) q := fun _ h => h
  have hbA : ¬ (fun q : Nat => s.heap.size ≤ q) b := Nat.not_le.mpr hbl
  refine lv_aload_n hx hb dL_law_845 rfl (lv_at hl 1 rfl) ?_
  refine lv_aload_n hx hb dL_law_846 rfl (lv_at hl 0 rfl) ?_
  refine lv_iload hx hb dL_law_847 (lv_at hl 4 rfl) ?_
  refine lv_iconst (v := 1) hx hb dL_law_849 (by decide) ?_
  refine lv_iadd hx hb dL_law_850 ?_
  refine g_top (y := nI (ix + 1)) (nI_add _ _) ?_
  refine va_sld hx hb hXs hbl hbA hS (vp_in_nI (n := ix + 1) (by omega) (by omega)) dL_law_851 ?_
  refine g_top (y := xs (ix + 1)) (by rw [nI_clamp (by omega)]) ?_
  refine lv_aload_n hx hb dL_law_852 rfl (lv_at hl 3 rfl) ?_
  refine g_calli (vx_runSW (As := [.ref h0, .int (xs (ix + 1)), .ref ou]) (rest := []) ⟨hx, hb, hml, hown, hts⟩ (w_rangesOf l hl9 D [(cI, .int), (cL, .long)] [gO h0 lo (nI n) rv, gM m0 ar (nI n) rv tv, gR ar cI row, gQ ou cL f] L S H.size (i := 0) (io := 3) (tl := 1) rfl rfl (by decide) rfl hC (xs (ix + 1)) (hev.2.2.1 0 (Or.inl rfl))) (vx_cwSW 3 hts gL_law_L_rangesOf rfl rfl rfl (by decide +kernel) ⟨Nat.le_of_ble_eq_true rfl, Nat.le_of_ble_eq_true rfl⟩) (gP_S hP hK hD gBl_L (fun U hU hW => hGL.call hS (gA_sub hD hS hA) U hU hW)) rfl rfl hl.1 rfl (lv_room (Nat.le_of_ble_eq_true rfl)) dL_law_853 ⟨by show kc + 1 ≤ 601024; omega, by show ns + 6 ≤ 7293034; omega⟩) hD hS hA (fun kC uC H locs hw hP hD hS => ?_)
  have hP : va_P D vwCl ([gO h0 lo uC.2.2.1 uC.2.2.2, gM m0 ar (nI n) rv tv, gR ar cI row, gQ ou cL uC.2.1] ++ va_pl uC.1.1 (gE uC.1.2)) H := hP
  have hD : va_D (fun q : Nat => s.heap.size ≤ q) ([gO h0 lo uC.2.2.1 uC.2.2.2, gM m0 ar (nI n) rv tv, gR ar cI row, gQ ou cL uC.2.1] ++ va_pl uC.1.1 (gE uC.1.2)) := hD
  refine lv_istore (lv' := [(5, .int kC), (0, .ref b), (1, .ref h0), (2, .ref m0), (3, .ref ou), (4, .int (nI ix))]) hx hb dL_law_856 hl (by decide) rfl (fun ls hl => ?_)
  refine lv_aload_n hx hb dL_law_858 rfl (lv_at hl 3 rfl) ?_
  refine lv_aload_n hx hb dL_law_859 rfl (lv_at hl 1 rfl) ?_
  refine lv_iload hx hb dL_law_860 (lv_at hl 5 rfl) ?_
  refine lv_iconst (v := 1) hx hb dL_law_862 (by decide) ?_
  refine lv_iadd hx hb dL_law_863 ?_
  refine g_top (y := nI (ix + 1)) (nI_add _ _) ?_
  refine va_sld hx hb hXs hbl hbA hS (vp_in_nI (n := ix + 1) (by omega) (by omega)) dL_law_864 ?_
  refine g_top (y := xs (ix + 1)) (by rw [nI_clamp (by omega)]) ?_
  have hPm : va_P D vwCl (wM ([gO h0 lo uC.2.2.1 uC.2.2.2, gM m0 ar (nI n) rv tv, gR ar cI row, gQ ou cL uC.2.1] ++ va_pl uC.1.1 (gE uC.1.2)) 1 2 m0 ar cI (nI n) rv tv row) H := hP
  have hDm : va_D (fun q : Nat => s.heap.size ≤ q) (wM ([gO h0 lo uC.2.2.1 uC.2.2.2, gM m0 ar (nI n) rv tv, gR ar cI row, gQ ou cL uC.2.1] ++ va_pl uC.1.1 (gE uC.1.2)) 1 2 m0 ar cI (nI n) rv tv row) := hD
  refine g_calli (va_runV (As := [.int (xs (ix + 1))]) (rest := []) ⟨hx, hb, hml, hown, hts⟩ (m_rangesOf l D [(cI, .int), (cL, .long)] (t := 0) rfl (w := [gO h0 lo uC.2.2.1 uC.2.2.2, gM m0 ar (nI n) rv tv, gR ar cI row, gQ ou cL uC.2.1] ++ va_pl uC.1.1 (gE uC.1.2)) (i := 1) (j := 2) (g_l4 (by omega)) (g_l4 (by omega)) (by decide) hev.2.1 hrow H.size (xs (ix + 1)) (hev.2.2.1 0 (Or.inl rfl))) (cwV 1 hts gL_law_X2_rangesOf rfl rfl rfl (by decide +kernel) ⟨Nat.le_of_ble_eq_true rfl, Nat.le_of_ble_eq_true rfl⟩) (gP_V (va_recv hK hPm (ci := 2) rfl (gM_i (g_l4 (by omega)) (by decide))) hPm hK hDm gBl_T (fun _ _ _ => trivial)) rfl rfl hl.1 rfl (lv_room (Nat.le_of_ble_eq_true rfl)) dL_law_865 ⟨by show kc + 1 + 0 ≤ 601024; omega, by show ns + 6 + 0 ≤ 7293034; omega⟩) hDm hS hA (fun bM uM H locs hm hP hD hS => ?_)
  have hP : va_P D vwCl ([gO h0 lo uC.2.2.1 uC.2.2.2, gM m0 ar (nI n) rv uM, gR ar cI row, gQ ou cL uC.2.1] ++ va_pl uC.1.1 (gE uC.1.2)) H := hP
  have hD : va_D (fun q : Nat => s.heap.size ≤ q) ([gO h0 lo uC.2.2.1 uC.2.2.2, gM m0 ar (nI n) rv uM, gR ar cI row, gQ ou cL uC.2.1] ++ va_pl uC.1.1 (gE uC.1.2)) := hD
  obtain ⟨hth, hval, P2, n2, hC2, hev2, hrow2, hs1, hs2, hs3⟩ := a_rangesOf hev hrow hw hm
  rw [hs1, hs3] at hP hD
  have hP : va_P D vwCl ([gO h0 lo (nI n2) rv, gM m0 ar (nI n2) rv uM, gR ar cI row, gQ ou cL uC.2.1] ++ va_pl uC.1.1 (gE uC.1.2)) H := by rw [← hs2]; rw [← hs2] at hP; exact hP
  have hD : va_D (fun q : Nat => s.heap.size ≤ q) ([gO h0 lo (nI n2) rv, gM m0 ar (nI n2) rv uM, gR ar cI row, gQ ou cL uC.2.1] ++ va_pl uC.1.1 (gE uC.1.2)) := by rw [← hs2]; rw [← hs2] at hD; exact hD
  refine lv_istore (lv' := [(6, .int bM), (5, .int kC), (0, .ref b), (1, .ref h0), (2, .ref m0), (3, .ref ou), (4, .int (nI ix))]) hx hb dL_law_868 hl (by decide) rfl (fun ls hl => ?_)
  refine lv_aload_n hx hb dL_law_870 rfl (lv_at hl 4 rfl) ?_
  have hPm : va_P D vwCl (wM ([gO h0 lo (nI n2) rv, gM m0 ar (nI n2) rv uM, gR ar cI row, gQ ou cL uC.2.1] ++ va_pl uC.1.1 (gE uC.1.2)) 1 2 m0 ar cI (nI n2) rv uM row) H := hP
  have hDm : va_D (fun q : Nat => s.heap.size ≤ q) (wM ([gO h0 lo (nI n2) rv, gM m0 ar (nI n2) rv uM, gR ar cI row, gQ ou cL uC.2.1] ++ va_pl uC.1.1 (gE uC.1.2)) 1 2 m0 ar cI (nI n2) rv uM row) := hD
  refine g_calli (va_runV (As := []) (rest := []) ⟨hx, hb, hml, hown, hts⟩ (m_thrown l D [(cI, .int), (cL, .long)] (t := 0) rfl (w := [gO h0 lo (nI n2) rv, gM m0 ar (nI n2) rv uM, gR ar cI row, gQ ou cL uC.2.1] ++ va_pl uC.1.1 (gE uC.1.2)) (i := 1) (j := 2) (g_l4 (by omega)) (g_l4 (by omega)) (by decide) hev2.2.1 hrow2 H.size) (cwV 0 hts gL_law_X2_thrown rfl rfl rfl (by decide +kernel) ⟨Nat.le_of_ble_eq_true rfl, Nat.le_of_ble_eq_true rfl⟩) (gP_V (va_recv hK hPm (ci := 2) rfl (gM_i (g_l4 (by omega)) (by decide))) hPm hK hDm gBl_T (fun _ _ _ => trivial)) rfl rfl hl.1 rfl (lv_room (Nat.le_of_ble_eq_true rfl)) dL_law_871 ⟨by show kc + 1 + 0 + 0 ≤ 601024; omega, by show ns + 6 + 0 + 0 ≤ 7293034; omega⟩) hDm hS hA (fun r9 u9 H locs hr9 hP hD hS => ?_)
  have hP : va_P D vwCl ([gO h0 lo (nI n2) rv, gM m0 ar (nI n2) rv uM, gR ar cI row, gQ ou cL uC.2.1] ++ va_pl uC.1.1 (gE uC.1.2)) H := hP
  have hD : va_D (fun q : Nat => s.heap.size ≤ q) ([gO h0 lo (nI n2) rv, gM m0 ar (nI n2) rv uM, gR ar cI row, gQ ou cL uC.2.1] ++ va_pl uC.1.1 (gE uC.1.2)) := hD
  refine lv_iload hx hb dL_law_874 (lv_at hl 1 rfl) ?_
  refine lv_icmp_eq (tgt := 881) hx hb dL_law_876 (by decide) (fun _ => ?_) (fun c9 => absurd (hr9.trans hth) c9)
  refine lv_iload hx hb dL_law_881 (lv_at hl 1 rfl) ?_
  refine lv_if_ne (tgt := 898) hx hb dL_law_883 (by decide) (fun c1 => ?_) (fun c1 => ?_)
  · skip
    refine lv_goto (tgt := 1021) hx hb dL_law_898 (by decide) ?_
    refine W.widen (k := kc + 6) (n := ns + 40) (by omega) (by omega) ?_
    exact hend P2 n2 rv uM uC.1.1 uC.1.2 uC.2.1 row H locs ls hC2 hev2 hrow2 hP hD hS (lv_sub hl [2, 3, 4, 5, 6] rfl)
  · have hk0 : kC = 0 := by first | exact c1 | exact Classical.not_not.mp c1
    refine lv_aload_n hx hb dL_law_886 rfl (lv_at hl 5 rfl) ?_
    refine lv_iconst (v := 0) hx hb dL_law_887 (by decide) ?_
    refine va_lald hx hb hK hP 3 1 rfl rfl (vp_in_nI (n := 0) (N := 1) (by omega) (by omega)) dL_law_888 ?_
    refine lv_iload hx hb dL_law_889 (lv_at hl 0 rfl) ?_
    refine lv_i2l (v := bM.toInt64) hx hb dL_law_891 rfl ?_
    refine W.lcmp hx hb dL_law_892 ?_
    have hcmp : lg_cmp (uC.2.1 ((0 : Int32).toNatClampNeg)) bM.toInt64 = 0 := by rw [sb_cl0, hval hk0]; exact g_cmp0 _
    refine lv_if_eq (tgt := 898) hx hb dL_law_893 (by decide) (fun _ => ?_) (fun c9 => absurd hcmp c9)
    refine lv_goto (tgt := 1021) hx hb dL_law_898 (by decide) ?_
    refine W.widen (k := kc + 6) (n := ns + 40) (by omega) (by omega) ?_
    exact hend P2 n2 rv uM uC.1.1 uC.1.2 uC.2.1 row H locs ls hC2 hev2 hrow2 hP hD hS (lv_sub hl [2, 3, 4, 5, 6] rfl)
set_option maxHeartbeats 4000000 in
set_option maxRecDepth 100000 in
theorem k_nextOf {p : Program} {l : Launch} {e : Env} {s : State} {m : MethodId} {args : Array Value} {below : List Frame} {meth : Method} {c : Code} {Q : State → Prop} {D : va_G} {b Ls ix h0 m0 ar ou lo n kc ns : Nat} {xs : Nat → Int32} {cI cL : ClassId} {P : Nat → Int32} {rv tv : Int32} {L : List Nat} {S : gS} {f : Nat → Int64} {row : Nat → Int32} (hx : p.tables.exec = Jvm.exec) (hb : c.code = cL_law) (hml : c.maxLocals = 7) (hts : ∀ w ∈ wsL_law, w.before args s = true) (hown : s.vm.findClass RL = some m.cls) (hK : va_K D vwCl [(cI, .int), (cL, .long)] s) (hl9 : l.stackTraces = false) (hGL : gL (fun q : Nat => s.heap.size ≤ q) s) (hXs : va_X b Ls xs s s.heap) (hbl : b < s.heap.size) (hix : ix + 4 ≤ Ls) (hLs : Ls ≤ 2048) (hkc : kc + 6 ≤ 601024) (hns : ns + 40 ≤ 7293034) (hC : gCh P lo (L, S)) (hev : gEv P n) (hrow : gRow P n row) (H : Heap) (locs : List Loc) (ls : Array Slot) (hP : va_P D vwCl ([gO h0 lo (nI n) rv, gM m0 ar (nI n) rv tv, gR ar cI row, gQ ou cL f] ++ va_pl L (gE S)) H) (hD : va_D (fun q : Nat => s.heap.size ≤ q) ([gO h0 lo (nI n) rv, gM m0 ar (nI n) rv tv, gR ar cI row, gQ ou cL f] ++ va_pl L (gE S))) (hS : va_S (fun q : Nat => s.heap.size ≤ q) s.heap H locs) (hl : lv_has ls 7 [(0, .ref b), (1, .ref h0), (2, .ref m0), (3, .ref ou), (4, .int (nI ix))]) (hend : (∀ (P : Nat → Int32) (n : Nat) (rv tv : Int32) (L : List Nat) (S : gS) (f : Nat → Int64) (row : Nat → Int32) (H : Heap) (locs : List Loc) (ls : Array Slot), gCh P lo (L, S) → gEv P n → gRow P n row → va_P D vwCl ([gO h0 lo (nI n) rv, gM m0 ar (nI n) rv tv, gR ar cI row, gQ ou cL f] ++ va_pl L (gE S)) H → va_D (fun q : Nat => s.heap.size ≤ q) ([gO h0 lo (nI n) rv, gM m0 ar (nI n) rv tv, gR ar cI row, gQ ou cL f] ++ va_pl L (gE S)) → va_S (fun q : Nat => s.heap.size ≤ q) s.heap H locs → lv_has ls 7 [(0, .ref b), (1, .ref h0), (2, .ref m0), (3, .ref ou), (4, .int (nI ix))] → W p l e room_1 s m args below meth c H locs (kc + 6) (ns + 40) Q (F0 m 1021 ls []))) : W p l e room_1 s m args below meth c H locs kc ns Q (F0 m 901 ls []) := by
  have hA : ∀ q : Nat, s.heap.size ≤ q → (fun q : Nat => s.heap.size ≤ q) q := fun _ h => h
  have hbA : ¬ (fun q : Nat => s.heap.size ≤ q) b := Nat.not_le.mpr hbl
  refine lv_aload_n hx hb dL_law_901 rfl (lv_at hl 1 rfl) ?_
  refine lv_aload_n hx hb dL_law_902 rfl (lv_at hl 0 rfl) ?_
  refine lv_iload hx hb dL_law_903 (lv_at hl 4 rfl) ?_
  refine lv_iconst (v := 1) hx hb dL_law_905 (by decide) ?_
  refine lv_iadd hx hb dL_law_906 ?_
  refine g_top (y := nI (ix + 1)) (nI_add _ _) ?_
  refine va_sld hx hb hXs hbl hbA hS (vp_in_nI (n := ix + 1) (by omega) (by omega)) dL_law_907 ?_
  refine g_top (y := xs (ix + 1)) (by rw [nI_clamp (by omega)]) ?_
  refine lv_aload_n hx hb dL_law_908 rfl (lv_at hl 3 rfl) ?_
  refine g_calli (vx_runSW (As := [.ref h0, .int (xs (ix + 1)), .ref ou]) (rest := []) ⟨hx, hb, hml, hown, hts⟩ (w_nextOf l hl9 D [(cI, .int), (cL, .long)] [gO h0 lo (nI n) rv, gM m0 ar (nI n) rv tv, gR ar cI row, gQ ou cL f] L S H.size (i := 0) (io := 3) (tl := 1) rfl rfl (by decide) rfl hC (xs (ix + 1))) (vx_cwSW 3 hts gL_law_L_nextOf rfl rfl rfl (by decide +kernel) ⟨Nat.le_of_ble_eq_true rfl, Nat.le_of_ble_eq_true rfl⟩) (gP_S hP hK hD gBl_L (fun U hU hW => hGL.call hS (gA_sub hD hS hA) U hU hW)) rfl rfl hl.1 rfl (lv_room (Nat.le_of_ble_eq_true rfl)) dL_law_909 ⟨by show kc + 1 ≤ 601024; omega, by show ns + 6 ≤ 7293034; omega⟩) hD hS hA (fun kC uC H locs hw hP hD hS => ?_)
  have hP : va_P D vwCl ([gO h0 lo uC.2.2.1 uC.2.2.2, gM m0 ar (nI n) rv tv, gR ar cI row, gQ ou cL uC.2.1] ++ va_pl uC.1.1 (gE uC.1.2)) H := hP
  have hD : va_D (fun q : Nat => s.heap.size ≤ q) ([gO h0 lo uC.2.2.1 uC.2.2.2, gM m0 ar (nI n) rv tv, gR ar cI row, gQ ou cL uC.2.1] ++ va_pl uC.1.1 (gE uC.1.2)) := hD
  refine lv_istore (lv' := [(5, .int kC), (0, .ref b), (1, .ref h0), (2, .ref m0), (3, .ref ou), (4, .int (nI ix))]) hx hb dL_law_912 hl (by decide) rfl (fun ls hl => ?_)
  refine lv_aload_n hx hb dL_law_914 rfl (lv_at hl 3 rfl) ?_
  refine lv_aload_n hx hb dL_law_915 rfl (lv_at hl 1 rfl) ?_
  refine lv_iload hx hb dL_law_916 (lv_at hl 5 rfl) ?_
  refine lv_iconst (v := 1) hx hb dL_law_918 (by decide) ?_
  refine lv_iadd hx hb dL_law_919 ?_
  refine g_top (y := nI (ix + 1)) (nI_add _ _) ?_
  refine va_sld hx hb hXs hbl hbA hS (vp_in_nI (n := ix + 1) (by omega) (by omega)) dL_law_920 ?_
  refine g_top (y := xs (ix + 1)) (by rw [nI_clamp (by omega)]) ?_
  have hPm : va_P D vwCl (wM ([gO h0 lo uC.2.2.1 uC.2.2.2, gM m0 ar (nI n) rv tv, gR ar cI row, gQ ou cL uC.2.1] ++ va_pl uC.1.1 (gE uC.1.2)) 1 2 m0 ar cI (nI n) rv tv row) H := hP
  have hDm : va_D (fun q : Nat => s.heap.size ≤ q) (wM ([gO h0 lo uC.2.2.1 uC.2.2.2, gM m0 ar (nI n) rv tv, gR ar cI row, gQ ou cL uC.2.1] ++ va_pl uC.1.1 (gE uC.1.2)) 1 2 m0 ar cI (nI n) rv tv row) := hD
  refine g_calli (va_runV (As := [.int (xs (ix + 1))]) (rest := []) ⟨hx, hb, hml, hown, hts⟩ (m_nextOf l D [(cI, .int), (cL, .long)] (t := 0) rfl (w := [gO h0 lo uC.2.2.1 uC.2.2.2, gM m0 ar (nI n) rv tv, gR ar cI row, gQ ou cL uC.2.1] ++ va_pl uC.1.1 (gE uC.1.2)) (i := 1) (j := 2) (g_l4 (by omega)) (g_l4 (by omega)) (by decide) hev.2.1 hrow H.size (xs (ix + 1))) (cwV 1 hts gL_law_X2_nextOf rfl rfl rfl (by decide +kernel) ⟨Nat.le_of_ble_eq_true rfl, Nat.le_of_ble_eq_true rfl⟩) (gP_V (va_recv hK hPm (ci := 2) rfl (gM_i (g_l4 (by omega)) (by decide))) hPm hK hDm gBl_T (fun _ _ _ => trivial)) rfl rfl hl.1 rfl (lv_room (Nat.le_of_ble_eq_true rfl)) dL_law_921 ⟨by show kc + 1 + 0 ≤ 601024; omega, by show ns + 6 + 0 ≤ 7293034; omega⟩) hDm hS hA (fun bM uM H locs hm hP hD hS => ?_)
  have hP : va_P D vwCl ([gO h0 lo uC.2.2.1 uC.2.2.2, gM m0 ar (nI n) rv uM, gR ar cI row, gQ ou cL uC.2.1] ++ va_pl uC.1.1 (gE uC.1.2)) H := hP
  have hD : va_D (fun q : Nat => s.heap.size ≤ q) ([gO h0 lo uC.2.2.1 uC.2.2.2, gM m0 ar (nI n) rv uM, gR ar cI row, gQ ou cL uC.2.1] ++ va_pl uC.1.1 (gE uC.1.2)) := hD
  obtain ⟨hth, hval, P2, n2, hC2, hev2, hrow2, hs1, hs2, hs3⟩ := a_nextOf hev hrow hw hm
  rw [hs1, hs3] at hP hD
  have hP : va_P D vwCl ([gO h0 lo (nI n2) rv, gM m0 ar (nI n2) rv uM, gR ar cI row, gQ ou cL uC.2.1] ++ va_pl uC.1.1 (gE uC.1.2)) H := by rw [← hs2]; rw [← hs2] at hP; exact hP
  have hD : va_D (fun q : Nat => s.heap.size ≤ q) ([gO h0 lo (nI n2) rv, gM m0 ar (nI n2) rv uM, gR ar cI row, gQ ou cL uC.2.1] ++ va_pl uC.1.1 (gE uC.1.2)) := by rw [← hs2]; rw [← hs2] at hD; exact hD
  refine lv_istore (lv' := [(6, .int bM), (5, .int kC), (0, .ref b), (1, .ref h0), (2, .ref m0), (3, .ref ou), (4, .int (nI ix))]) hx hb dL_law_924 hl (by decide) rfl (fun ls hl => ?_)
  refine lv_aload_n hx hb dL_law_926 rfl (lv_at hl 4 rfl) ?_
  have hPm : va_P D vwCl (wM ([gO h0 lo (nI n2) rv, gM m0 ar (nI n2) rv uM, gR ar cI row, gQ ou cL uC.2.1] ++ va_pl uC.1.1 (gE uC.1.2)) 1 2 m0 ar cI (nI n2) rv uM row) H := hP
  have hDm : va_D (fun q : Nat => s.heap.size ≤ q) (wM ([gO h0 lo (nI n2) rv, gM m0 ar (nI n2) rv uM, gR ar cI row, gQ ou cL uC.2.1] ++ va_pl uC.1.1 (gE uC.1.2)) 1 2 m0 ar cI (nI n2) rv uM row) := hD
  refine g_calli (va_runV (As := []) (rest := []) ⟨hx, hb, hml, hown, hts⟩ (m_thrown l D [(cI, .int), (cL, .long)] (t := 0) rfl (w := [gO h0 lo (nI n2) rv, gM m0 ar (nI n2) rv uM, gR ar cI row, gQ ou cL uC.2.1] ++ va_pl uC.1.1 (gE uC.1.2)) (i := 1) (j := 2) (g_l4 (by omega)) (g_l4 (by omega)) (by decide) hev2.2.1 hrow2 H.size) (cwV 0 hts gL_law_X2_thrown rfl rfl rfl (by decide +kernel) ⟨Nat.le_of_ble_eq_true rfl, Nat.le_of_ble_eq_true rfl⟩) (gP_V (va_recv hK hPm (ci := 2) rfl (gM_i (g_l4 (by omega)) (by decide))) hPm hK hDm gBl_T (fun _ _ _ => trivial)) rfl rfl hl.1 rfl (lv_room (Nat.le_of_ble_eq_true rfl)) dL_law_927 ⟨by show kc + 1 + 0 + 0 ≤ 601024; omega, by show ns + 6 + 0 + 0 ≤ 7293034; omega⟩) hDm hS hA (fun r9 u9 H locs hr9 hP hD hS => ?_)
  have hP : va_P D vwCl ([gO h0 lo (nI n2) rv, gM m0 ar (nI n2) rv uM, gR ar cI row, gQ ou cL uC.2.1] ++ va_pl uC.1.1 (gE uC.1.2)) H := hP
  have hD : va_D (fun q : Nat => s.heap.size ≤ q) ([gO h0 lo (nI n2) rv, gM m0 ar (nI n2) rv uM, gR ar cI row, gQ ou cL uC.2.1] ++ va_pl uC.1.1 (gE uC.1.2)) := hD
  refine lv_iload hx hb dL_law_930 (lv_at hl 1 rfl) ?_
  refine lv_icmp_eq (tgt := 937) hx hb dL_law_932 (by decide) (fun _ => ?_) (fun c9 => absurd (hr9.trans hth) c9)
  refine lv_iload hx hb dL_law_937 (lv_at hl 1 rfl) ?_
  refine lv_if_ne (tgt := 954) hx hb dL_law_939 (by decide) (fun c1 => ?_) (fun c1 => ?_)
  · skip
    refine lv_goto (tgt := 1021) hx hb dL_law_954 (by decide) ?_
    refine W.widen (k := kc + 6) (n := ns + 40) (by omega) (by omega) ?_
    exact hend P2 n2 rv uM uC.1.1 uC.1.2 uC.2.1 row H locs ls hC2 hev2 hrow2 hP hD hS (lv_sub hl [2, 3, 4, 5, 6] rfl)
  · have hk0 : kC = 0 := by first | exact c1 | exact Classical.not_not.mp c1
    refine lv_aload_n hx hb dL_law_942 rfl (lv_at hl 5 rfl) ?_
    refine lv_iconst (v := 0) hx hb dL_law_943 (by decide) ?_
    refine va_lald hx hb hK hP 3 1 rfl rfl (vp_in_nI (n := 0) (N := 1) (by omega) (by omega)) dL_law_944 ?_
    refine lv_iload hx hb dL_law_945 (lv_at hl 0 rfl) ?_
    refine lv_i2l (v := bM.toInt64) hx hb dL_law_947 rfl ?_
    refine W.lcmp hx hb dL_law_948 ?_
    have hcmp : lg_cmp (uC.2.1 ((0 : Int32).toNatClampNeg)) bM.toInt64 = 0 := by rw [sb_cl0, hval hk0]; exact g_cmp0 _
    refine lv_if_eq (tgt := 954) hx hb dL_law_949 (by decide) (fun _ => ?_) (fun c9 => absurd hcmp c9)
    refine lv_goto (tgt := 1021) hx hb dL_law_954 (by decide) ?_
    refine W.widen (k := kc + 6) (n := ns + 40) (by omega) (by omega) ?_
    exact hend P2 n2 rv uM uC.1.1 uC.1.2 uC.2.1 row H locs ls hC2 hev2 hrow2 hP hD hS (lv_sub hl [2, 3, 4, 5, 6] rfl)
set_option maxHeartbeats 4000000 in
set_option maxRecDepth 100000 in
theorem k_placeOf {p : Program} {l : Launch} {e : Env} {s : State} {m : MethodId} {args : Array Value} {below : List Frame} {meth : Method} {c : Code} {Q : State → Prop} {D : va_G} {b Ls ix h0 m0 ar ou lo n kc ns : Nat} {xs : Nat → Int32} {cI cL : ClassId} {P : Nat → Int32} {rv tv : Int32} {L : List Nat} {S : gS} {f : Nat → Int64} {row : Nat → Int32} (hx : p.tables.exec = Jvm.exec) (hb : c.code = cL_law) (hml : c.maxLocals = 7) (hts : ∀ w ∈ wsL_law, w.before args s = true) (hown : s.vm.findClass RL = some m.cls) (hK : va_K D vwCl [(cI, .int), (cL, .long)] s) (hl9 : l.stackTraces = false) (hGL : gL (fun q : Nat => s.heap.size ≤ q) s) (hXs : va_X b Ls xs s s.heap) (hbl : b < s.heap.size) (hix : ix + 4 ≤ Ls) (hLs : Ls ≤ 2048) (hkc : kc + 6 ≤ 601024) (hns : ns + 40 ≤ 7293034) (hC : gCh P lo (L, S)) (hev : gEv P n) (hrow : gRow P n row) (H : Heap) (locs : List Loc) (ls : Array Slot) (hP : va_P D vwCl ([gO h0 lo (nI n) rv, gM m0 ar (nI n) rv tv, gR ar cI row, gQ ou cL f] ++ va_pl L (gE S)) H) (hD : va_D (fun q : Nat => s.heap.size ≤ q) ([gO h0 lo (nI n) rv, gM m0 ar (nI n) rv tv, gR ar cI row, gQ ou cL f] ++ va_pl L (gE S))) (hS : va_S (fun q : Nat => s.heap.size ≤ q) s.heap H locs) (hl : lv_has ls 7 [(0, .ref b), (1, .ref h0), (2, .ref m0), (3, .ref ou), (4, .int (nI ix))]) (hend : (∀ (P : Nat → Int32) (n : Nat) (rv tv : Int32) (L : List Nat) (S : gS) (f : Nat → Int64) (row : Nat → Int32) (H : Heap) (locs : List Loc) (ls : Array Slot), gCh P lo (L, S) → gEv P n → gRow P n row → va_P D vwCl ([gO h0 lo (nI n) rv, gM m0 ar (nI n) rv tv, gR ar cI row, gQ ou cL f] ++ va_pl L (gE S)) H → va_D (fun q : Nat => s.heap.size ≤ q) ([gO h0 lo (nI n) rv, gM m0 ar (nI n) rv tv, gR ar cI row, gQ ou cL f] ++ va_pl L (gE S)) → va_S (fun q : Nat => s.heap.size ≤ q) s.heap H locs → lv_has ls 7 [(0, .ref b), (1, .ref h0), (2, .ref m0), (3, .ref ou), (4, .int (nI ix))] → W p l e room_1 s m args below meth c H locs (kc + 6) (ns + 40) Q (F0 m 1021 ls []))) : W p l e room_1 s m args below meth c H locs kc ns Q (F0 m 957 ls []) := by
  have hA : ∀ q : Nat, s.heap.size ≤ q → (fun q : Nat => s.heap.size ≤ q) q := fun _ h => h
  have hbA : ¬ (fun q : Nat => s.heap.size ≤ q) b := Nat.not_le.mpr hbl
  obtain ⟨g9, hch9, hwf9, hmx9⟩ := id hC
  refine lv_aload_n hx hb dL_law_957 rfl (lv_at hl 1 rfl) ?_
  refine lv_aload_n hx hb dL_law_958 rfl (lv_at hl 0 rfl) ?_
  refine lv_iload hx hb dL_law_959 (lv_at hl 4 rfl) ?_
  refine lv_iconst (v := 1) hx hb dL_law_961 (by decide) ?_
  refine lv_iadd hx hb dL_law_962 ?_
  refine g_top (y := nI (ix + 1)) (nI_add _ _) ?_
  refine va_sld hx hb hXs hbl hbA hS (vp_in_nI (n := ix + 1) (by omega) (by omega)) dL_law_963 ?_
  refine g_top (y := xs (ix + 1)) (by rw [nI_clamp (by omega)]) ?_
  refine g_calli (va_runV (As := [.int (xs (ix + 1))]) (rest := []) ⟨hx, hb, hml, hown, hts⟩ (c_place l D [(cI, .int), (cL, .long)] [gO h0 lo (nI n) rv, gM m0 ar (nI n) rv tv, gR ar cI row, gQ ou cL f] L S H.size (i := 0) rfl hwf9 hmx9 hch9 (xs (ix + 1))) (cwV 1 hts gL_law_X1_placeOf rfl rfl rfl (by decide +kernel) ⟨Nat.le_of_ble_eq_true rfl, Nat.le_of_ble_eq_true rfl⟩) (gP_V (va_recv hK hP (ci := 1) rfl (g_inX (X := [gO h0 lo (nI n) rv, gM m0 ar (nI n) rv tv, gR ar cI row, gQ ou cL f]) (i := 0) rfl)) hP hK hD gBl_N (fun U _ hW => hGL.1.1.warm hW)) rfl rfl hl.1 rfl (lv_room (Nat.le_of_ble_eq_true rfl)) dL_law_964 ⟨by show kc + 0 ≤ 601024; omega, by show ns + 0 ≤ 7293034; omega⟩) hD hS hA (fun r1 u1 H locs hr1 hP hD hS => ?_)
  refine lv_aload_n hx hb dL_law_967 rfl (lv_at hl 2 rfl) ?_
  refine lv_aload_n hx hb dL_law_968 rfl (lv_at hl 0 rfl) ?_
  refine lv_iload hx hb dL_law_969 (lv_at hl 4 rfl) ?_
  refine lv_iconst (v := 1) hx hb dL_law_971 (by decide) ?_
  refine lv_iadd hx hb dL_law_972 ?_
  refine g_top (y := nI (ix + 1)) (nI_add _ _) ?_
  refine va_sld hx hb hXs hbl hbA hS (vp_in_nI (n := ix + 1) (by omega) (by omega)) dL_law_973 ?_
  refine g_top (y := xs (ix + 1)) (by rw [nI_clamp (by omega)]) ?_
  have hPm : va_P D vwCl (wM ([gO h0 lo (nI n) rv, gM m0 ar (nI n) rv tv, gR ar cI row, gQ ou cL f] ++ va_pl L (gE S)) 1 2 m0 ar cI (nI n) rv tv row) H := hP
  have hDm : va_D (fun q : Nat => s.heap.size ≤ q) (wM ([gO h0 lo (nI n) rv, gM m0 ar (nI n) rv tv, gR ar cI row, gQ ou cL f] ++ va_pl L (gE S)) 1 2 m0 ar cI (nI n) rv tv row) := hD
  refine g_calli (va_runV (As := [.int (xs (ix + 1))]) (rest := [.int r1]) ⟨hx, hb, hml, hown, hts⟩ (m_placeOf l D [(cI, .int), (cL, .long)] (t := 0) rfl (w := [gO h0 lo (nI n) rv, gM m0 ar (nI n) rv tv, gR ar cI row, gQ ou cL f] ++ va_pl L (gE S)) (i := 1) (j := 2) (g_l4 (by omega)) (g_l4 (by omega)) (by decide) hev.2.1 hrow H.size (xs (ix + 1))) (cwV 1 hts gL_law_X2_placeOf rfl rfl rfl (by decide +kernel) ⟨Nat.le_of_ble_eq_true rfl, Nat.le_of_ble_eq_true rfl⟩) (gP_V (va_recv hK hPm (ci := 2) rfl (gM_i (g_l4 (by omega)) (by decide))) hPm hK hDm gBl_T (fun _ _ _ => trivial)) rfl rfl hl.1 rfl (lv_room (Nat.le_of_ble_eq_true rfl)) dL_law_974 ⟨by show kc + 0 + 0 ≤ 601024; omega, by show ns + 0 + 0 ≤ 7293034; omega⟩) hDm hS hA (fun r2 u2 H locs hr2 hP hD hS => ?_)
  have hP : va_P D vwCl ([gO h0 lo (nI n) rv, gM m0 ar (nI n) rv 0, gR ar cI row, gQ ou cL f] ++ va_pl L (gE S)) H := hP
  have hD : va_D (fun q : Nat => s.heap.size ≤ q) ([gO h0 lo (nI n) rv, gM m0 ar (nI n) rv 0, gR ar cI row, gQ ou cL f] ++ va_pl L (gE S)) := hD
  have heq : r1 = r2 := b_place hev hr1 hr2
  refine lv_icmp_eq (tgt := 1021) hx hb dL_law_977 (by decide) (fun _ => ?_) (fun c9 => absurd heq c9)
  refine W.widen (k := kc + 6) (n := ns + 40) (by omega) (by omega) ?_
  exact hend P n rv 0 L S f row H locs ls hC hev hrow hP hD hS hl
set_option maxHeartbeats 4000000 in
set_option maxRecDepth 100000 in
theorem k_drunk {p : Program} {l : Launch} {e : Env} {s : State} {m : MethodId} {args : Array Value} {below : List Frame} {meth : Method} {c : Code} {Q : State → Prop} {D : va_G} {b Ls ix h0 m0 ar ou lo n kc ns : Nat} {xs : Nat → Int32} {cI cL : ClassId} {P : Nat → Int32} {rv tv : Int32} {L : List Nat} {S : gS} {f : Nat → Int64} {row : Nat → Int32} (hx : p.tables.exec = Jvm.exec) (hb : c.code = cL_law) (hml : c.maxLocals = 7) (hts : ∀ w ∈ wsL_law, w.before args s = true) (hown : s.vm.findClass RL = some m.cls) (hK : va_K D vwCl [(cI, .int), (cL, .long)] s) (hl9 : l.stackTraces = false) (hGL : gL (fun q : Nat => s.heap.size ≤ q) s) (hXs : va_X b Ls xs s s.heap) (hbl : b < s.heap.size) (hix : ix + 4 ≤ Ls) (hLs : Ls ≤ 2048) (hkc : kc + 6 ≤ 601024) (hns : ns + 40 ≤ 7293034) (hC : gCh P lo (L, S)) (hev : gEv P n) (hrow : gRow P n row) (H : Heap) (locs : List Loc) (ls : Array Slot) (hP : va_P D vwCl ([gO h0 lo (nI n) rv, gM m0 ar (nI n) rv tv, gR ar cI row, gQ ou cL f] ++ va_pl L (gE S)) H) (hD : va_D (fun q : Nat => s.heap.size ≤ q) ([gO h0 lo (nI n) rv, gM m0 ar (nI n) rv tv, gR ar cI row, gQ ou cL f] ++ va_pl L (gE S))) (hS : va_S (fun q : Nat => s.heap.size ≤ q) s.heap H locs) (hl : lv_has ls 7 [(0, .ref b), (1, .ref h0), (2, .ref m0), (3, .ref ou), (4, .int (nI ix))]) (hend : (∀ (P : Nat → Int32) (n : Nat) (rv tv : Int32) (L : List Nat) (S : gS) (f : Nat → Int64) (row : Nat → Int32) (H : Heap) (locs : List Loc) (ls : Array Slot), gCh P lo (L, S) → gEv P n → gRow P n row → va_P D vwCl ([gO h0 lo (nI n) rv, gM m0 ar (nI n) rv tv, gR ar cI row, gQ ou cL f] ++ va_pl L (gE S)) H → va_D (fun q : Nat => s.heap.size ≤ q) ([gO h0 lo (nI n) rv, gM m0 ar (nI n) rv tv, gR ar cI row, gQ ou cL f] ++ va_pl L (gE S)) → va_S (fun q : Nat => s.heap.size ≤ q) s.heap H locs → lv_has ls 7 [(0, .ref b), (1, .ref h0), (2, .ref m0), (3, .ref ou), (4, .int (nI ix))] → W p l e room_1 s m args below meth c H locs (kc + 6) (ns + 40) Q (F0 m 1021 ls []))) : W p l e room_1 s m args below meth c H locs kc ns Q (F0 m 982 ls []) := by
  have hA : ∀ q : Nat, s.heap.size ≤ q → (fun q : Nat => s.heap.size ≤ q) q := fun _ h => h
  have hbA : ¬ (fun q : Nat => s.heap.size ≤ q) b := Nat.not_le.mpr hbl
  obtain ⟨g9, hch9, hwf9, hmx9⟩ := id hC
  refine lv_aload_n hx hb dL_law_982 rfl (lv_at hl 1 rfl) ?_
  refine g_calli (va_runV (As := []) (rest := []) ⟨hx, hb, hml, hown, hts⟩ (c_drunk l D [(cI, .int), (cL, .long)] [gO h0 lo (nI n) rv, gM m0 ar (nI n) rv tv, gR ar cI row, gQ ou cL f] L S H.size (i := 0) rfl hC) (cwV 0 hts gL_law_X1_drunk rfl rfl rfl (by decide +kernel) ⟨Nat.le_of_ble_eq_true rfl, Nat.le_of_ble_eq_true rfl⟩) (gP_V (va_recv hK hP (ci := 1) rfl (g_inX (X := [gO h0 lo (nI n) rv, gM m0 ar (nI n) rv tv, gR ar cI row, gQ ou cL f]) (i := 0) rfl)) hP hK hD gBl_N (fun U _ hW => hGL.1.1.warm hW)) rfl rfl hl.1 rfl (lv_room (Nat.le_of_ble_eq_true rfl)) dL_law_983 ⟨by show kc + 0 ≤ 601024; omega, by show ns + 0 ≤ 7293034; omega⟩) hD hS hA (fun r1 u1 H locs hr1 hP hD hS => ?_)
  refine lv_aload_n hx hb dL_law_986 rfl (lv_at hl 2 rfl) ?_
  have hPm : va_P D vwCl (wM ([gO h0 lo (nI n) rv, gM m0 ar (nI n) rv tv, gR ar cI row, gQ ou cL f] ++ va_pl L (gE S)) 1 2 m0 ar cI (nI n) rv tv row) H := hP
  have hDm : va_D (fun q : Nat => s.heap.size ≤ q) (wM ([gO h0 lo (nI n) rv, gM m0 ar (nI n) rv tv, gR ar cI row, gQ ou cL f] ++ va_pl L (gE S)) 1 2 m0 ar cI (nI n) rv tv row) := hD
  refine g_calli (va_runV (As := []) (rest := [.int r1]) ⟨hx, hb, hml, hown, hts⟩ (m_drunk l D [(cI, .int), (cL, .long)] (t := 0) rfl (w := [gO h0 lo (nI n) rv, gM m0 ar (nI n) rv tv, gR ar cI row, gQ ou cL f] ++ va_pl L (gE S)) (i := 1) (j := 2) (g_l4 (by omega)) (g_l4 (by omega)) (by decide) hev.2.1 hrow H.size ) (cwV 0 hts gL_law_X2_drunk rfl rfl rfl (by decide +kernel) ⟨Nat.le_of_ble_eq_true rfl, Nat.le_of_ble_eq_true rfl⟩) (gP_V (va_recv hK hPm (ci := 2) rfl (gM_i (g_l4 (by omega)) (by decide))) hPm hK hDm gBl_T (fun _ _ _ => trivial)) rfl rfl hl.1 rfl (lv_room (Nat.le_of_ble_eq_true rfl)) dL_law_987 ⟨by show kc + 0 + 0 ≤ 601024; omega, by show ns + 0 + 0 ≤ 7293034; omega⟩) hDm hS hA (fun r2 u2 H locs hr2 hP hD hS => ?_)
  have hP : va_P D vwCl ([gO h0 lo (nI n) rv, gM m0 ar (nI n) rv 0, gR ar cI row, gQ ou cL f] ++ va_pl L (gE S)) H := hP
  have hD : va_D (fun q : Nat => s.heap.size ≤ q) ([gO h0 lo (nI n) rv, gM m0 ar (nI n) rv 0, gR ar cI row, gQ ou cL f] ++ va_pl L (gE S)) := hD
  have heq : r1 = r2 := by rw [hr1, hr2, b_ct hev (by decide)]
  refine lv_icmp_eq (tgt := 1021) hx hb dL_law_990 (by decide) (fun _ => ?_) (fun c9 => absurd heq c9)
  refine W.widen (k := kc + 6) (n := ns + 40) (by omega) (by omega) ?_
  exact hend P n rv 0 L S f row H locs ls hC hev hrow hP hD hS hl
set_option maxHeartbeats 4000000 in
set_option maxRecDepth 100000 in
theorem k_spilt {p : Program} {l : Launch} {e : Env} {s : State} {m : MethodId} {args : Array Value} {below : List Frame} {meth : Method} {c : Code} {Q : State → Prop} {D : va_G} {b Ls ix h0 m0 ar ou lo n kc ns : Nat} {xs : Nat → Int32} {cI cL : ClassId} {P : Nat → Int32} {rv tv : Int32} {L : List Nat} {S : gS} {f : Nat → Int64} {row : Nat → Int32} (hx : p.tables.exec = Jvm.exec) (hb : c.code = cL_law) (hml : c.maxLocals = 7) (hts : ∀ w ∈ wsL_law, w.before args s = true) (hown : s.vm.findClass RL = some m.cls) (hK : va_K D vwCl [(cI, .int), (cL, .long)] s) (hl9 : l.stackTraces = false) (hGL : gL (fun q : Nat => s.heap.size ≤ q) s) (hXs : va_X b Ls xs s s.heap) (hbl : b < s.heap.size) (hix : ix + 4 ≤ Ls) (hLs : Ls ≤ 2048) (hkc : kc + 6 ≤ 601024) (hns : ns + 40 ≤ 7293034) (hC : gCh P lo (L, S)) (hev : gEv P n) (hrow : gRow P n row) (H : Heap) (locs : List Loc) (ls : Array Slot) (hP : va_P D vwCl ([gO h0 lo (nI n) rv, gM m0 ar (nI n) rv tv, gR ar cI row, gQ ou cL f] ++ va_pl L (gE S)) H) (hD : va_D (fun q : Nat => s.heap.size ≤ q) ([gO h0 lo (nI n) rv, gM m0 ar (nI n) rv tv, gR ar cI row, gQ ou cL f] ++ va_pl L (gE S))) (hS : va_S (fun q : Nat => s.heap.size ≤ q) s.heap H locs) (hl : lv_has ls 7 [(0, .ref b), (1, .ref h0), (2, .ref m0), (3, .ref ou), (4, .int (nI ix))]) (hend : (∀ (P : Nat → Int32) (n : Nat) (rv tv : Int32) (L : List Nat) (S : gS) (f : Nat → Int64) (row : Nat → Int32) (H : Heap) (locs : List Loc) (ls : Array Slot), gCh P lo (L, S) → gEv P n → gRow P n row → va_P D vwCl ([gO h0 lo (nI n) rv, gM m0 ar (nI n) rv tv, gR ar cI row, gQ ou cL f] ++ va_pl L (gE S)) H → va_D (fun q : Nat => s.heap.size ≤ q) ([gO h0 lo (nI n) rv, gM m0 ar (nI n) rv tv, gR ar cI row, gQ ou cL f] ++ va_pl L (gE S)) → va_S (fun q : Nat => s.heap.size ≤ q) s.heap H locs → lv_has ls 7 [(0, .ref b), (1, .ref h0), (2, .ref m0), (3, .ref ou), (4, .int (nI ix))] → W p l e room_1 s m args below meth c H locs (kc + 6) (ns + 40) Q (F0 m 1021 ls []))) : W p l e room_1 s m args below meth c H locs kc ns Q (F0 m 995 ls []) := by
  have hA : ∀ q : Nat, s.heap.size ≤ q → (fun q : Nat => s.heap.size ≤ q) q := fun _ h => h
  have hbA : ¬ (fun q : Nat => s.heap.size ≤ q) b := Nat.not_le.mpr hbl
  obtain ⟨g9, hch9, hwf9, hmx9⟩ := id hC
  refine lv_aload_n hx hb dL_law_995 rfl (lv_at hl 1 rfl) ?_
  refine g_calli (va_runV (As := []) (rest := []) ⟨hx, hb, hml, hown, hts⟩ (c_spilt l D [(cI, .int), (cL, .long)] [gO h0 lo (nI n) rv, gM m0 ar (nI n) rv tv, gR ar cI row, gQ ou cL f] L S H.size (i := 0) rfl hC) (cwV 0 hts gL_law_X1_spilt rfl rfl rfl (by decide +kernel) ⟨Nat.le_of_ble_eq_true rfl, Nat.le_of_ble_eq_true rfl⟩) (gP_V (va_recv hK hP (ci := 1) rfl (g_inX (X := [gO h0 lo (nI n) rv, gM m0 ar (nI n) rv tv, gR ar cI row, gQ ou cL f]) (i := 0) rfl)) hP hK hD gBl_N (fun U _ hW => hGL.1.1.warm hW)) rfl rfl hl.1 rfl (lv_room (Nat.le_of_ble_eq_true rfl)) dL_law_996 ⟨by show kc + 0 ≤ 601024; omega, by show ns + 0 ≤ 7293034; omega⟩) hD hS hA (fun r1 u1 H locs hr1 hP hD hS => ?_)
  refine lv_aload_n hx hb dL_law_999 rfl (lv_at hl 2 rfl) ?_
  have hPm : va_P D vwCl (wM ([gO h0 lo (nI n) rv, gM m0 ar (nI n) rv tv, gR ar cI row, gQ ou cL f] ++ va_pl L (gE S)) 1 2 m0 ar cI (nI n) rv tv row) H := hP
  have hDm : va_D (fun q : Nat => s.heap.size ≤ q) (wM ([gO h0 lo (nI n) rv, gM m0 ar (nI n) rv tv, gR ar cI row, gQ ou cL f] ++ va_pl L (gE S)) 1 2 m0 ar cI (nI n) rv tv row) := hD
  refine g_calli (va_runV (As := []) (rest := [.int r1]) ⟨hx, hb, hml, hown, hts⟩ (m_spilt l D [(cI, .int), (cL, .long)] (t := 0) rfl (w := [gO h0 lo (nI n) rv, gM m0 ar (nI n) rv tv, gR ar cI row, gQ ou cL f] ++ va_pl L (gE S)) (i := 1) (j := 2) (g_l4 (by omega)) (g_l4 (by omega)) (by decide) hev.2.1 hrow H.size ) (cwV 0 hts gL_law_X2_spilt rfl rfl rfl (by decide +kernel) ⟨Nat.le_of_ble_eq_true rfl, Nat.le_of_ble_eq_true rfl⟩) (gP_V (va_recv hK hPm (ci := 2) rfl (gM_i (g_l4 (by omega)) (by decide))) hPm hK hDm gBl_T (fun _ _ _ => trivial)) rfl rfl hl.1 rfl (lv_room (Nat.le_of_ble_eq_true rfl)) dL_law_1000 ⟨by show kc + 0 + 0 ≤ 601024; omega, by show ns + 0 + 0 ≤ 7293034; omega⟩) hDm hS hA (fun r2 u2 H locs hr2 hP hD hS => ?_)
  have hP : va_P D vwCl ([gO h0 lo (nI n) rv, gM m0 ar (nI n) rv 0, gR ar cI row, gQ ou cL f] ++ va_pl L (gE S)) H := hP
  have hD : va_D (fun q : Nat => s.heap.size ≤ q) ([gO h0 lo (nI n) rv, gM m0 ar (nI n) rv 0, gR ar cI row, gQ ou cL f] ++ va_pl L (gE S)) := hD
  have heq : r1 = r2 := by rw [hr1, hr2, b_ct hev (by decide)]
  refine lv_icmp_eq (tgt := 1021) hx hb dL_law_1003 (by decide) (fun _ => ?_) (fun c9 => absurd heq c9)
  refine W.widen (k := kc + 6) (n := ns + 40) (by omega) (by omega) ?_
  exact hend P n rv 0 L S f row H locs ls hC hev hrow hP hD hS hl
set_option maxHeartbeats 4000000 in
set_option maxRecDepth 100000 in
theorem k_lowestLeft {p : Program} {l : Launch} {e : Env} {s : State} {m : MethodId} {args : Array Value} {below : List Frame} {meth : Method} {c : Code} {Q : State → Prop} {D : va_G} {b Ls ix h0 m0 ar ou lo n kc ns : Nat} {xs : Nat → Int32} {cI cL : ClassId} {P : Nat → Int32} {rv tv : Int32} {L : List Nat} {S : gS} {f : Nat → Int64} {row : Nat → Int32} (hx : p.tables.exec = Jvm.exec) (hb : c.code = cL_law) (hml : c.maxLocals = 7) (hts : ∀ w ∈ wsL_law, w.before args s = true) (hown : s.vm.findClass RL = some m.cls) (hK : va_K D vwCl [(cI, .int), (cL, .long)] s) (hl9 : l.stackTraces = false) (hGL : gL (fun q : Nat => s.heap.size ≤ q) s) (hXs : va_X b Ls xs s s.heap) (hbl : b < s.heap.size) (hix : ix + 4 ≤ Ls) (hLs : Ls ≤ 2048) (hkc : kc + 6 ≤ 601024) (hns : ns + 40 ≤ 7293034) (hC : gCh P lo (L, S)) (hev : gEv P n) (hrow : gRow P n row) (H : Heap) (locs : List Loc) (ls : Array Slot) (hP : va_P D vwCl ([gO h0 lo (nI n) rv, gM m0 ar (nI n) rv tv, gR ar cI row, gQ ou cL f] ++ va_pl L (gE S)) H) (hD : va_D (fun q : Nat => s.heap.size ≤ q) ([gO h0 lo (nI n) rv, gM m0 ar (nI n) rv tv, gR ar cI row, gQ ou cL f] ++ va_pl L (gE S))) (hS : va_S (fun q : Nat => s.heap.size ≤ q) s.heap H locs) (hl : lv_has ls 7 [(0, .ref b), (1, .ref h0), (2, .ref m0), (3, .ref ou), (4, .int (nI ix))]) (hend : (∀ (P : Nat → Int32) (n : Nat) (rv tv : Int32) (L : List Nat) (S : gS) (f : Nat → Int64) (row : Nat → Int32) (H : Heap) (locs : List Loc) (ls : Array Slot), gCh P lo (L, S) → gEv P n → gRow P n row → va_P D vwCl ([gO h0 lo (nI n) rv, gM m0 ar (nI n) rv tv, gR ar cI row, gQ ou cL f] ++ va_pl L (gE S)) H → va_D (fun q : Nat => s.heap.size ≤ q) ([gO h0 lo (nI n) rv, gM m0 ar (nI n) rv tv, gR ar cI row, gQ ou cL f] ++ va_pl L (gE S)) → va_S (fun q : Nat => s.heap.size ≤ q) s.heap H locs → lv_has ls 7 [(0, .ref b), (1, .ref h0), (2, .ref m0), (3, .ref ou), (4, .int (nI ix))] → W p l e room_1 s m args below meth c H locs (kc + 6) (ns + 40) Q (F0 m 1021 ls []))) : W p l e room_1 s m args below meth c H locs kc ns Q (F0 m 1008 ls []) := by
  have hA : ∀ q : Nat, s.heap.size ≤ q → (fun q : Nat => s.heap.size ≤ q) q := fun _ h => h
  have hbA : ¬ (fun q : Nat => s.heap.size ≤ q) b := Nat.not_le.mpr hbl
  obtain ⟨g9, hch9, hwf9, hmx9⟩ := id hC
  refine lv_aload_n hx hb dL_law_1008 rfl (lv_at hl 1 rfl) ?_
  refine g_calli (va_runV (As := []) (rest := []) ⟨hx, hb, hml, hown, hts⟩ (c_left l D [(cI, .int), (cL, .long)] [gO h0 lo (nI n) rv, gM m0 ar (nI n) rv tv, gR ar cI row, gQ ou cL f] L S H.size (i := 0) rfl hwf9 hmx9 hch9) (cwV 0 hts gL_law_X1_lowestLeft rfl rfl rfl (by decide +kernel) ⟨Nat.le_of_ble_eq_true rfl, Nat.le_of_ble_eq_true rfl⟩) (gP_V (va_recv hK hP (ci := 1) rfl (g_inX (X := [gO h0 lo (nI n) rv, gM m0 ar (nI n) rv tv, gR ar cI row, gQ ou cL f]) (i := 0) rfl)) hP hK hD gBl_N (fun U _ hW => hGL.1.1.warm hW)) rfl rfl hl.1 rfl (lv_room (Nat.le_of_ble_eq_true rfl)) dL_law_1009 ⟨by show kc + 0 ≤ 601024; omega, by show ns + 0 ≤ 7293034; omega⟩) hD hS hA (fun r1 u1 H locs hr1 hP hD hS => ?_)
  refine lv_aload_n hx hb dL_law_1012 rfl (lv_at hl 2 rfl) ?_
  have hPm : va_P D vwCl (wM ([gO h0 lo (nI n) rv, gM m0 ar (nI n) rv tv, gR ar cI row, gQ ou cL f] ++ va_pl L (gE S)) 1 2 m0 ar cI (nI n) rv tv row) H := hP
  have hDm : va_D (fun q : Nat => s.heap.size ≤ q) (wM ([gO h0 lo (nI n) rv, gM m0 ar (nI n) rv tv, gR ar cI row, gQ ou cL f] ++ va_pl L (gE S)) 1 2 m0 ar cI (nI n) rv tv row) := hD
  refine g_calli (va_runV (As := []) (rest := [.int r1]) ⟨hx, hb, hml, hown, hts⟩ (m_lowestLeft l D [(cI, .int), (cL, .long)] (t := 0) rfl (w := [gO h0 lo (nI n) rv, gM m0 ar (nI n) rv tv, gR ar cI row, gQ ou cL f] ++ va_pl L (gE S)) (i := 1) (j := 2) (g_l4 (by omega)) (g_l4 (by omega)) (by decide) hev.2.1 hrow H.size ) (cwV 0 hts gL_law_X2_lowestLeft rfl rfl rfl (by decide +kernel) ⟨Nat.le_of_ble_eq_true rfl, Nat.le_of_ble_eq_true rfl⟩) (gP_V (va_recv hK hPm (ci := 2) rfl (gM_i (g_l4 (by omega)) (by decide))) hPm hK hDm gBl_T (fun _ _ _ => trivial)) rfl rfl hl.1 rfl (lv_room (Nat.le_of_ble_eq_true rfl)) dL_law_1013 ⟨by show kc + 0 + 0 ≤ 601024; omega, by show ns + 0 + 0 ≤ 7293034; omega⟩) hDm hS hA (fun r2 u2 H locs hr2 hP hD hS => ?_)
  have hP : va_P D vwCl ([gO h0 lo (nI n) rv, gM m0 ar (nI n) rv 0, gR ar cI row, gQ ou cL f] ++ va_pl L (gE S)) H := hP
  have hD : va_D (fun q : Nat => s.heap.size ≤ q) ([gO h0 lo (nI n) rv, gM m0 ar (nI n) rv 0, gR ar cI row, gQ ou cL f] ++ va_pl L (gE S)) := hD
  have heq : r1 = r2 := by obtain ⟨v, h1, h2⟩ := hr1; obtain ⟨w9, h3, h4⟩ := hr2; rw [h1, h3, b_left hev h2 h4]
  refine lv_icmp_eq (tgt := 1021) hx hb dL_law_1016 (by decide) (fun _ => ?_) (fun c9 => absurd heq c9)
  refine W.widen (k := kc + 6) (n := ns + 40) (by omega) (by omega) ?_
  exact hend P n rv 0 L S f row H locs ls hC hev hrow hP hD hS hl
