/-! the law's own small methods: a call, its answer or what it threw -/
abbrev gQ (ou : Nat) (cL : ClassId) (f : Nat → Int64) : Nat × va_E := (ou, .inl (cL, 1, .inr (.inl f)))
def gL (A : Nat → Prop) (U : State) : Prop := gG A U ∧ va_Nc xIAE xIOB U ∧ va_Nc xISE xIOB U ∧ va_Nc xISE xIAE U
theorem gL.call {A B : Nat → Prop} {s : State} {H : Heap} {locs : List Loc} (h : gL A s) (hS : va_S A s.heap H locs) (hAB : ∀ q, B q → A q) (U : State) (hU : U.heap = H) (hW : s.WarmedH U.vm) : gL B U :=
  ⟨h.1.call hS hAB U hU hW, va_Nc.moved hW.alike h.2.1, va_Nc.moved hW.alike h.2.2.1, va_Nc.moved hW.alike h.2.2.2⟩
theorem gBl_L {A : Nat → Prop} : gBl (gL A) := fun U g mk a h => gL.call (s := U) (H := U.heap) (locs := []) (U := U.calling g mk a) h va_S.rf (fun _ q => q) rfl (State.WarmedH.refl U)
theorem g_same {X : va_W} {i : Nat} {q : Nat × va_E} (h : X[i]? = some q) : X.set i q = X := by
  apply List.ext_getElem?
  intro k
  by_cases hk : k = i
  · subst hk
    rw [List.getElem?_set_self (List.getElem?_eq_some_iff.mp h).1, h]
  · rw [List.getElem?_set_ne (Ne.symm hk)]
theorem g_ofWH {l : Launch} {y : MethodName} {ws ws' : List Cond} {rm : Room} {D : va_G} {tys : List (ClassId × FieldType)} {av : List Value} {w : va_W} {sz : Nat} {G : State → Prop} {Qc : Array Value → State → Outcome → State → Prop} {mc ms : Nat} {cc : ByteArray} {maxL : Nat} {ret : Option FieldType} {hh : List (Nat × Nat × Nat × Nat)}
    (hy : plainName y.cls = true) (hw : ws = Cond.codeWith y cc maxL ret hh :: ws') (hn : (lg_sl av).length ≤ maxL)
    (body : ∀ (p : Program) (e : Env) (s : State) (m : MethodId) (below : List Frame) (meth : Method) (c : Code), p.tables.exec = Jvm.exec → c.code = cc → meth.sig.returnType = ret → c.maxLocals = maxL → (∀ w ∈ ws, w.before av.toArray s = true) → s.vm.findClass y.cls = some m.cls → meth.locks = false → c.exceptionTable.toList = tableOf hh → s.heap.size = sz → va_P D vwCl w s.heap → va_K D vwCl tys s → va_D (va_A w s.heap.size) w → (∀ q : Nat, s.heap.size ≤ q → va_A w s.heap.size q) → va_S (va_A w s.heap.size) s.heap s.heap [] → G s →
      ∀ ls : Array Slot, lv_has ls maxL (lv_args 0 av) → W p l e rm s m av.toArray below meth c s.heap [] 0 0 (MQ below Qc av.toArray s mc ms (va_A w sz)) (F0 m 0 ls [])) : Met l y ws rm (gP D tys av w sz G) Qc mc ms (va_A w sz) := by
  refine va_MetW (cc := cc) (maxL := maxL) (ret := ret) hy hw ?_
  intro p e s m args below meth c s₁ B hml hv
  obtain ⟨rfl, hsz, ⟨hP, hK, hD0⟩, hG⟩ := hv
  have hl := lv_entry av (n := maxL) hn
  rw [lg_entry_eq]
  have hts := atoms_spec (ws := ws) B.pre
  exact body p e s m below meth c B.exec B.bytes B.returns hml hts (findClass_of_methodNamed B.named) B.notSynchronized (vx_table (x := y) B (hts _ (by rw [hw]; exact List.mem_cons_self))) hsz hP hK hD0.self (fun q h => Or.inr h) va_S.rf hG _ hl
set_option maxHeartbeats 4000000 in
set_option maxRecDepth 100000 in
/-- enlarge: the call's answer, or what it threw -/
theorem w_enlarge (l : Launch) (hl9 : l.stackTraces = false) (D : va_G) (tys : List (ClassId × FieldType)) (X : va_W) (L : List Nat) (S : gS) (sz : Nat) {P : Nat → Int32} {i io h0 lo ou tl : Nat} {cL : ClassId} {sv rv : Int32} {f : Nat → Int64} (hX : X[i]? = some (gO h0 lo sv rv)) (hXo : X[io]? = some (gQ ou cL f)) (hio : i ≠ io) (htl : tys[tl]? = some (cL, .long)) (hC : gCh P lo (L, S)) (v0 : Int32) {n : Nat} (hsv : sv = nI n) (hn : n ≤ 5000) : Met l yL_enlarge wsL_enlarge ({ frames := 7, cells := 3, slots := 14, locals := 111 } : Room) (gP D tys [.ref h0, .int v0, .ref ou] (X ++ va_pl L (gE S)) sz (gL (va_A (X ++ va_pl L (gE S)) sz))) (va_Qi (fun (r : Int32) (u : (List Nat × gS) × (Nat → Int64) × Int32 × Int32) => (r = 0 ∧ ∃ rv9 : Int32, u.2.1 = vp_updL f 0 rv9.toInt64 ∧ u.2.2 = (v0, rv) ∧ (∃ vn : Nat, n < vn ∧ vn ≤ 5000 ∧ v0 = nI vn ∧ rv9 = nI (gct (gmv P (-1) 8 0 (vn - n)) 8 5000) ∧ gCh (gmv P (-1) 8 0 (vn - n)) lo u.1)) ∨ (r = 1 ∧ u.2.1 = f ∧ u.2.2 = (sv, rv) ∧ (¬ ∃ vn : Nat, n < vn ∧ vn ≤ 5000 ∧ v0 = nI vn) ∧ gCh P lo u.1)) (fun u t => gWd D tys (va_A (X ++ va_pl L (gE S)) sz) ((X.set i (gO h0 lo u.2.2.1 u.2.2.2)).set io (gQ ou cL u.2.1) ++ va_pl u.1.1 (gE u.1.2)) t) (va_A (X ++ va_pl L (gE S)) sz)) 3 14 (va_A (X ++ va_pl L (gE S)) sz) := by
  refine g_ofWH (cc := cL_enlarge) (maxL := 4) (ret := some .int) (by decide) rfl (Nat.le_of_ble_eq_true rfl) ?_
  intro p e s m below meth c hx hb hr hml hts hown hlocks htab hsz hP hK hD hA hS hGG ls hl
  subst hsz
  have hown : s.vm.findClass RL = some m.cls := hown
  have hl : lv_has ls 4 [(0, .ref h0), (1, .int v0), (2, .ref ou)] := hl
  have e0 : X.set i (gO h0 lo sv rv) = X := g_same hX
  refine lv_aload_n hx hb dL_enlarge_0 rfl (lv_at hl 2 rfl) ?_
  refine lv_iconst (v := 0) hx hb dL_enlarge_1 (by decide) ?_
  refine lv_aload_n hx hb dL_enlarge_2 rfl (lv_at hl 0 rfl) ?_
  refine lv_iload_n hx hb dL_enlarge_3 rfl (lv_at hl 1 rfl) ?_
  refine g_xcalli (vx_runV (As := [.int v0]) (rest := [.int 0, .ref ou]) ⟨hx, hb, hml, hown, hts⟩ (c_enlarge l hl9 D tys X L S s.heap.size hX hC v0 hsv hn) (cwV 1 hts gL_enlarge_X1_enlarge rfl rfl rfl (by decide +kernel) ⟨Nat.le_of_ble_eq_true rfl, Nat.le_of_ble_eq_true rfl⟩) (gP_V (va_recv hK hP (ci := 1) rfl (g_inX hX)) hP hK hD gBl_G (fun U hU hW => hGG.1.call hS (gA_sub hD hS hA) U hU hW)) rfl rfl hl.1 rfl (lv_room (Nat.le_of_ble_eq_true rfl)) dL_enlarge_4 ⟨Nat.le_of_ble_eq_true rfl, Nat.le_of_ble_eq_true rfl⟩) hD hS hA (fun E ce q9 u9 H locs hc hP hD hS e1 e2 e3 => ?_) (fun r9 u9 H locs hr9 hP hD hS => ?_)
  · obtain ⟨hc, hC9⟩ := hc
    have hPx : va_P D vwCl ((X.set i (gO h0 lo sv rv)).set io (gQ ou cL f) ++ va_pl u9.1 (gE u9.2)) H := by rw [e0, g_same hXo]; exact hP
    have hDx : va_D (va_A (X ++ va_pl L (gE S)) s.heap.size) ((X.set i (gO h0 lo sv rv)).set io (gQ ou cL f) ++ va_pl u9.1 (gE u9.2)) := by rw [e0, g_same hXo]; exact hD
    obtain ⟨rfl, hc⟩ := hc
    refine vx_catch (own := RL) (name := xIAE) hown [] (⟨0, 9, 12, 13⟩ : ExceptionTableEntry) [] (by rw [htab]; rfl) (fun z hz => nomatch hz) (by decide) (by decide) (hts (.classLink RL 13 xIAE) (by decide +kernel)) (va_Nw.use rfl (hGG.1.2.1 (.castable xIAE xIAE) (by decide +kernel))) e1 e2 e3 ?_
    refine lv_astore_n (lv' := [(3, .ref q9), (0, .ref h0), (1, .int v0), (2, .ref ou)]) hx hb dL_enlarge_12 rfl hl (by decide) rfl (fun ls hl => ?_)
    refine lv_iconst (v := 1) hx hb dL_enlarge_13 (by decide) ?_
    exact g_reti (wo := fun u : (List Nat × gS) × (Nat → Int64) × Int32 × Int32 => (X.set i (gO h0 lo u.2.2.1 u.2.2.2)).set io (gQ ou cL u.2.1) ++ va_pl u.1.1 (gE u.1.2)) hx hb hr hlocks hK 1 (u9, f, sv, rv) hPx hDx hS (Nat.le_of_ble_eq_true rfl) (Nat.le_of_ble_eq_true rfl) (Or.inr (⟨rfl, rfl, rfl, hc, hC9⟩)) dL_enlarge_14
  · skip
    refine lv_i2l (v := r9.toInt64) hx hb dL_enlarge_7 rfl ?_
    have hXo2 : (X.set i (gO h0 lo v0 (rv)))[io]? = some (gQ ou cL f) := by rw [List.getElem?_set_ne hio]; exact hXo
    refine va_last hx hb hK hP hD hS io tl (g_inX hXo2) htl (vp_in_nI (n := 0) (N := 1) (by omega) (by omega)) dL_enlarge_8 (fun H locs hP2 hD2 hS => ?_)
    have hw := g_setX (Y := va_pl u9.1 (gE u9.2)) (v := gQ ou cL (vp_updL f 0 r9.toInt64)) hXo2
    have hP := g_eqP hw hP2
    have hD := g_eqD hw hD2
    refine lv_goto (tgt := 15) hx hb dL_enlarge_9 (by decide) ?_
    refine lv_iconst (v := 0) hx hb dL_enlarge_15 (by decide) ?_
    exact g_reti (wo := fun u : (List Nat × gS) × (Nat → Int64) × Int32 × Int32 => (X.set i (gO h0 lo u.2.2.1 u.2.2.2)).set io (gQ ou cL u.2.1) ++ va_pl u.1.1 (gE u.1.2)) hx hb hr hlocks hK 0 (u9, vp_updL f 0 r9.toInt64, v0, rv) hP hD hS (Nat.le_of_ble_eq_true rfl) (Nat.le_of_ble_eq_true rfl) (Or.inl ⟨rfl, r9, rfl, rfl, hr9⟩) dL_enlarge_16
set_option maxHeartbeats 4000000 in
set_option maxRecDepth 100000 in
/-- pour: the call's answer, or what it threw -/
theorem w_pour (l : Launch) (hl9 : l.stackTraces = false) (D : va_G) (tys : List (ClassId × FieldType)) (X : va_W) (L : List Nat) (S : gS) (sz : Nat) {P : Nat → Int32} {i io h0 lo ou tl : Nat} {cL : ClassId} {sv rv : Int32} {f : Nat → Int64} (hX : X[i]? = some (gO h0 lo sv rv)) (hXo : X[io]? = some (gQ ou cL f)) (hio : i ≠ io) (htl : tys[tl]? = some (cL, .long)) (hC : gCh P lo (L, S)) (v0 v1 : Int32) : Met l yL_pour wsL_pour ({ frames := 8, cells := 4, slots := 20, locals := 124 } : Room) (gP D tys [.ref h0, .int v0, .int v1, .ref ou] (X ++ va_pl L (gE S)) sz (gL (va_A (X ++ va_pl L (gE S)) sz))) (va_Qi (fun (r : Int32) (u : (List Nat × gS) × (Nat → Int64) × Int32 × Int32) => (r = 0 ∧ ∃ rv9 : Int32, u.2.1 = vp_updL f 0 rv9.toInt64 ∧ u.2.2 = (sv, rv) ∧ (gGob v0 ∧ ∃ cn : Nat, 1 ≤ cn ∧ cn ≤ 200 ∧ v1 = nI cn ∧ ¬ glow (fun j => P j = 8) 5000 0 ∧ rv9 = nI (min cn (gct P 8 5000)) ∧ gCh (gmv P 8 v0 0 cn) lo u.1)) ∨ (r = 1 ∧ u.2.1 = f ∧ u.2.2 = (sv, rv) ∧ (¬ gGob v0) ∧ gCh P lo u.1) ∨ (r = 2 ∧ u.2.1 = f ∧ u.2.2 = (sv, rv) ∧ (gGob v0 ∧ ¬ gCnt v1) ∧ gCh P lo u.1) ∨ (r = 3 ∧ u.2.1 = f ∧ u.2.2 = (sv, rv) ∧ (gGob v0 ∧ gCnt v1 ∧ glow (fun j => P j = 8) 5000 0) ∧ gCh P lo u.1)) (fun u t => gWd D tys (va_A (X ++ va_pl L (gE S)) sz) ((X.set i (gO h0 lo u.2.2.1 u.2.2.2)).set io (gQ ou cL u.2.1) ++ va_pl u.1.1 (gE u.1.2)) t) (va_A (X ++ va_pl L (gE S)) sz)) 4 20 (va_A (X ++ va_pl L (gE S)) sz) := by
  refine g_ofWH (cc := cL_pour) (maxL := 5) (ret := some .int) (by decide) rfl (Nat.le_of_ble_eq_true rfl) ?_
  intro p e s m below meth c hx hb hr hml hts hown hlocks htab hsz hP hK hD hA hS hGG ls hl
  subst hsz
  have hown : s.vm.findClass RL = some m.cls := hown
  have hl : lv_has ls 5 [(0, .ref h0), (1, .int v0), (2, .int v1), (3, .ref ou)] := hl
  have e0 : X.set i (gO h0 lo sv rv) = X := g_same hX
  refine lv_aload_n hx hb dL_pour_0 rfl (lv_at hl 3 rfl) ?_
  refine lv_iconst (v := 0) hx hb dL_pour_1 (by decide) ?_
  refine lv_aload_n hx hb dL_pour_2 rfl (lv_at hl 0 rfl) ?_
  refine lv_iload_n hx hb dL_pour_3 rfl (lv_at hl 1 rfl) ?_
  refine lv_iload_n hx hb dL_pour_4 rfl (lv_at hl 2 rfl) ?_
  refine g_xcalli (vx_runV (As := [.int v0, .int v1]) (rest := [.int 0, .ref ou]) ⟨hx, hb, hml, hown, hts⟩ (c_pour l hl9 D tys X L S s.heap.size hX hC v0 v1) (cwV 2 hts gL_pour_X1_pour rfl rfl rfl (by decide +kernel) ⟨Nat.le_of_ble_eq_true rfl, Nat.le_of_ble_eq_true rfl⟩) (gP_V (va_recv hK hP (ci := 1) rfl (g_inX hX)) hP hK hD gBl_G (fun U hU hW => hGG.1.call hS (gA_sub hD hS hA) U hU hW)) rfl rfl hl.1 rfl (lv_room (Nat.le_of_ble_eq_true rfl)) dL_pour_5 ⟨Nat.le_of_ble_eq_true rfl, Nat.le_of_ble_eq_true rfl⟩) hD hS hA (fun E ce q9 u9 H locs hc hP hD hS e1 e2 e3 => ?_) (fun r9 u9 H locs hr9 hP hD hS => ?_)
  · obtain ⟨hc, hC9⟩ := hc
    have hPx : va_P D vwCl ((X.set i (gO h0 lo sv rv)).set io (gQ ou cL f) ++ va_pl u9.1 (gE u9.2)) H := by rw [e0, g_same hXo]; exact hP
    have hDx : va_D (va_A (X ++ va_pl L (gE S)) s.heap.size) ((X.set i (gO h0 lo sv rv)).set io (gQ ou cL f) ++ va_pl u9.1 (gE u9.2)) := by rw [e0, g_same hXo]; exact hD
    rcases hc with hc | hc | hc
    · obtain ⟨rfl, hc⟩ := hc
      refine vx_catch (own := RL) (name := xIOB) hown [] (⟨0, 10, 13, 19⟩ : ExceptionTableEntry) [(⟨0, 10, 17, 13⟩ : ExceptionTableEntry), (⟨0, 10, 21, 21⟩ : ExceptionTableEntry)] (by rw [htab]; rfl) (fun z hz => nomatch hz) (by decide) (by decide) (hts (.classLink RL 19 xIOB) (by decide +kernel)) (va_Nw.use rfl (hGG.1.2.1 (.castable xIOB xIOB) (by decide +kernel))) e1 e2 e3 ?_
      refine lv_astore (lv' := [(4, .ref q9), (0, .ref h0), (1, .int v0), (2, .int v1), (3, .ref ou)]) hx hb dL_pour_13 hl (by decide) rfl (fun ls hl => ?_)
      refine lv_iconst (v := 1) hx hb dL_pour_15 (by decide) ?_
      exact g_reti (wo := fun u : (List Nat × gS) × (Nat → Int64) × Int32 × Int32 => (X.set i (gO h0 lo u.2.2.1 u.2.2.2)).set io (gQ ou cL u.2.1) ++ va_pl u.1.1 (gE u.1.2)) hx hb hr hlocks hK 1 (u9, f, sv, rv) hPx hDx hS (Nat.le_of_ble_eq_true rfl) (Nat.le_of_ble_eq_true rfl) (Or.inr (Or.inl ⟨rfl, rfl, rfl, hc, hC9⟩)) dL_pour_16
    · obtain ⟨rfl, hc⟩ := hc
      refine vx_catch (own := RL) (name := xIAE) hown [(⟨0, 10, 13, 19⟩ : ExceptionTableEntry)] (⟨0, 10, 17, 13⟩ : ExceptionTableEntry) [(⟨0, 10, 21, 21⟩ : ExceptionTableEntry)] (by rw [htab]; rfl) (fun z hz => by rw [List.mem_singleton.mp hz]; exact Or.inr ⟨by decide, xIOB, hts (.classLink RL 19 xIOB) (by decide +kernel), hGG.2.1⟩) (by decide) (by decide) (hts (.classLink RL 13 xIAE) (by decide +kernel)) (va_Nw.use rfl (hGG.1.2.1 (.castable xIAE xIAE) (by decide +kernel))) e1 e2 e3 ?_
      refine lv_astore (lv' := [(4, .ref q9), (0, .ref h0), (1, .int v0), (2, .int v1), (3, .ref ou)]) hx hb dL_pour_17 hl (by decide) rfl (fun ls hl => ?_)
      refine lv_iconst (v := 2) hx hb dL_pour_19 (by decide) ?_
      exact g_reti (wo := fun u : (List Nat × gS) × (Nat → Int64) × Int32 × Int32 => (X.set i (gO h0 lo u.2.2.1 u.2.2.2)).set io (gQ ou cL u.2.1) ++ va_pl u.1.1 (gE u.1.2)) hx hb hr hlocks hK 2 (u9, f, sv, rv) hPx hDx hS (Nat.le_of_ble_eq_true rfl) (Nat.le_of_ble_eq_true rfl) (Or.inr (Or.inr (Or.inl ⟨rfl, rfl, rfl, hc, hC9⟩))) dL_pour_20
    · obtain ⟨rfl, hc⟩ := hc
      refine vx_catch (own := RL) (name := xISE) hown [(⟨0, 10, 13, 19⟩ : ExceptionTableEntry), (⟨0, 10, 17, 13⟩ : ExceptionTableEntry)] (⟨0, 10, 21, 21⟩ : ExceptionTableEntry) [] (by rw [htab]; rfl) (fun z hz => by rcases List.mem_cons.mp hz with q | q; rw [q]; exact Or.inr ⟨by decide, xIOB, hts (.classLink RL 19 xIOB) (by decide +kernel), hGG.2.2.1⟩; rw [List.mem_singleton.mp q]; exact Or.inr ⟨by decide, xIAE, hts (.classLink RL 13 xIAE) (by decide +kernel), hGG.2.2.2⟩) (by decide) (by decide) (hts (.classLink RL 21 xISE) (by decide +kernel)) (va_Nw.use rfl (hGG.1.2.1 (.castable xISE xISE) (by decide +kernel))) e1 e2 e3 ?_
      refine lv_astore (lv' := [(4, .ref q9), (0, .ref h0), (1, .int v0), (2, .int v1), (3, .ref ou)]) hx hb dL_pour_21 hl (by decide) rfl (fun ls hl => ?_)
      refine lv_iconst (v := 3) hx hb dL_pour_23 (by decide) ?_
      exact g_reti (wo := fun u : (List Nat × gS) × (Nat → Int64) × Int32 × Int32 => (X.set i (gO h0 lo u.2.2.1 u.2.2.2)).set io (gQ ou cL u.2.1) ++ va_pl u.1.1 (gE u.1.2)) hx hb hr hlocks hK 3 (u9, f, sv, rv) hPx hDx hS (Nat.le_of_ble_eq_true rfl) (Nat.le_of_ble_eq_true rfl) (Or.inr (Or.inr (Or.inr (⟨rfl, rfl, rfl, hc, hC9⟩)))) dL_pour_24
  · skip
    refine lv_i2l (v := r9.toInt64) hx hb dL_pour_8 rfl ?_
    have hXo2 : (X.set i (gO h0 lo sv rv))[io]? = some (gQ ou cL f) := by rw [e0]; exact hXo
    have hP : va_P D vwCl (X.set i (gO h0 lo sv rv) ++ va_pl u9.1 (gE u9.2)) H := by rw [e0]; exact hP
    have hD : va_D (va_A (X ++ va_pl L (gE S)) s.heap.size) (X.set i (gO h0 lo sv rv) ++ va_pl u9.1 (gE u9.2)) := by rw [e0]; exact hD
    refine va_last hx hb hK hP hD hS io tl (g_inX hXo2) htl (vp_in_nI (n := 0) (N := 1) (by omega) (by omega)) dL_pour_9 (fun H locs hP2 hD2 hS => ?_)
    have hw := g_setX (Y := va_pl u9.1 (gE u9.2)) (v := gQ ou cL (vp_updL f 0 r9.toInt64)) hXo2
    have hP := g_eqP hw hP2
    have hD := g_eqD hw hD2
    refine lv_goto (tgt := 25) hx hb dL_pour_10 (by decide) ?_
    refine lv_iconst (v := 0) hx hb dL_pour_25 (by decide) ?_
    exact g_reti (wo := fun u : (List Nat × gS) × (Nat → Int64) × Int32 × Int32 => (X.set i (gO h0 lo u.2.2.1 u.2.2.2)).set io (gQ ou cL u.2.1) ++ va_pl u.1.1 (gE u.1.2)) hx hb hr hlocks hK 0 (u9, vp_updL f 0 r9.toInt64, sv, rv) hP hD hS (Nat.le_of_ble_eq_true rfl) (Nat.le_of_ble_eq_true rfl) (Or.inl ⟨rfl, r9, rfl, rfl, hr9⟩) dL_pour_26
set_option maxHeartbeats 4000000 in
set_option maxRecDepth 100000 in
/-- drink: the call's answer, or what it threw -/
theorem w_drink (l : Launch) (hl9 : l.stackTraces = false) (D : va_G) (tys : List (ClassId × FieldType)) (X : va_W) (L : List Nat) (S : gS) (sz : Nat) {P : Nat → Int32} {i io h0 lo ou tl : Nat} {cL : ClassId} {sv rv : Int32} {f : Nat → Int64} (hX : X[i]? = some (gO h0 lo sv rv)) (hXo : X[io]? = some (gQ ou cL f)) (hio : i ≠ io) (htl : tys[tl]? = some (cL, .long)) (hC : gCh P lo (L, S)) (v0 : Int32) (ho : gOut P) : Met l yL_drink wsL_drink ({ frames := 8, cells := 5, slots := 22, locals := 124 } : Room) (gP D tys [.ref h0, .int v0, .ref ou] (X ++ va_pl L (gE S)) sz (gL (va_A (X ++ va_pl L (gE S)) sz))) (va_Qi (fun (r : Int32) (u : (List Nat × gS) × (Nat → Int64) × Int32 × Int32) => (r = 0 ∧ ∃ rv9 : Int32, u.2.1 = vp_updL f 0 rv9.toInt64 ∧ u.2.2 = (sv, rv) ∧ (gGob v0 ∧ ∃ v : Nat, 1 ≤ v ∧ v ≤ 5000 ∧ rv9 = nI v ∧ (glow (fun j => P j = v0) 5000 v ∨ (glow (fun j => P j = v0) 5000 0 ∧ glow (fun j => P j = 8) 5000 v)) ∧ gCh (va_up P v 9) lo u.1)) ∨ (r = 1 ∧ u.2.1 = f ∧ u.2.2 = (sv, rv) ∧ (¬ gGob v0) ∧ gCh P lo u.1) ∨ (r = 2 ∧ u.2.1 = f ∧ u.2.2 = (sv, rv) ∧ (gGob v0 ∧ glow (fun j => P j = v0) 5000 0 ∧ glow (fun j => P j = 8) 5000 0) ∧ gCh P lo u.1)) (fun u t => gWd D tys (va_A (X ++ va_pl L (gE S)) sz) ((X.set i (gO h0 lo u.2.2.1 u.2.2.2)).set io (gQ ou cL u.2.1) ++ va_pl u.1.1 (gE u.1.2)) t) (va_A (X ++ va_pl L (gE S)) sz)) 5 22 (va_A (X ++ va_pl L (gE S)) sz) := by
  refine g_ofWH (cc := cL_drink) (maxL := 4) (ret := some .int) (by decide) rfl (Nat.le_of_ble_eq_true rfl) ?_
  intro p e s m below meth c hx hb hr hml hts hown hlocks htab hsz hP hK hD hA hS hGG ls hl
  subst hsz
  have hown : s.vm.findClass RL = some m.cls := hown
  have hl : lv_has ls 4 [(0, .ref h0), (1, .int v0), (2, .ref ou)] := hl
  have e0 : X.set i (gO h0 lo sv rv) = X := g_same hX
  refine lv_aload_n hx hb dL_drink_0 rfl (lv_at hl 2 rfl) ?_
  refine lv_iconst (v := 0) hx hb dL_drink_1 (by decide) ?_
  refine lv_aload_n hx hb dL_drink_2 rfl (lv_at hl 0 rfl) ?_
  refine lv_iload_n hx hb dL_drink_3 rfl (lv_at hl 1 rfl) ?_
  refine g_xcalli (vx_runV (As := [.int v0]) (rest := [.int 0, .ref ou]) ⟨hx, hb, hml, hown, hts⟩ (c_drink l hl9 D tys X L S s.heap.size hX hC v0 ho) (cwV 1 hts gL_drink_X1_drink rfl rfl rfl (by decide +kernel) ⟨Nat.le_of_ble_eq_true rfl, Nat.le_of_ble_eq_true rfl⟩) (gP_V (va_recv hK hP (ci := 1) rfl (g_inX hX)) hP hK hD gBl_G (fun U hU hW => hGG.1.call hS (gA_sub hD hS hA) U hU hW)) rfl rfl hl.1 rfl (lv_room (Nat.le_of_ble_eq_true rfl)) dL_drink_4 ⟨Nat.le_of_ble_eq_true rfl, Nat.le_of_ble_eq_true rfl⟩) hD hS hA (fun E ce q9 u9 H locs hc hP hD hS e1 e2 e3 => ?_) (fun r9 u9 H locs hr9 hP hD hS => ?_)
  · obtain ⟨hc, hC9⟩ := hc
    have hPx : va_P D vwCl ((X.set i (gO h0 lo sv rv)).set io (gQ ou cL f) ++ va_pl u9.1 (gE u9.2)) H := by rw [e0, g_same hXo]; exact hP
    have hDx : va_D (va_A (X ++ va_pl L (gE S)) s.heap.size) ((X.set i (gO h0 lo sv rv)).set io (gQ ou cL f) ++ va_pl u9.1 (gE u9.2)) := by rw [e0, g_same hXo]; exact hD
    rcases hc with hc | hc
    · obtain ⟨rfl, hc⟩ := hc
      refine vx_catch (own := RL) (name := xIOB) hown [] (⟨0, 9, 12, 19⟩ : ExceptionTableEntry) [(⟨0, 9, 15, 21⟩ : ExceptionTableEntry)] (by rw [htab]; rfl) (fun z hz => nomatch hz) (by decide) (by decide) (hts (.classLink RL 19 xIOB) (by decide +kernel)) (va_Nw.use rfl (hGG.1.2.1 (.castable xIOB xIOB) (by decide +kernel))) e1 e2 e3 ?_
      refine lv_astore_n (lv' := [(3, .ref q9), (0, .ref h0), (1, .int v0), (2, .ref ou)]) hx hb dL_drink_12 rfl hl (by decide) rfl (fun ls hl => ?_)
      refine lv_iconst (v := 1) hx hb dL_drink_13 (by decide) ?_
      exact g_reti (wo := fun u : (List Nat × gS) × (Nat → Int64) × Int32 × Int32 => (X.set i (gO h0 lo u.2.2.1 u.2.2.2)).set io (gQ ou cL u.2.1) ++ va_pl u.1.1 (gE u.1.2)) hx hb hr hlocks hK 1 (u9, f, sv, rv) hPx hDx hS (Nat.le_of_ble_eq_true rfl) (Nat.le_of_ble_eq_true rfl) (Or.inr (Or.inl ⟨rfl, rfl, rfl, hc, hC9⟩)) dL_drink_14
    · obtain ⟨rfl, hc⟩ := hc
      refine vx_catch (own := RL) (name := xISE) hown [(⟨0, 9, 12, 19⟩ : ExceptionTableEntry)] (⟨0, 9, 15, 21⟩ : ExceptionTableEntry) [] (by rw [htab]; rfl) (fun z hz => by rw [List.mem_singleton.mp hz]; exact Or.inr ⟨by decide, xIOB, hts (.classLink RL 19 xIOB) (by decide +kernel), hGG.2.2.1⟩) (by decide) (by decide) (hts (.classLink RL 21 xISE) (by decide +kernel)) (va_Nw.use rfl (hGG.1.2.1 (.castable xISE xISE) (by decide +kernel))) e1 e2 e3 ?_
      refine lv_astore_n (lv' := [(3, .ref q9), (0, .ref h0), (1, .int v0), (2, .ref ou)]) hx hb dL_drink_15 rfl hl (by decide) rfl (fun ls hl => ?_)
      refine lv_iconst (v := 2) hx hb dL_drink_16 (by decide) ?_
      exact g_reti (wo := fun u : (List Nat × gS) × (Nat → Int64) × Int32 × Int32 => (X.set i (gO h0 lo u.2.2.1 u.2.2.2)).set io (gQ ou cL u.2.1) ++ va_pl u.1.1 (gE u.1.2)) hx hb hr hlocks hK 2 (u9, f, sv, rv) hPx hDx hS (Nat.le_of_ble_eq_true rfl) (Nat.le_of_ble_eq_true rfl) (Or.inr (Or.inr (⟨rfl, rfl, rfl, hc, hC9⟩))) dL_drink_17
  · skip
    refine lv_i2l (v := r9.toInt64) hx hb dL_drink_7 rfl ?_
    have hXo2 : (X.set i (gO h0 lo sv rv))[io]? = some (gQ ou cL f) := by rw [e0]; exact hXo
    have hP : va_P D vwCl (X.set i (gO h0 lo sv rv) ++ va_pl u9.1 (gE u9.2)) H := by rw [e0]; exact hP
    have hD : va_D (va_A (X ++ va_pl L (gE S)) s.heap.size) (X.set i (gO h0 lo sv rv) ++ va_pl u9.1 (gE u9.2)) := by rw [e0]; exact hD
    refine va_last hx hb hK hP hD hS io tl (g_inX hXo2) htl (vp_in_nI (n := 0) (N := 1) (by omega) (by omega)) dL_drink_8 (fun H locs hP2 hD2 hS => ?_)
    have hw := g_setX (Y := va_pl u9.1 (gE u9.2)) (v := gQ ou cL (vp_updL f 0 r9.toInt64)) hXo2
    have hP := g_eqP hw hP2
    have hD := g_eqD hw hD2
    refine lv_goto (tgt := 18) hx hb dL_drink_9 (by decide) ?_
    refine lv_iconst (v := 0) hx hb dL_drink_18 (by decide) ?_
    exact g_reti (wo := fun u : (List Nat × gS) × (Nat → Int64) × Int32 × Int32 => (X.set i (gO h0 lo u.2.2.1 u.2.2.2)).set io (gQ ou cL u.2.1) ++ va_pl u.1.1 (gE u.1.2)) hx hb hr hlocks hK 0 (u9, vp_updL f 0 r9.toInt64, sv, rv) hP hD hS (Nat.le_of_ble_eq_true rfl) (Nat.le_of_ble_eq_true rfl) (Or.inl ⟨rfl, r9, rfl, rfl, hr9⟩) dL_drink_19
set_option maxHeartbeats 4000000 in
set_option maxRecDepth 100000 in
/-- pourBack: the call's answer, or what it threw -/
theorem w_pourBack (l : Launch) (hl9 : l.stackTraces = false) (D : va_G) (tys : List (ClassId × FieldType)) (X : va_W) (L : List Nat) (S : gS) (sz : Nat) {P : Nat → Int32} {i io h0 lo ou tl : Nat} {cL : ClassId} {sv rv : Int32} {f : Nat → Int64} (hX : X[i]? = some (gO h0 lo sv rv)) (hXo : X[io]? = some (gQ ou cL f)) (hio : i ≠ io) (htl : tys[tl]? = some (cL, .long)) (hC : gCh P lo (L, S)) (v0 : Int32) : Met l yL_pourBack wsL_pourBack ({ frames := 8, cells := 3, slots := 14, locals := 129 } : Room) (gP D tys [.ref h0, .int v0, .ref ou] (X ++ va_pl L (gE S)) sz (gL (va_A (X ++ va_pl L (gE S)) sz))) (va_Qi (fun (r : Int32) (u : (List Nat × gS) × (Nat → Int64) × Int32 × Int32) => (r = 0 ∧ ∃ rv9 : Int32, u.2.1 = vp_updL f 0 rv9.toInt64 ∧ u.2.2 = (sv, rv) ∧ (gGob v0 ∧ rv9 = nI (gct P v0 5000)) ∧ gCh (gmv P v0 8 0 5000) lo u.1) ∨ (r = 1 ∧ u.2.1 = f ∧ u.2.2 = (sv, rv) ∧ (¬ gGob v0) ∧ gCh P lo u.1)) (fun u t => gWd D tys (va_A (X ++ va_pl L (gE S)) sz) ((X.set i (gO h0 lo u.2.2.1 u.2.2.2)).set io (gQ ou cL u.2.1) ++ va_pl u.1.1 (gE u.1.2)) t) (va_A (X ++ va_pl L (gE S)) sz)) 3 14 (va_A (X ++ va_pl L (gE S)) sz) := by
  refine g_ofWH (cc := cL_pourBack) (maxL := 4) (ret := some .int) (by decide) rfl (Nat.le_of_ble_eq_true rfl) ?_
  intro p e s m below meth c hx hb hr hml hts hown hlocks htab hsz hP hK hD hA hS hGG ls hl
  subst hsz
  have hown : s.vm.findClass RL = some m.cls := hown
  have hl : lv_has ls 4 [(0, .ref h0), (1, .int v0), (2, .ref ou)] := hl
  have e0 : X.set i (gO h0 lo sv rv) = X := g_same hX
  refine lv_aload_n hx hb dL_pourBack_0 rfl (lv_at hl 2 rfl) ?_
  refine lv_iconst (v := 0) hx hb dL_pourBack_1 (by decide) ?_
  refine lv_aload_n hx hb dL_pourBack_2 rfl (lv_at hl 0 rfl) ?_
  refine lv_iload_n hx hb dL_pourBack_3 rfl (lv_at hl 1 rfl) ?_
  refine g_xcalli (vx_runV (As := [.int v0]) (rest := [.int 0, .ref ou]) ⟨hx, hb, hml, hown, hts⟩ (c_pourBack l hl9 D tys X L S s.heap.size hX hC v0) (cwV 1 hts gL_pourBack_X1_pourBack rfl rfl rfl (by decide +kernel) ⟨Nat.le_of_ble_eq_true rfl, Nat.le_of_ble_eq_true rfl⟩) (gP_V (va_recv hK hP (ci := 1) rfl (g_inX hX)) hP hK hD gBl_G (fun U hU hW => hGG.1.call hS (gA_sub hD hS hA) U hU hW)) rfl rfl hl.1 rfl (lv_room (Nat.le_of_ble_eq_true rfl)) dL_pourBack_4 ⟨Nat.le_of_ble_eq_true rfl, Nat.le_of_ble_eq_true rfl⟩) hD hS hA (fun E ce q9 u9 H locs hc hP hD hS e1 e2 e3 => ?_) (fun r9 u9 H locs hr9 hP hD hS => ?_)
  · obtain ⟨hc, hC9⟩ := hc
    have hPx : va_P D vwCl ((X.set i (gO h0 lo sv rv)).set io (gQ ou cL f) ++ va_pl u9.1 (gE u9.2)) H := by rw [e0, g_same hXo]; exact hP
    have hDx : va_D (va_A (X ++ va_pl L (gE S)) s.heap.size) ((X.set i (gO h0 lo sv rv)).set io (gQ ou cL f) ++ va_pl u9.1 (gE u9.2)) := by rw [e0, g_same hXo]; exact hD
    obtain ⟨rfl, hc⟩ := hc
    refine vx_catch (own := RL) (name := xIOB) hown [] (⟨0, 9, 12, 19⟩ : ExceptionTableEntry) [] (by rw [htab]; rfl) (fun z hz => nomatch hz) (by decide) (by decide) (hts (.classLink RL 19 xIOB) (by decide +kernel)) (va_Nw.use rfl (hGG.1.2.1 (.castable xIOB xIOB) (by decide +kernel))) e1 e2 e3 ?_
    refine lv_astore_n (lv' := [(3, .ref q9), (0, .ref h0), (1, .int v0), (2, .ref ou)]) hx hb dL_pourBack_12 rfl hl (by decide) rfl (fun ls hl => ?_)
    refine lv_iconst (v := 1) hx hb dL_pourBack_13 (by decide) ?_
    exact g_reti (wo := fun u : (List Nat × gS) × (Nat → Int64) × Int32 × Int32 => (X.set i (gO h0 lo u.2.2.1 u.2.2.2)).set io (gQ ou cL u.2.1) ++ va_pl u.1.1 (gE u.1.2)) hx hb hr hlocks hK 1 (u9, f, sv, rv) hPx hDx hS (Nat.le_of_ble_eq_true rfl) (Nat.le_of_ble_eq_true rfl) (Or.inr (⟨rfl, rfl, rfl, hc, hC9⟩)) dL_pourBack_14
  · skip
    refine lv_i2l (v := r9.toInt64) hx hb dL_pourBack_7 rfl ?_
    have hXo2 : (X.set i (gO h0 lo sv rv))[io]? = some (gQ ou cL f) := by rw [e0]; exact hXo
    have hP : va_P D vwCl (X.set i (gO h0 lo sv rv) ++ va_pl u9.1 (gE u9.2)) H := by rw [e0]; exact hP
    have hD : va_D (va_A (X ++ va_pl L (gE S)) s.heap.size) (X.set i (gO h0 lo sv rv) ++ va_pl u9.1 (gE u9.2)) := by rw [e0]; exact hD
    refine va_last hx hb hK hP hD hS io tl (g_inX hXo2) htl (vp_in_nI (n := 0) (N := 1) (by omega) (by omega)) dL_pourBack_8 (fun H locs hP2 hD2 hS => ?_)
    have hw := g_setX (Y := va_pl u9.1 (gE u9.2)) (v := gQ ou cL (vp_updL f 0 r9.toInt64)) hXo2
    have hP := g_eqP hw hP2
    have hD := g_eqD hw hD2
    refine lv_goto (tgt := 15) hx hb dL_pourBack_9 (by decide) ?_
    refine lv_iconst (v := 0) hx hb dL_pourBack_15 (by decide) ?_
    exact g_reti (wo := fun u : (List Nat × gS) × (Nat → Int64) × Int32 × Int32 => (X.set i (gO h0 lo u.2.2.1 u.2.2.2)).set io (gQ ou cL u.2.1) ++ va_pl u.1.1 (gE u.1.2)) hx hb hr hlocks hK 0 (u9, vp_updL f 0 r9.toInt64, sv, rv) hP hD hS (Nat.le_of_ble_eq_true rfl) (Nat.le_of_ble_eq_true rfl) (Or.inl ⟨rfl, r9, rfl, rfl, hr9⟩) dL_pourBack_16
set_option maxHeartbeats 4000000 in
set_option maxRecDepth 100000 in
/-- share: the call's answer, or what it threw -/
theorem w_share (l : Launch) (hl9 : l.stackTraces = false) (D : va_G) (tys : List (ClassId × FieldType)) (X : va_W) (L : List Nat) (S : gS) (sz : Nat) {P : Nat → Int32} {i io h0 lo ou tl : Nat} {cL : ClassId} {sv rv : Int32} {f : Nat → Int64} (hX : X[i]? = some (gO h0 lo sv rv)) (hXo : X[io]? = some (gQ ou cL f)) (hio : i ≠ io) (htl : tys[tl]? = some (cL, .long)) (hC : gCh P lo (L, S)) (v0 v1 v2 : Int32) : Met l yL_share wsL_share ({ frames := 8, cells := 5, slots := 26, locals := 126 } : Room) (gP D tys [.ref h0, .int v0, .int v1, .int v2, .ref ou] (X ++ va_pl L (gE S)) sz (gL (va_A (X ++ va_pl L (gE S)) sz))) (va_Qi (fun (r : Int32) (u : (List Nat × gS) × (Nat → Int64) × Int32 × Int32) => (r = 0 ∧ ∃ rv9 : Int32, u.2.1 = vp_updL f 0 rv9.toInt64 ∧ u.2.2 = (sv, rv) ∧ (gGob v0 ∧ gGob v1 ∧ ¬ v0 = v1 ∧ ∃ cn : Nat, 1 ≤ cn ∧ cn ≤ 200 ∧ v2 = nI cn ∧ rv9 = nI (min cn (gct P v0 5000)) ∧ gCh (gmv P v0 v1 (gct P v0 5000 - cn) cn) lo u.1)) ∨ (r = 1 ∧ u.2.1 = f ∧ u.2.2 = (sv, rv) ∧ (¬ (gGob v0 ∧ gGob v1)) ∧ gCh P lo u.1) ∨ (r = 2 ∧ u.2.1 = f ∧ u.2.2 = (sv, rv) ∧ (gGob v0 ∧ gGob v1 ∧ (v0 = v1 ∨ ¬ gCnt v2)) ∧ gCh P lo u.1)) (fun u t => gWd D tys (va_A (X ++ va_pl L (gE S)) sz) ((X.set i (gO h0 lo u.2.2.1 u.2.2.2)).set io (gQ ou cL u.2.1) ++ va_pl u.1.1 (gE u.1.2)) t) (va_A (X ++ va_pl L (gE S)) sz)) 5 26 (va_A (X ++ va_pl L (gE S)) sz) := by
  refine g_ofWH (cc := cL_share) (maxL := 6) (ret := some .int) (by decide) rfl (Nat.le_of_ble_eq_true rfl) ?_
  intro p e s m below meth c hx hb hr hml hts hown hlocks htab hsz hP hK hD hA hS hGG ls hl
  subst hsz
  have hown : s.vm.findClass RL = some m.cls := hown
  have hl : lv_has ls 6 [(0, .ref h0), (1, .int v0), (2, .int v1), (3, .int v2), (4, .ref ou)] := hl
  have e0 : X.set i (gO h0 lo sv rv) = X := g_same hX
  refine lv_aload hx hb dL_share_0 (lv_at hl 4 rfl) ?_
  refine lv_iconst (v := 0) hx hb dL_share_2 (by decide) ?_
  refine lv_aload_n hx hb dL_share_3 rfl (lv_at hl 0 rfl) ?_
  refine lv_iload_n hx hb dL_share_4 rfl (lv_at hl 1 rfl) ?_
  refine lv_iload_n hx hb dL_share_5 rfl (lv_at hl 2 rfl) ?_
  refine lv_iload_n hx hb dL_share_6 rfl (lv_at hl 3 rfl) ?_
  refine g_xcalli (vx_runV (As := [.int v0, .int v1, .int v2]) (rest := [.int 0, .ref ou]) ⟨hx, hb, hml, hown, hts⟩ (c_share l hl9 D tys X L S s.heap.size hX hC v0 v1 v2) (cwV 3 hts gL_share_X1_share rfl rfl rfl (by decide +kernel) ⟨Nat.le_of_ble_eq_true rfl, Nat.le_of_ble_eq_true rfl⟩) (gP_V (va_recv hK hP (ci := 1) rfl (g_inX hX)) hP hK hD gBl_G (fun U hU hW => hGG.1.call hS (gA_sub hD hS hA) U hU hW)) rfl rfl hl.1 rfl (lv_room (Nat.le_of_ble_eq_true rfl)) dL_share_7 ⟨Nat.le_of_ble_eq_true rfl, Nat.le_of_ble_eq_true rfl⟩) hD hS hA (fun E ce q9 u9 H locs hc hP hD hS e1 e2 e3 => ?_) (fun r9 u9 H locs hr9 hP hD hS => ?_)
  · obtain ⟨hc, hC9⟩ := hc
    have hPx : va_P D vwCl ((X.set i (gO h0 lo sv rv)).set io (gQ ou cL f) ++ va_pl u9.1 (gE u9.2)) H := by rw [e0, g_same hXo]; exact hP
    have hDx : va_D (va_A (X ++ va_pl L (gE S)) s.heap.size) ((X.set i (gO h0 lo sv rv)).set io (gQ ou cL f) ++ va_pl u9.1 (gE u9.2)) := by rw [e0, g_same hXo]; exact hD
    rcases hc with hc | hc
    · obtain ⟨rfl, hc⟩ := hc
      refine vx_catch (own := RL) (name := xIOB) hown [] (⟨0, 12, 15, 19⟩ : ExceptionTableEntry) [(⟨0, 12, 19, 13⟩ : ExceptionTableEntry)] (by rw [htab]; rfl) (fun z hz => nomatch hz) (by decide) (by decide) (hts (.classLink RL 19 xIOB) (by decide +kernel)) (va_Nw.use rfl (hGG.1.2.1 (.castable xIOB xIOB) (by decide +kernel))) e1 e2 e3 ?_
      refine lv_astore (lv' := [(5, .ref q9), (0, .ref h0), (1, .int v0), (2, .int v1), (3, .int v2), (4, .ref ou)]) hx hb dL_share_15 hl (by decide) rfl (fun ls hl => ?_)
      refine lv_iconst (v := 1) hx hb dL_share_17 (by decide) ?_
      exact g_reti (wo := fun u : (List Nat × gS) × (Nat → Int64) × Int32 × Int32 => (X.set i (gO h0 lo u.2.2.1 u.2.2.2)).set io (gQ ou cL u.2.1) ++ va_pl u.1.1 (gE u.1.2)) hx hb hr hlocks hK 1 (u9, f, sv, rv) hPx hDx hS (Nat.le_of_ble_eq_true rfl) (Nat.le_of_ble_eq_true rfl) (Or.inr (Or.inl ⟨rfl, rfl, rfl, hc, hC9⟩)) dL_share_18
    · obtain ⟨rfl, hc⟩ := hc
      refine vx_catch (own := RL) (name := xIAE) hown [(⟨0, 12, 15, 19⟩ : ExceptionTableEntry)] (⟨0, 12, 19, 13⟩ : ExceptionTableEntry) [] (by rw [htab]; rfl) (fun z hz => by rw [List.mem_singleton.mp hz]; exact Or.inr ⟨by decide, xIOB, hts (.classLink RL 19 xIOB) (by decide +kernel), hGG.2.1⟩) (by decide) (by decide) (hts (.classLink RL 13 xIAE) (by decide +kernel)) (va_Nw.use rfl (hGG.1.2.1 (.castable xIAE xIAE) (by decide +kernel))) e1 e2 e3 ?_
      refine lv_astore (lv' := [(5, .ref q9), (0, .ref h0), (1, .int v0), (2, .int v1), (3, .int v2), (4, .ref ou)]) hx hb dL_share_19 hl (by decide) rfl (fun ls hl => ?_)
      refine lv_iconst (v := 2) hx hb dL_share_21 (by decide) ?_
      exact g_reti (wo := fun u : (List Nat × gS) × (Nat → Int64) × Int32 × Int32 => (X.set i (gO h0 lo u.2.2.1 u.2.2.2)).set io (gQ ou cL u.2.1) ++ va_pl u.1.1 (gE u.1.2)) hx hb hr hlocks hK 2 (u9, f, sv, rv) hPx hDx hS (Nat.le_of_ble_eq_true rfl) (Nat.le_of_ble_eq_true rfl) (Or.inr (Or.inr (⟨rfl, rfl, rfl, hc, hC9⟩))) dL_share_22
  · skip
    refine lv_i2l (v := r9.toInt64) hx hb dL_share_10 rfl ?_
    have hXo2 : (X.set i (gO h0 lo sv rv))[io]? = some (gQ ou cL f) := by rw [e0]; exact hXo
    have hP : va_P D vwCl (X.set i (gO h0 lo sv rv) ++ va_pl u9.1 (gE u9.2)) H := by rw [e0]; exact hP
    have hD : va_D (va_A (X ++ va_pl L (gE S)) s.heap.size) (X.set i (gO h0 lo sv rv) ++ va_pl u9.1 (gE u9.2)) := by rw [e0]; exact hD
    refine va_last hx hb hK hP hD hS io tl (g_inX hXo2) htl (vp_in_nI (n := 0) (N := 1) (by omega) (by omega)) dL_share_11 (fun H locs hP2 hD2 hS => ?_)
    have hw := g_setX (Y := va_pl u9.1 (gE u9.2)) (v := gQ ou cL (vp_updL f 0 r9.toInt64)) hXo2
    have hP := g_eqP hw hP2
    have hD := g_eqD hw hD2
    refine lv_goto (tgt := 23) hx hb dL_share_12 (by decide) ?_
    refine lv_iconst (v := 0) hx hb dL_share_23 (by decide) ?_
    exact g_reti (wo := fun u : (List Nat × gS) × (Nat → Int64) × Int32 × Int32 => (X.set i (gO h0 lo u.2.2.1 u.2.2.2)).set io (gQ ou cL u.2.1) ++ va_pl u.1.1 (gE u.1.2)) hx hb hr hlocks hK 0 (u9, vp_updL f 0 r9.toInt64, sv, rv) hP hD hS (Nat.le_of_ble_eq_true rfl) (Nat.le_of_ble_eq_true rfl) (Or.inl ⟨rfl, r9, rfl, rfl, hr9⟩) dL_share_24
set_option maxHeartbeats 4000000 in
set_option maxRecDepth 100000 in
/-- giveBack: the call's answer, or what it threw -/
theorem w_giveBack (l : Launch) (hl9 : l.stackTraces = false) (D : va_G) (tys : List (ClassId × FieldType)) (X : va_W) (L : List Nat) (S : gS) (sz : Nat) {P : Nat → Int32} {i io h0 lo ou tl : Nat} {cL : ClassId} {sv rv : Int32} {f : Nat → Int64} (hX : X[i]? = some (gO h0 lo sv rv)) (hXo : X[io]? = some (gQ ou cL f)) (hio : i ≠ io) (htl : tys[tl]? = some (cL, .long)) (hC : gCh P lo (L, S)) (v0 : Int32) (ho : gOut P) : Met l yL_giveBack wsL_giveBack ({ frames := 7, cells := 3, slots := 14, locals := 111 } : Room) (gP D tys [.ref h0, .int v0, .ref ou] (X ++ va_pl L (gE S)) sz (gL (va_A (X ++ va_pl L (gE S)) sz))) (va_Qi (fun (r : Int32) (u : (List Nat × gS) × (Nat → Int64) × Int32 × Int32) => (r = 0 ∧ ∃ rv9 : Int32, u.2.1 = vp_updL f 0 rv9.toInt64 ∧ u.2.2 = (sv, rv) ∧ (∃ j : Nat, 1 ≤ j ∧ j ≤ 5000 ∧ v0 = nI j ∧ P j = 9 ∧ rv9 = nI (gct (va_up P j 8) 8 5000) ∧ gCh (va_up P j 8) lo u.1)) ∨ (r = 1 ∧ u.2.1 = f ∧ u.2.2 = (sv, rv) ∧ (∀ j : Nat, 1 ≤ j → j ≤ 5000 → v0 = nI j → ¬ P j = 9) ∧ gCh P lo u.1)) (fun u t => gWd D tys (va_A (X ++ va_pl L (gE S)) sz) ((X.set i (gO h0 lo u.2.2.1 u.2.2.2)).set io (gQ ou cL u.2.1) ++ va_pl u.1.1 (gE u.1.2)) t) (va_A (X ++ va_pl L (gE S)) sz)) 3 14 (va_A (X ++ va_pl L (gE S)) sz) := by
  refine g_ofWH (cc := cL_giveBack) (maxL := 4) (ret := some .int) (by decide) rfl (Nat.le_of_ble_eq_true rfl) ?_
  intro p e s m below meth c hx hb hr hml hts hown hlocks htab hsz hP hK hD hA hS hGG ls hl
  subst hsz
  have hown : s.vm.findClass RL = some m.cls := hown
  have hl : lv_has ls 4 [(0, .ref h0), (1, .int v0), (2, .ref ou)] := hl
  have e0 : X.set i (gO h0 lo sv rv) = X := g_same hX
  refine lv_aload_n hx hb dL_giveBack_0 rfl (lv_at hl 2 rfl) ?_
  refine lv_iconst (v := 0) hx hb dL_giveBack_1 (by decide) ?_
  refine lv_aload_n hx hb dL_giveBack_2 rfl (lv_at hl 0 rfl) ?_
  refine lv_iload_n hx hb dL_giveBack_3 rfl (lv_at hl 1 rfl) ?_
  refine g_xcalli (vx_runV (As := [.int v0]) (rest := [.int 0, .ref ou]) ⟨hx, hb, hml, hown, hts⟩ (c_giveBack l hl9 D tys X L S s.heap.size hX hC v0 ho) (cwV 1 hts gL_giveBack_X1_giveBack rfl rfl rfl (by decide +kernel) ⟨Nat.le_of_ble_eq_true rfl, Nat.le_of_ble_eq_true rfl⟩) (gP_V (va_recv hK hP (ci := 1) rfl (g_inX hX)) hP hK hD gBl_G (fun U hU hW => hGG.1.call hS (gA_sub hD hS hA) U hU hW)) rfl rfl hl.1 rfl (lv_room (Nat.le_of_ble_eq_true rfl)) dL_giveBack_4 ⟨Nat.le_of_ble_eq_true rfl, Nat.le_of_ble_eq_true rfl⟩) hD hS hA (fun E ce q9 u9 H locs hc hP hD hS e1 e2 e3 => ?_) (fun r9 u9 H locs hr9 hP hD hS => ?_)
  · obtain ⟨hc, hC9⟩ := hc
    have hPx : va_P D vwCl ((X.set i (gO h0 lo sv rv)).set io (gQ ou cL f) ++ va_pl u9.1 (gE u9.2)) H := by rw [e0, g_same hXo]; exact hP
    have hDx : va_D (va_A (X ++ va_pl L (gE S)) s.heap.size) ((X.set i (gO h0 lo sv rv)).set io (gQ ou cL f) ++ va_pl u9.1 (gE u9.2)) := by rw [e0, g_same hXo]; exact hD
    obtain ⟨rfl, hc⟩ := hc
    refine vx_catch (own := RL) (name := xISE) hown [] (⟨0, 9, 12, 21⟩ : ExceptionTableEntry) [] (by rw [htab]; rfl) (fun z hz => nomatch hz) (by decide) (by decide) (hts (.classLink RL 21 xISE) (by decide +kernel)) (va_Nw.use rfl (hGG.1.2.1 (.castable xISE xISE) (by decide +kernel))) e1 e2 e3 ?_
    refine lv_astore_n (lv' := [(3, .ref q9), (0, .ref h0), (1, .int v0), (2, .ref ou)]) hx hb dL_giveBack_12 rfl hl (by decide) rfl (fun ls hl => ?_)
    refine lv_iconst (v := 1) hx hb dL_giveBack_13 (by decide) ?_
    exact g_reti (wo := fun u : (List Nat × gS) × (Nat → Int64) × Int32 × Int32 => (X.set i (gO h0 lo u.2.2.1 u.2.2.2)).set io (gQ ou cL u.2.1) ++ va_pl u.1.1 (gE u.1.2)) hx hb hr hlocks hK 1 (u9, f, sv, rv) hPx hDx hS (Nat.le_of_ble_eq_true rfl) (Nat.le_of_ble_eq_true rfl) (Or.inr (⟨rfl, rfl, rfl, hc, hC9⟩)) dL_giveBack_14
  · skip
    refine lv_i2l (v := r9.toInt64) hx hb dL_giveBack_7 rfl ?_
    have hXo2 : (X.set i (gO h0 lo sv rv))[io]? = some (gQ ou cL f) := by rw [e0]; exact hXo
    have hP : va_P D vwCl (X.set i (gO h0 lo sv rv) ++ va_pl u9.1 (gE u9.2)) H := by rw [e0]; exact hP
    have hD : va_D (va_A (X ++ va_pl L (gE S)) s.heap.size) (X.set i (gO h0 lo sv rv) ++ va_pl u9.1 (gE u9.2)) := by rw [e0]; exact hD
    refine va_last hx hb hK hP hD hS io tl (g_inX hXo2) htl (vp_in_nI (n := 0) (N := 1) (by omega) (by omega)) dL_giveBack_8 (fun H locs hP2 hD2 hS => ?_)
    have hw := g_setX (Y := va_pl u9.1 (gE u9.2)) (v := gQ ou cL (vp_updL f 0 r9.toInt64)) hXo2
    have hP := g_eqP hw hP2
    have hD := g_eqD hw hD2
    refine lv_goto (tgt := 15) hx hb dL_giveBack_9 (by decide) ?_
    refine lv_iconst (v := 0) hx hb dL_giveBack_15 (by decide) ?_
    exact g_reti (wo := fun u : (List Nat × gS) × (Nat → Int64) × Int32 × Int32 => (X.set i (gO h0 lo u.2.2.1 u.2.2.2)).set io (gQ ou cL u.2.1) ++ va_pl u.1.1 (gE u.1.2)) hx hb hr hlocks hK 0 (u9, vp_updL f 0 r9.toInt64, sv, rv) hP hD hS (Nat.le_of_ble_eq_true rfl) (Nat.le_of_ble_eq_true rfl) (Or.inl ⟨rfl, r9, rfl, rfl, hr9⟩) dL_giveBack_16
set_option maxHeartbeats 4000000 in
set_option maxRecDepth 100000 in
/-- spill: the call's answer, or what it threw -/
theorem w_spill (l : Launch) (hl9 : l.stackTraces = false) (D : va_G) (tys : List (ClassId × FieldType)) (X : va_W) (L : List Nat) (S : gS) (sz : Nat) {P : Nat → Int32} {i io h0 lo ou tl : Nat} {cL : ClassId} {sv rv : Int32} {f : Nat → Int64} (hX : X[i]? = some (gO h0 lo sv rv)) (hXo : X[io]? = some (gQ ou cL f)) (hio : i ≠ io) (htl : tys[tl]? = some (cL, .long)) (hC : gCh P lo (L, S)) (v0 : Int32) : Met l yL_spill wsL_spill ({ frames := 8, cells := 3, slots := 14, locals := 129 } : Room) (gP D tys [.ref h0, .int v0, .ref ou] (X ++ va_pl L (gE S)) sz (gL (va_A (X ++ va_pl L (gE S)) sz))) (va_Qi (fun (r : Int32) (u : (List Nat × gS) × (Nat → Int64) × Int32 × Int32) => (r = 0 ∧ ∃ rv9 : Int32, u.2.1 = vp_updL f 0 rv9.toInt64 ∧ u.2.2 = (sv, rv) ∧ (gGob v0 ∧ rv9 = nI (gct P v0 5000)) ∧ gCh (gmv P v0 10 0 5000) lo u.1) ∨ (r = 1 ∧ u.2.1 = f ∧ u.2.2 = (sv, rv) ∧ (¬ gGob v0) ∧ gCh P lo u.1)) (fun u t => gWd D tys (va_A (X ++ va_pl L (gE S)) sz) ((X.set i (gO h0 lo u.2.2.1 u.2.2.2)).set io (gQ ou cL u.2.1) ++ va_pl u.1.1 (gE u.1.2)) t) (va_A (X ++ va_pl L (gE S)) sz)) 3 14 (va_A (X ++ va_pl L (gE S)) sz) := by
  refine g_ofWH (cc := cL_spill) (maxL := 4) (ret := some .int) (by decide) rfl (Nat.le_of_ble_eq_true rfl) ?_
  intro p e s m below meth c hx hb hr hml hts hown hlocks htab hsz hP hK hD hA hS hGG ls hl
  subst hsz
  have hown : s.vm.findClass RL = some m.cls := hown
  have hl : lv_has ls 4 [(0, .ref h0), (1, .int v0), (2, .ref ou)] := hl
  have e0 : X.set i (gO h0 lo sv rv) = X := g_same hX
  refine lv_aload_n hx hb dL_spill_0 rfl (lv_at hl 2 rfl) ?_
  refine lv_iconst (v := 0) hx hb dL_spill_1 (by decide) ?_
  refine lv_aload_n hx hb dL_spill_2 rfl (lv_at hl 0 rfl) ?_
  refine lv_iload_n hx hb dL_spill_3 rfl (lv_at hl 1 rfl) ?_
  refine g_xcalli (vx_runV (As := [.int v0]) (rest := [.int 0, .ref ou]) ⟨hx, hb, hml, hown, hts⟩ (c_spill l hl9 D tys X L S s.heap.size hX hC v0) (cwV 1 hts gL_spill_X1_spill rfl rfl rfl (by decide +kernel) ⟨Nat.le_of_ble_eq_true rfl, Nat.le_of_ble_eq_true rfl⟩) (gP_V (va_recv hK hP (ci := 1) rfl (g_inX hX)) hP hK hD gBl_G (fun U hU hW => hGG.1.call hS (gA_sub hD hS hA) U hU hW)) rfl rfl hl.1 rfl (lv_room (Nat.le_of_ble_eq_true rfl)) dL_spill_4 ⟨Nat.le_of_ble_eq_true rfl, Nat.le_of_ble_eq_true rfl⟩) hD hS hA (fun E ce q9 u9 H locs hc hP hD hS e1 e2 e3 => ?_) (fun r9 u9 H locs hr9 hP hD hS => ?_)
  · obtain ⟨hc, hC9⟩ := hc
    have hPx : va_P D vwCl ((X.set i (gO h0 lo sv rv)).set io (gQ ou cL f) ++ va_pl u9.1 (gE u9.2)) H := by rw [e0, g_same hXo]; exact hP
    have hDx : va_D (va_A (X ++ va_pl L (gE S)) s.heap.size) ((X.set i (gO h0 lo sv rv)).set io (gQ ou cL f) ++ va_pl u9.1 (gE u9.2)) := by rw [e0, g_same hXo]; exact hD
    obtain ⟨rfl, hc⟩ := hc
    refine vx_catch (own := RL) (name := xIOB) hown [] (⟨0, 9, 12, 19⟩ : ExceptionTableEntry) [] (by rw [htab]; rfl) (fun z hz => nomatch hz) (by decide) (by decide) (hts (.classLink RL 19 xIOB) (by decide +kernel)) (va_Nw.use rfl (hGG.1.2.1 (.castable xIOB xIOB) (by decide +kernel))) e1 e2 e3 ?_
    refine lv_astore_n (lv' := [(3, .ref q9), (0, .ref h0), (1, .int v0), (2, .ref ou)]) hx hb dL_spill_12 rfl hl (by decide) rfl (fun ls hl => ?_)
    refine lv_iconst (v := 1) hx hb dL_spill_13 (by decide) ?_
    exact g_reti (wo := fun u : (List Nat × gS) × (Nat → Int64) × Int32 × Int32 => (X.set i (gO h0 lo u.2.2.1 u.2.2.2)).set io (gQ ou cL u.2.1) ++ va_pl u.1.1 (gE u.1.2)) hx hb hr hlocks hK 1 (u9, f, sv, rv) hPx hDx hS (Nat.le_of_ble_eq_true rfl) (Nat.le_of_ble_eq_true rfl) (Or.inr (⟨rfl, rfl, rfl, hc, hC9⟩)) dL_spill_14
  · skip
    refine lv_i2l (v := r9.toInt64) hx hb dL_spill_7 rfl ?_
    have hXo2 : (X.set i (gO h0 lo sv rv))[io]? = some (gQ ou cL f) := by rw [e0]; exact hXo
    have hP : va_P D vwCl (X.set i (gO h0 lo sv rv) ++ va_pl u9.1 (gE u9.2)) H := by rw [e0]; exact hP
    have hD : va_D (va_A (X ++ va_pl L (gE S)) s.heap.size) (X.set i (gO h0 lo sv rv) ++ va_pl u9.1 (gE u9.2)) := by rw [e0]; exact hD
    refine va_last hx hb hK hP hD hS io tl (g_inX hXo2) htl (vp_in_nI (n := 0) (N := 1) (by omega) (by omega)) dL_spill_8 (fun H locs hP2 hD2 hS => ?_)
    have hw := g_setX (Y := va_pl u9.1 (gE u9.2)) (v := gQ ou cL (vp_updL f 0 r9.toInt64)) hXo2
    have hP := g_eqP hw hP2
    have hD := g_eqD hw hD2
    refine lv_goto (tgt := 15) hx hb dL_spill_9 (by decide) ?_
    refine lv_iconst (v := 0) hx hb dL_spill_15 (by decide) ?_
    exact g_reti (wo := fun u : (List Nat × gS) × (Nat → Int64) × Int32 × Int32 => (X.set i (gO h0 lo u.2.2.1 u.2.2.2)).set io (gQ ou cL u.2.1) ++ va_pl u.1.1 (gE u.1.2)) hx hb hr hlocks hK 0 (u9, vp_updL f 0 r9.toInt64, sv, rv) hP hD hS (Nat.le_of_ble_eq_true rfl) (Nat.le_of_ble_eq_true rfl) (Or.inl ⟨rfl, r9, rfl, rfl, hr9⟩) dL_spill_16
set_option maxHeartbeats 4000000 in
set_option maxRecDepth 100000 in
/-- nextRound: the call's answer, or what it threw -/
theorem w_nextRound (l : Launch) (hl9 : l.stackTraces = false) (D : va_G) (tys : List (ClassId × FieldType)) (X : va_W) (L : List Nat) (S : gS) (sz : Nat) {P : Nat → Int32} {i io h0 lo ou tl : Nat} {cL : ClassId} {sv rv : Int32} {f : Nat → Int64} (hX : X[i]? = some (gO h0 lo sv rv)) (hXo : X[io]? = some (gQ ou cL f)) (hio : i ≠ io) (htl : tys[tl]? = some (cL, .long)) (hC : gCh P lo (L, S)) {n : Nat} (hsv : sv = nI n) (hn : n ≤ 5000) : Met l yL_nextRound wsL_nextRound ({ frames := 7, cells := 4, slots := 16, locals := 130 } : Room) (gP D tys [.ref h0, .ref ou] (X ++ va_pl L (gE S)) sz (gL (va_A (X ++ va_pl L (gE S)) sz))) (va_Qi (fun (r : Int32) (u : (List Nat × gS) × (Nat → Int64) × Int32 × Int32) => (r = 0 ∧ ∃ rv9 : Int32, u.2.1 = vp_updL f 0 rv9.toInt64 ∧ u.2.2 = (sv, rv + 1) ∧ (gct P 9 5000 + gct P 10 5000 = n ∧ rv9 = rv + 1 ∧ gCh (gmv (gmv P 9 8 0 5000) 10 8 0 5000) lo u.1)) ∨ (r = 1 ∧ u.2.1 = f ∧ u.2.2 = (sv, rv) ∧ (¬ gct P 9 5000 + gct P 10 5000 = n) ∧ gCh P lo u.1)) (fun u t => gWd D tys (va_A (X ++ va_pl L (gE S)) sz) ((X.set i (gO h0 lo u.2.2.1 u.2.2.2)).set io (gQ ou cL u.2.1) ++ va_pl u.1.1 (gE u.1.2)) t) (va_A (X ++ va_pl L (gE S)) sz)) 4 16 (va_A (X ++ va_pl L (gE S)) sz) := by
  refine g_ofWH (cc := cL_nextRound) (maxL := 3) (ret := some .int) (by decide) rfl (Nat.le_of_ble_eq_true rfl) ?_
  intro p e s m below meth c hx hb hr hml hts hown hlocks htab hsz hP hK hD hA hS hGG ls hl
  subst hsz
  have hown : s.vm.findClass RL = some m.cls := hown
  have hl : lv_has ls 3 [(0, .ref h0), (1, .ref ou)] := hl
  have e0 : X.set i (gO h0 lo sv rv) = X := g_same hX
  refine lv_aload_n hx hb dL_nextRound_0 rfl (lv_at hl 1 rfl) ?_
  refine lv_iconst (v := 0) hx hb dL_nextRound_1 (by decide) ?_
  refine lv_aload_n hx hb dL_nextRound_2 rfl (lv_at hl 0 rfl) ?_
  refine g_xcalli (vx_runV (As := []) (rest := [.int 0, .ref ou]) ⟨hx, hb, hml, hown, hts⟩ (c_nextRound l hl9 D tys X L S s.heap.size hX hC hsv hn) (cwV 0 hts gL_nextRound_X1_nextRound rfl rfl rfl (by decide +kernel) ⟨Nat.le_of_ble_eq_true rfl, Nat.le_of_ble_eq_true rfl⟩) (gP_V (va_recv hK hP (ci := 1) rfl (g_inX hX)) hP hK hD gBl_G (fun U hU hW => hGG.1.call hS (gA_sub hD hS hA) U hU hW)) rfl rfl hl.1 rfl (lv_room (Nat.le_of_ble_eq_true rfl)) dL_nextRound_3 ⟨Nat.le_of_ble_eq_true rfl, Nat.le_of_ble_eq_true rfl⟩) hD hS hA (fun E ce q9 u9 H locs hc hP hD hS e1 e2 e3 => ?_) (fun r9 u9 H locs hr9 hP hD hS => ?_)
  · obtain ⟨hc, hC9⟩ := hc
    have hPx : va_P D vwCl ((X.set i (gO h0 lo sv rv)).set io (gQ ou cL f) ++ va_pl u9.1 (gE u9.2)) H := by rw [e0, g_same hXo]; exact hP
    have hDx : va_D (va_A (X ++ va_pl L (gE S)) s.heap.size) ((X.set i (gO h0 lo sv rv)).set io (gQ ou cL f) ++ va_pl u9.1 (gE u9.2)) := by rw [e0, g_same hXo]; exact hD
    obtain ⟨rfl, hc⟩ := hc
    refine vx_catch (own := RL) (name := xISE) hown [] (⟨0, 8, 11, 21⟩ : ExceptionTableEntry) [] (by rw [htab]; rfl) (fun z hz => nomatch hz) (by decide) (by decide) (hts (.classLink RL 21 xISE) (by decide +kernel)) (va_Nw.use rfl (hGG.1.2.1 (.castable xISE xISE) (by decide +kernel))) e1 e2 e3 ?_
    refine lv_astore_n (lv' := [(2, .ref q9), (0, .ref h0), (1, .ref ou)]) hx hb dL_nextRound_11 rfl hl (by decide) rfl (fun ls hl => ?_)
    refine lv_iconst (v := 1) hx hb dL_nextRound_12 (by decide) ?_
    exact g_reti (wo := fun u : (List Nat × gS) × (Nat → Int64) × Int32 × Int32 => (X.set i (gO h0 lo u.2.2.1 u.2.2.2)).set io (gQ ou cL u.2.1) ++ va_pl u.1.1 (gE u.1.2)) hx hb hr hlocks hK 1 (u9, f, sv, rv) hPx hDx hS (Nat.le_of_ble_eq_true rfl) (Nat.le_of_ble_eq_true rfl) (Or.inr (⟨rfl, rfl, rfl, hc, hC9⟩)) dL_nextRound_13
  · skip
    refine lv_i2l (v := r9.toInt64) hx hb dL_nextRound_6 rfl ?_
    have hXo2 : (X.set i (gO h0 lo sv (rv + 1)))[io]? = some (gQ ou cL f) := by rw [List.getElem?_set_ne hio]; exact hXo
    refine va_last hx hb hK hP hD hS io tl (g_inX hXo2) htl (vp_in_nI (n := 0) (N := 1) (by omega) (by omega)) dL_nextRound_7 (fun H locs hP2 hD2 hS => ?_)
    have hw := g_setX (Y := va_pl u9.1 (gE u9.2)) (v := gQ ou cL (vp_updL f 0 r9.toInt64)) hXo2
    have hP := g_eqP hw hP2
    have hD := g_eqD hw hD2
    refine lv_goto (tgt := 14) hx hb dL_nextRound_8 (by decide) ?_
    refine lv_iconst (v := 0) hx hb dL_nextRound_14 (by decide) ?_
    exact g_reti (wo := fun u : (List Nat × gS) × (Nat → Int64) × Int32 × Int32 => (X.set i (gO h0 lo u.2.2.1 u.2.2.2)).set io (gQ ou cL u.2.1) ++ va_pl u.1.1 (gE u.1.2)) hx hb hr hlocks hK 0 (u9, vp_updL f 0 r9.toInt64, sv, rv + 1) hP hD hS (Nat.le_of_ble_eq_true rfl) (Nat.le_of_ble_eq_true rfl) (Or.inl ⟨rfl, r9, rfl, rfl, hr9⟩) dL_nextRound_15
set_option maxHeartbeats 4000000 in
set_option maxRecDepth 100000 in
/-- rangeFrom: the call's answer, or what it threw -/
theorem w_rangeFrom (l : Launch) (hl9 : l.stackTraces = false) (D : va_G) (tys : List (ClassId × FieldType)) (X : va_W) (L : List Nat) (S : gS) (sz : Nat) {P : Nat → Int32} {i io h0 lo ou tl : Nat} {cL : ClassId} {sv rv : Int32} {f : Nat → Int64} (hX : X[i]? = some (gO h0 lo sv rv)) (hXo : X[io]? = some (gQ ou cL f)) (hio : i ≠ io) (htl : tys[tl]? = some (cL, .long)) (hC : gCh P lo (L, S)) (v0 : Int32) (h00 : P 0 = -1) (h51 : P 5001 = -1) : Met l yL_rangeFrom wsL_rangeFrom ({ frames := 7, cells := 1, slots := 6, locals := 104 } : Room) (gP D tys [.ref h0, .int v0, .ref ou] (X ++ va_pl L (gE S)) sz (gL (va_A (X ++ va_pl L (gE S)) sz))) (va_Qi (fun (r : Int32) (u : (List Nat × gS) × (Nat → Int64) × Int32 × Int32) => (r = 0 ∧ ∃ rv9 : Int32, u.2.1 = vp_updL f 0 rv9.toInt64 ∧ u.2.2 = (sv, rv) ∧ (∃ v : Nat, 1 ≤ v ∧ v ≤ 5000 ∧ rv9 = nI v ∧ P v = 8 ∧ ¬ P (v - 1) = 8 ∧ v0 = nI (gbg P 8 (v - 1))) ∧ gCh P lo u.1) ∨ (r = 1 ∧ u.2.1 = f ∧ u.2.2 = (sv, rv) ∧ (∀ j, 1 ≤ j → j ≤ 5000 → P j = 8 → ¬ P (j - 1) = 8 → ¬ v0 = nI (gbg P 8 (j - 1))) ∧ gCh P lo u.1)) (fun u t => gWd D tys (va_A (X ++ va_pl L (gE S)) sz) ((X.set i (gO h0 lo u.2.2.1 u.2.2.2)).set io (gQ ou cL u.2.1) ++ va_pl u.1.1 (gE u.1.2)) t) (va_A (X ++ va_pl L (gE S)) sz)) 1 6 (va_A (X ++ va_pl L (gE S)) sz) := by
  refine g_ofWH (cc := cL_rangeFrom) (maxL := 4) (ret := some .int) (by decide) rfl (Nat.le_of_ble_eq_true rfl) ?_
  intro p e s m below meth c hx hb hr hml hts hown hlocks htab hsz hP hK hD hA hS hGG ls hl
  subst hsz
  have hown : s.vm.findClass RL = some m.cls := hown
  have hl : lv_has ls 4 [(0, .ref h0), (1, .int v0), (2, .ref ou)] := hl
  have e0 : X.set i (gO h0 lo sv rv) = X := g_same hX
  refine lv_aload_n hx hb dL_rangeFrom_0 rfl (lv_at hl 2 rfl) ?_
  refine lv_iconst (v := 0) hx hb dL_rangeFrom_1 (by decide) ?_
  refine lv_aload_n hx hb dL_rangeFrom_2 rfl (lv_at hl 0 rfl) ?_
  refine lv_iload_n hx hb dL_rangeFrom_3 rfl (lv_at hl 1 rfl) ?_
  refine g_xcalli (vx_runV (As := [.int v0]) (rest := [.int 0, .ref ou]) ⟨hx, hb, hml, hown, hts⟩ (c_rangeFrom l hl9 D tys X L S s.heap.size hX hC v0 h00 h51) (cwV 1 hts gL_rangeFrom_X1_rangeFrom rfl rfl rfl (by decide +kernel) ⟨Nat.le_of_ble_eq_true rfl, Nat.le_of_ble_eq_true rfl⟩) (gP_V (va_recv hK hP (ci := 1) rfl (g_inX hX)) hP hK hD gBl_G (fun U hU hW => hGG.1.call hS (gA_sub hD hS hA) U hU hW)) rfl rfl hl.1 rfl (lv_room (Nat.le_of_ble_eq_true rfl)) dL_rangeFrom_4 ⟨Nat.le_of_ble_eq_true rfl, Nat.le_of_ble_eq_true rfl⟩) hD hS hA (fun E ce q9 u9 H locs hc hP hD hS e1 e2 e3 => ?_) (fun r9 u9 H locs hr9 hP hD hS => ?_)
  · obtain ⟨hc, hC9⟩ := hc
    have hPx : va_P D vwCl ((X.set i (gO h0 lo sv rv)).set io (gQ ou cL f) ++ va_pl u9.1 (gE u9.2)) H := by rw [e0, g_same hXo]; exact hP
    have hDx : va_D (va_A (X ++ va_pl L (gE S)) s.heap.size) ((X.set i (gO h0 lo sv rv)).set io (gQ ou cL f) ++ va_pl u9.1 (gE u9.2)) := by rw [e0, g_same hXo]; exact hD
    obtain ⟨rfl, hc⟩ := hc
    refine vx_catch (own := RL) (name := xIOB) hown [] (⟨0, 9, 12, 19⟩ : ExceptionTableEntry) [] (by rw [htab]; rfl) (fun z hz => nomatch hz) (by decide) (by decide) (hts (.classLink RL 19 xIOB) (by decide +kernel)) (va_Nw.use rfl (hGG.1.2.1 (.castable xIOB xIOB) (by decide +kernel))) e1 e2 e3 ?_
    refine lv_astore_n (lv' := [(3, .ref q9), (0, .ref h0), (1, .int v0), (2, .ref ou)]) hx hb dL_rangeFrom_12 rfl hl (by decide) rfl (fun ls hl => ?_)
    refine lv_iconst (v := 1) hx hb dL_rangeFrom_13 (by decide) ?_
    exact g_reti (wo := fun u : (List Nat × gS) × (Nat → Int64) × Int32 × Int32 => (X.set i (gO h0 lo u.2.2.1 u.2.2.2)).set io (gQ ou cL u.2.1) ++ va_pl u.1.1 (gE u.1.2)) hx hb hr hlocks hK 1 (u9, f, sv, rv) hPx hDx hS (Nat.le_of_ble_eq_true rfl) (Nat.le_of_ble_eq_true rfl) (Or.inr (⟨rfl, rfl, rfl, hc, hC9⟩)) dL_rangeFrom_14
  · skip
    refine lv_i2l (v := r9.toInt64) hx hb dL_rangeFrom_7 rfl ?_
    have hXo2 : (X.set i (gO h0 lo sv rv))[io]? = some (gQ ou cL f) := by rw [e0]; exact hXo
    have hP : va_P D vwCl (X.set i (gO h0 lo sv rv) ++ va_pl u9.1 (gE u9.2)) H := by rw [e0]; exact hP
    have hD : va_D (va_A (X ++ va_pl L (gE S)) s.heap.size) (X.set i (gO h0 lo sv rv) ++ va_pl u9.1 (gE u9.2)) := by rw [e0]; exact hD
    refine va_last hx hb hK hP hD hS io tl (g_inX hXo2) htl (vp_in_nI (n := 0) (N := 1) (by omega) (by omega)) dL_rangeFrom_8 (fun H locs hP2 hD2 hS => ?_)
    have hw := g_setX (Y := va_pl u9.1 (gE u9.2)) (v := gQ ou cL (vp_updL f 0 r9.toInt64)) hXo2
    have hP := g_eqP hw hP2
    have hD := g_eqD hw hD2
    refine lv_goto (tgt := 15) hx hb dL_rangeFrom_9 (by decide) ?_
    refine lv_iconst (v := 0) hx hb dL_rangeFrom_15 (by decide) ?_
    exact g_reti (wo := fun u : (List Nat × gS) × (Nat → Int64) × Int32 × Int32 => (X.set i (gO h0 lo u.2.2.1 u.2.2.2)).set io (gQ ou cL u.2.1) ++ va_pl u.1.1 (gE u.1.2)) hx hb hr hlocks hK 0 (u9, vp_updL f 0 r9.toInt64, sv, rv) hP hD hS (Nat.le_of_ble_eq_true rfl) (Nat.le_of_ble_eq_true rfl) (Or.inl ⟨rfl, r9, rfl, rfl, hr9⟩) dL_rangeFrom_16
set_option maxHeartbeats 4000000 in
set_option maxRecDepth 100000 in
/-- rangeTo: the call's answer, or what it threw -/
theorem w_rangeTo (l : Launch) (hl9 : l.stackTraces = false) (D : va_G) (tys : List (ClassId × FieldType)) (X : va_W) (L : List Nat) (S : gS) (sz : Nat) {P : Nat → Int32} {i io h0 lo ou tl : Nat} {cL : ClassId} {sv rv : Int32} {f : Nat → Int64} (hX : X[i]? = some (gO h0 lo sv rv)) (hXo : X[io]? = some (gQ ou cL f)) (hio : i ≠ io) (htl : tys[tl]? = some (cL, .long)) (hC : gCh P lo (L, S)) (v0 : Int32) (h00 : P 0 = -1) (h51 : P 5001 = -1) : Met l yL_rangeTo wsL_rangeTo ({ frames := 7, cells := 1, slots := 6, locals := 104 } : Room) (gP D tys [.ref h0, .int v0, .ref ou] (X ++ va_pl L (gE S)) sz (gL (va_A (X ++ va_pl L (gE S)) sz))) (va_Qi (fun (r : Int32) (u : (List Nat × gS) × (Nat → Int64) × Int32 × Int32) => (r = 0 ∧ ∃ rv9 : Int32, u.2.1 = vp_updL f 0 rv9.toInt64 ∧ u.2.2 = (sv, rv) ∧ (∃ v : Nat, 1 ≤ v ∧ v ≤ 5000 ∧ rv9 = nI v ∧ P v = 8 ∧ ¬ P (v + 1) = 8 ∧ v0 = nI (gen P 8 (v - 1))) ∧ gCh P lo u.1) ∨ (r = 1 ∧ u.2.1 = f ∧ u.2.2 = (sv, rv) ∧ (∀ j, 1 ≤ j → j ≤ 5000 → P j = 8 → ¬ P (j - 1) = 8 → ¬ v0 = nI (gbg P 8 (j - 1))) ∧ gCh P lo u.1)) (fun u t => gWd D tys (va_A (X ++ va_pl L (gE S)) sz) ((X.set i (gO h0 lo u.2.2.1 u.2.2.2)).set io (gQ ou cL u.2.1) ++ va_pl u.1.1 (gE u.1.2)) t) (va_A (X ++ va_pl L (gE S)) sz)) 1 6 (va_A (X ++ va_pl L (gE S)) sz) := by
  refine g_ofWH (cc := cL_rangeTo) (maxL := 4) (ret := some .int) (by decide) rfl (Nat.le_of_ble_eq_true rfl) ?_
  intro p e s m below meth c hx hb hr hml hts hown hlocks htab hsz hP hK hD hA hS hGG ls hl
  subst hsz
  have hown : s.vm.findClass RL = some m.cls := hown
  have hl : lv_has ls 4 [(0, .ref h0), (1, .int v0), (2, .ref ou)] := hl
  have e0 : X.set i (gO h0 lo sv rv) = X := g_same hX
  refine lv_aload_n hx hb dL_rangeTo_0 rfl (lv_at hl 2 rfl) ?_
  refine lv_iconst (v := 0) hx hb dL_rangeTo_1 (by decide) ?_
  refine lv_aload_n hx hb dL_rangeTo_2 rfl (lv_at hl 0 rfl) ?_
  refine lv_iload_n hx hb dL_rangeTo_3 rfl (lv_at hl 1 rfl) ?_
  refine g_xcalli (vx_runV (As := [.int v0]) (rest := [.int 0, .ref ou]) ⟨hx, hb, hml, hown, hts⟩ (c_rangeTo l hl9 D tys X L S s.heap.size hX hC v0 h00 h51) (cwV 1 hts gL_rangeTo_X1_rangeTo rfl rfl rfl (by decide +kernel) ⟨Nat.le_of_ble_eq_true rfl, Nat.le_of_ble_eq_true rfl⟩) (gP_V (va_recv hK hP (ci := 1) rfl (g_inX hX)) hP hK hD gBl_G (fun U hU hW => hGG.1.call hS (gA_sub hD hS hA) U hU hW)) rfl rfl hl.1 rfl (lv_room (Nat.le_of_ble_eq_true rfl)) dL_rangeTo_4 ⟨Nat.le_of_ble_eq_true rfl, Nat.le_of_ble_eq_true rfl⟩) hD hS hA (fun E ce q9 u9 H locs hc hP hD hS e1 e2 e3 => ?_) (fun r9 u9 H locs hr9 hP hD hS => ?_)
  · obtain ⟨hc, hC9⟩ := hc
    have hPx : va_P D vwCl ((X.set i (gO h0 lo sv rv)).set io (gQ ou cL f) ++ va_pl u9.1 (gE u9.2)) H := by rw [e0, g_same hXo]; exact hP
    have hDx : va_D (va_A (X ++ va_pl L (gE S)) s.heap.size) ((X.set i (gO h0 lo sv rv)).set io (gQ ou cL f) ++ va_pl u9.1 (gE u9.2)) := by rw [e0, g_same hXo]; exact hD
    obtain ⟨rfl, hc⟩ := hc
    refine vx_catch (own := RL) (name := xIOB) hown [] (⟨0, 9, 12, 19⟩ : ExceptionTableEntry) [] (by rw [htab]; rfl) (fun z hz => nomatch hz) (by decide) (by decide) (hts (.classLink RL 19 xIOB) (by decide +kernel)) (va_Nw.use rfl (hGG.1.2.1 (.castable xIOB xIOB) (by decide +kernel))) e1 e2 e3 ?_
    refine lv_astore_n (lv' := [(3, .ref q9), (0, .ref h0), (1, .int v0), (2, .ref ou)]) hx hb dL_rangeTo_12 rfl hl (by decide) rfl (fun ls hl => ?_)
    refine lv_iconst (v := 1) hx hb dL_rangeTo_13 (by decide) ?_
    exact g_reti (wo := fun u : (List Nat × gS) × (Nat → Int64) × Int32 × Int32 => (X.set i (gO h0 lo u.2.2.1 u.2.2.2)).set io (gQ ou cL u.2.1) ++ va_pl u.1.1 (gE u.1.2)) hx hb hr hlocks hK 1 (u9, f, sv, rv) hPx hDx hS (Nat.le_of_ble_eq_true rfl) (Nat.le_of_ble_eq_true rfl) (Or.inr (⟨rfl, rfl, rfl, hc, hC9⟩)) dL_rangeTo_14
  · skip
    refine lv_i2l (v := r9.toInt64) hx hb dL_rangeTo_7 rfl ?_
    have hXo2 : (X.set i (gO h0 lo sv rv))[io]? = some (gQ ou cL f) := by rw [e0]; exact hXo
    have hP : va_P D vwCl (X.set i (gO h0 lo sv rv) ++ va_pl u9.1 (gE u9.2)) H := by rw [e0]; exact hP
    have hD : va_D (va_A (X ++ va_pl L (gE S)) s.heap.size) (X.set i (gO h0 lo sv rv) ++ va_pl u9.1 (gE u9.2)) := by rw [e0]; exact hD
    refine va_last hx hb hK hP hD hS io tl (g_inX hXo2) htl (vp_in_nI (n := 0) (N := 1) (by omega) (by omega)) dL_rangeTo_8 (fun H locs hP2 hD2 hS => ?_)
    have hw := g_setX (Y := va_pl u9.1 (gE u9.2)) (v := gQ ou cL (vp_updL f 0 r9.toInt64)) hXo2
    have hP := g_eqP hw hP2
    have hD := g_eqD hw hD2
    refine lv_goto (tgt := 15) hx hb dL_rangeTo_9 (by decide) ?_
    refine lv_iconst (v := 0) hx hb dL_rangeTo_15 (by decide) ?_
    exact g_reti (wo := fun u : (List Nat × gS) × (Nat → Int64) × Int32 × Int32 => (X.set i (gO h0 lo u.2.2.1 u.2.2.2)).set io (gQ ou cL u.2.1) ++ va_pl u.1.1 (gE u.1.2)) hx hb hr hlocks hK 0 (u9, vp_updL f 0 r9.toInt64, sv, rv) hP hD hS (Nat.le_of_ble_eq_true rfl) (Nat.le_of_ble_eq_true rfl) (Or.inl ⟨rfl, r9, rfl, rfl, hr9⟩) dL_rangeTo_16
set_option maxHeartbeats 4000000 in
set_option maxRecDepth 100000 in
/-- inGoblet: the call's answer, or what it threw -/
theorem w_inGoblet (l : Launch) (hl9 : l.stackTraces = false) (D : va_G) (tys : List (ClassId × FieldType)) (X : va_W) (L : List Nat) (S : gS) (sz : Nat) {P : Nat → Int32} {i io h0 lo ou tl : Nat} {cL : ClassId} {sv rv : Int32} {f : Nat → Int64} (hX : X[i]? = some (gO h0 lo sv rv)) (hXo : X[io]? = some (gQ ou cL f)) (hio : i ≠ io) (htl : tys[tl]? = some (cL, .long)) (hC : gCh P lo (L, S)) (v0 : Int32) : Met l yL_inGoblet wsL_inGoblet ({ frames := 8, cells := 1, slots := 6, locals := 123 } : Room) (gP D tys [.ref h0, .int v0, .ref ou] (X ++ va_pl L (gE S)) sz (gL (va_A (X ++ va_pl L (gE S)) sz))) (va_Qi (fun (r : Int32) (u : (List Nat × gS) × (Nat → Int64) × Int32 × Int32) => (r = 0 ∧ ∃ rv9 : Int32, u.2.1 = vp_updL f 0 rv9.toInt64 ∧ u.2.2 = (sv, rv) ∧ (gGob v0 ∧ rv9 = nI (gct P v0 5000)) ∧ gCh P lo u.1) ∨ (r = 1 ∧ u.2.1 = f ∧ u.2.2 = (sv, rv) ∧ (¬ gGob v0) ∧ gCh P lo u.1)) (fun u t => gWd D tys (va_A (X ++ va_pl L (gE S)) sz) ((X.set i (gO h0 lo u.2.2.1 u.2.2.2)).set io (gQ ou cL u.2.1) ++ va_pl u.1.1 (gE u.1.2)) t) (va_A (X ++ va_pl L (gE S)) sz)) 1 6 (va_A (X ++ va_pl L (gE S)) sz) := by
  refine g_ofWH (cc := cL_inGoblet) (maxL := 4) (ret := some .int) (by decide) rfl (Nat.le_of_ble_eq_true rfl) ?_
  intro p e s m below meth c hx hb hr hml hts hown hlocks htab hsz hP hK hD hA hS hGG ls hl
  subst hsz
  have hown : s.vm.findClass RL = some m.cls := hown
  have hl : lv_has ls 4 [(0, .ref h0), (1, .int v0), (2, .ref ou)] := hl
  have e0 : X.set i (gO h0 lo sv rv) = X := g_same hX
  refine lv_aload_n hx hb dL_inGoblet_0 rfl (lv_at hl 2 rfl) ?_
  refine lv_iconst (v := 0) hx hb dL_inGoblet_1 (by decide) ?_
  refine lv_aload_n hx hb dL_inGoblet_2 rfl (lv_at hl 0 rfl) ?_
  refine lv_iload_n hx hb dL_inGoblet_3 rfl (lv_at hl 1 rfl) ?_
  refine g_xcalli (vx_runV (As := [.int v0]) (rest := [.int 0, .ref ou]) ⟨hx, hb, hml, hown, hts⟩ (c_inGoblet l hl9 D tys X L S s.heap.size hX hC v0) (cwV 1 hts gL_inGoblet_X1_inGoblet rfl rfl rfl (by decide +kernel) ⟨Nat.le_of_ble_eq_true rfl, Nat.le_of_ble_eq_true rfl⟩) (gP_V (va_recv hK hP (ci := 1) rfl (g_inX hX)) hP hK hD gBl_G (fun U hU hW => hGG.1.call hS (gA_sub hD hS hA) U hU hW)) rfl rfl hl.1 rfl (lv_room (Nat.le_of_ble_eq_true rfl)) dL_inGoblet_4 ⟨Nat.le_of_ble_eq_true rfl, Nat.le_of_ble_eq_true rfl⟩) hD hS hA (fun E ce q9 u9 H locs hc hP hD hS e1 e2 e3 => ?_) (fun r9 u9 H locs hr9 hP hD hS => ?_)
  · obtain ⟨hc, hC9⟩ := hc
    have hPx : va_P D vwCl ((X.set i (gO h0 lo sv rv)).set io (gQ ou cL f) ++ va_pl u9.1 (gE u9.2)) H := by rw [e0, g_same hXo]; exact hP
    have hDx : va_D (va_A (X ++ va_pl L (gE S)) s.heap.size) ((X.set i (gO h0 lo sv rv)).set io (gQ ou cL f) ++ va_pl u9.1 (gE u9.2)) := by rw [e0, g_same hXo]; exact hD
    obtain ⟨rfl, hc⟩ := hc
    refine vx_catch (own := RL) (name := xIOB) hown [] (⟨0, 9, 12, 19⟩ : ExceptionTableEntry) [] (by rw [htab]; rfl) (fun z hz => nomatch hz) (by decide) (by decide) (hts (.classLink RL 19 xIOB) (by decide +kernel)) (va_Nw.use rfl (hGG.1.2.1 (.castable xIOB xIOB) (by decide +kernel))) e1 e2 e3 ?_
    refine lv_astore_n (lv' := [(3, .ref q9), (0, .ref h0), (1, .int v0), (2, .ref ou)]) hx hb dL_inGoblet_12 rfl hl (by decide) rfl (fun ls hl => ?_)
    refine lv_iconst (v := 1) hx hb dL_inGoblet_13 (by decide) ?_
    exact g_reti (wo := fun u : (List Nat × gS) × (Nat → Int64) × Int32 × Int32 => (X.set i (gO h0 lo u.2.2.1 u.2.2.2)).set io (gQ ou cL u.2.1) ++ va_pl u.1.1 (gE u.1.2)) hx hb hr hlocks hK 1 (u9, f, sv, rv) hPx hDx hS (Nat.le_of_ble_eq_true rfl) (Nat.le_of_ble_eq_true rfl) (Or.inr (⟨rfl, rfl, rfl, hc, hC9⟩)) dL_inGoblet_14
  · skip
    refine lv_i2l (v := r9.toInt64) hx hb dL_inGoblet_7 rfl ?_
    have hXo2 : (X.set i (gO h0 lo sv rv))[io]? = some (gQ ou cL f) := by rw [e0]; exact hXo
    have hP : va_P D vwCl (X.set i (gO h0 lo sv rv) ++ va_pl u9.1 (gE u9.2)) H := by rw [e0]; exact hP
    have hD : va_D (va_A (X ++ va_pl L (gE S)) s.heap.size) (X.set i (gO h0 lo sv rv) ++ va_pl u9.1 (gE u9.2)) := by rw [e0]; exact hD
    refine va_last hx hb hK hP hD hS io tl (g_inX hXo2) htl (vp_in_nI (n := 0) (N := 1) (by omega) (by omega)) dL_inGoblet_8 (fun H locs hP2 hD2 hS => ?_)
    have hw := g_setX (Y := va_pl u9.1 (gE u9.2)) (v := gQ ou cL (vp_updL f 0 r9.toInt64)) hXo2
    have hP := g_eqP hw hP2
    have hD := g_eqD hw hD2
    refine lv_goto (tgt := 15) hx hb dL_inGoblet_9 (by decide) ?_
    refine lv_iconst (v := 0) hx hb dL_inGoblet_15 (by decide) ?_
    exact g_reti (wo := fun u : (List Nat × gS) × (Nat → Int64) × Int32 × Int32 => (X.set i (gO h0 lo u.2.2.1 u.2.2.2)).set io (gQ ou cL u.2.1) ++ va_pl u.1.1 (gE u.1.2)) hx hb hr hlocks hK 0 (u9, vp_updL f 0 r9.toInt64, sv, rv) hP hD hS (Nat.le_of_ble_eq_true rfl) (Nat.le_of_ble_eq_true rfl) (Or.inl ⟨rfl, r9, rfl, rfl, hr9⟩) dL_inGoblet_16
set_option maxHeartbeats 4000000 in
set_option maxRecDepth 100000 in
/-- rangesOf: the call's answer, or what it threw -/
theorem w_rangesOf (l : Launch) (hl9 : l.stackTraces = false) (D : va_G) (tys : List (ClassId × FieldType)) (X : va_W) (L : List Nat) (S : gS) (sz : Nat) {P : Nat → Int32} {i io h0 lo ou tl : Nat} {cL : ClassId} {sv rv : Int32} {f : Nat → Int64} (hX : X[i]? = some (gO h0 lo sv rv)) (hXo : X[io]? = some (gQ ou cL f)) (hio : i ≠ io) (htl : tys[tl]? = some (cL, .long)) (hC : gCh P lo (L, S)) (v0 : Int32) (h00 : P 0 = -1) : Met l yL_rangesOf wsL_rangesOf ({ frames := 8, cells := 1, slots := 6, locals := 123 } : Room) (gP D tys [.ref h0, .int v0, .ref ou] (X ++ va_pl L (gE S)) sz (gL (va_A (X ++ va_pl L (gE S)) sz))) (va_Qi (fun (r : Int32) (u : (List Nat × gS) × (Nat → Int64) × Int32 × Int32) => (r = 0 ∧ ∃ rv9 : Int32, u.2.1 = vp_updL f 0 rv9.toInt64 ∧ u.2.2 = (sv, rv) ∧ (gGob v0 ∧ rv9 = nI (gbg P v0 5000)) ∧ gCh P lo u.1) ∨ (r = 1 ∧ u.2.1 = f ∧ u.2.2 = (sv, rv) ∧ (¬ gGob v0) ∧ gCh P lo u.1)) (fun u t => gWd D tys (va_A (X ++ va_pl L (gE S)) sz) ((X.set i (gO h0 lo u.2.2.1 u.2.2.2)).set io (gQ ou cL u.2.1) ++ va_pl u.1.1 (gE u.1.2)) t) (va_A (X ++ va_pl L (gE S)) sz)) 1 6 (va_A (X ++ va_pl L (gE S)) sz) := by
  refine g_ofWH (cc := cL_rangesOf) (maxL := 4) (ret := some .int) (by decide) rfl (Nat.le_of_ble_eq_true rfl) ?_
  intro p e s m below meth c hx hb hr hml hts hown hlocks htab hsz hP hK hD hA hS hGG ls hl
  subst hsz
  have hown : s.vm.findClass RL = some m.cls := hown
  have hl : lv_has ls 4 [(0, .ref h0), (1, .int v0), (2, .ref ou)] := hl
  have e0 : X.set i (gO h0 lo sv rv) = X := g_same hX
  refine lv_aload_n hx hb dL_rangesOf_0 rfl (lv_at hl 2 rfl) ?_
  refine lv_iconst (v := 0) hx hb dL_rangesOf_1 (by decide) ?_
  refine lv_aload_n hx hb dL_rangesOf_2 rfl (lv_at hl 0 rfl) ?_
  refine lv_iload_n hx hb dL_rangesOf_3 rfl (lv_at hl 1 rfl) ?_
  refine g_xcalli (vx_runV (As := [.int v0]) (rest := [.int 0, .ref ou]) ⟨hx, hb, hml, hown, hts⟩ (c_rangesOf l hl9 D tys X L S s.heap.size hX hC v0 h00) (cwV 1 hts gL_rangesOf_X1_rangesOf rfl rfl rfl (by decide +kernel) ⟨Nat.le_of_ble_eq_true rfl, Nat.le_of_ble_eq_true rfl⟩) (gP_V (va_recv hK hP (ci := 1) rfl (g_inX hX)) hP hK hD gBl_G (fun U hU hW => hGG.1.call hS (gA_sub hD hS hA) U hU hW)) rfl rfl hl.1 rfl (lv_room (Nat.le_of_ble_eq_true rfl)) dL_rangesOf_4 ⟨Nat.le_of_ble_eq_true rfl, Nat.le_of_ble_eq_true rfl⟩) hD hS hA (fun E ce q9 u9 H locs hc hP hD hS e1 e2 e3 => ?_) (fun r9 u9 H locs hr9 hP hD hS => ?_)
  · obtain ⟨hc, hC9⟩ := hc
    have hPx : va_P D vwCl ((X.set i (gO h0 lo sv rv)).set io (gQ ou cL f) ++ va_pl u9.1 (gE u9.2)) H := by rw [e0, g_same hXo]; exact hP
    have hDx : va_D (va_A (X ++ va_pl L (gE S)) s.heap.size) ((X.set i (gO h0 lo sv rv)).set io (gQ ou cL f) ++ va_pl u9.1 (gE u9.2)) := by rw [e0, g_same hXo]; exact hD
    obtain ⟨rfl, hc⟩ := hc
    refine vx_catch (own := RL) (name := xIOB) hown [] (⟨0, 9, 12, 19⟩ : ExceptionTableEntry) [] (by rw [htab]; rfl) (fun z hz => nomatch hz) (by decide) (by decide) (hts (.classLink RL 19 xIOB) (by decide +kernel)) (va_Nw.use rfl (hGG.1.2.1 (.castable xIOB xIOB) (by decide +kernel))) e1 e2 e3 ?_
    refine lv_astore_n (lv' := [(3, .ref q9), (0, .ref h0), (1, .int v0), (2, .ref ou)]) hx hb dL_rangesOf_12 rfl hl (by decide) rfl (fun ls hl => ?_)
    refine lv_iconst (v := 1) hx hb dL_rangesOf_13 (by decide) ?_
    exact g_reti (wo := fun u : (List Nat × gS) × (Nat → Int64) × Int32 × Int32 => (X.set i (gO h0 lo u.2.2.1 u.2.2.2)).set io (gQ ou cL u.2.1) ++ va_pl u.1.1 (gE u.1.2)) hx hb hr hlocks hK 1 (u9, f, sv, rv) hPx hDx hS (Nat.le_of_ble_eq_true rfl) (Nat.le_of_ble_eq_true rfl) (Or.inr (⟨rfl, rfl, rfl, hc, hC9⟩)) dL_rangesOf_14
  · skip
    refine lv_i2l (v := r9.toInt64) hx hb dL_rangesOf_7 rfl ?_
    have hXo2 : (X.set i (gO h0 lo sv rv))[io]? = some (gQ ou cL f) := by rw [e0]; exact hXo
    have hP : va_P D vwCl (X.set i (gO h0 lo sv rv) ++ va_pl u9.1 (gE u9.2)) H := by rw [e0]; exact hP
    have hD : va_D (va_A (X ++ va_pl L (gE S)) s.heap.size) (X.set i (gO h0 lo sv rv) ++ va_pl u9.1 (gE u9.2)) := by rw [e0]; exact hD
    refine va_last hx hb hK hP hD hS io tl (g_inX hXo2) htl (vp_in_nI (n := 0) (N := 1) (by omega) (by omega)) dL_rangesOf_8 (fun H locs hP2 hD2 hS => ?_)
    have hw := g_setX (Y := va_pl u9.1 (gE u9.2)) (v := gQ ou cL (vp_updL f 0 r9.toInt64)) hXo2
    have hP := g_eqP hw hP2
    have hD := g_eqD hw hD2
    refine lv_goto (tgt := 15) hx hb dL_rangesOf_9 (by decide) ?_
    refine lv_iconst (v := 0) hx hb dL_rangesOf_15 (by decide) ?_
    exact g_reti (wo := fun u : (List Nat × gS) × (Nat → Int64) × Int32 × Int32 => (X.set i (gO h0 lo u.2.2.1 u.2.2.2)).set io (gQ ou cL u.2.1) ++ va_pl u.1.1 (gE u.1.2)) hx hb hr hlocks hK 0 (u9, vp_updL f 0 r9.toInt64, sv, rv) hP hD hS (Nat.le_of_ble_eq_true rfl) (Nat.le_of_ble_eq_true rfl) (Or.inl ⟨rfl, r9, rfl, rfl, hr9⟩) dL_rangesOf_16
set_option maxHeartbeats 4000000 in
set_option maxRecDepth 100000 in
/-- nextOf: the call's answer, or what it threw -/
theorem w_nextOf (l : Launch) (hl9 : l.stackTraces = false) (D : va_G) (tys : List (ClassId × FieldType)) (X : va_W) (L : List Nat) (S : gS) (sz : Nat) {P : Nat → Int32} {i io h0 lo ou tl : Nat} {cL : ClassId} {sv rv : Int32} {f : Nat → Int64} (hX : X[i]? = some (gO h0 lo sv rv)) (hXo : X[io]? = some (gQ ou cL f)) (hio : i ≠ io) (htl : tys[tl]? = some (cL, .long)) (hC : gCh P lo (L, S)) (v0 : Int32) : Met l yL_nextOf wsL_nextOf ({ frames := 8, cells := 1, slots := 6, locals := 124 } : Room) (gP D tys [.ref h0, .int v0, .ref ou] (X ++ va_pl L (gE S)) sz (gL (va_A (X ++ va_pl L (gE S)) sz))) (va_Qi (fun (r : Int32) (u : (List Nat × gS) × (Nat → Int64) × Int32 × Int32) => (r = 0 ∧ ∃ rv9 : Int32, u.2.1 = vp_updL f 0 rv9.toInt64 ∧ u.2.2 = (sv, rv) ∧ (gGob v0 ∧ ∃ v w, glow (fun j => P j = v0) 5000 v ∧ glow (fun j => P j = 8) 5000 w ∧ rv9 = nI (if v = 0 then w else v)) ∧ gCh P lo u.1) ∨ (r = 1 ∧ u.2.1 = f ∧ u.2.2 = (sv, rv) ∧ (¬ gGob v0) ∧ gCh P lo u.1)) (fun u t => gWd D tys (va_A (X ++ va_pl L (gE S)) sz) ((X.set i (gO h0 lo u.2.2.1 u.2.2.2)).set io (gQ ou cL u.2.1) ++ va_pl u.1.1 (gE u.1.2)) t) (va_A (X ++ va_pl L (gE S)) sz)) 1 6 (va_A (X ++ va_pl L (gE S)) sz) := by
  refine g_ofWH (cc := cL_nextOf) (maxL := 4) (ret := some .int) (by decide) rfl (Nat.le_of_ble_eq_true rfl) ?_
  intro p e s m below meth c hx hb hr hml hts hown hlocks htab hsz hP hK hD hA hS hGG ls hl
  subst hsz
  have hown : s.vm.findClass RL = some m.cls := hown
  have hl : lv_has ls 4 [(0, .ref h0), (1, .int v0), (2, .ref ou)] := hl
  have e0 : X.set i (gO h0 lo sv rv) = X := g_same hX
  refine lv_aload_n hx hb dL_nextOf_0 rfl (lv_at hl 2 rfl) ?_
  refine lv_iconst (v := 0) hx hb dL_nextOf_1 (by decide) ?_
  refine lv_aload_n hx hb dL_nextOf_2 rfl (lv_at hl 0 rfl) ?_
  refine lv_iload_n hx hb dL_nextOf_3 rfl (lv_at hl 1 rfl) ?_
  refine g_xcalli (vx_runV (As := [.int v0]) (rest := [.int 0, .ref ou]) ⟨hx, hb, hml, hown, hts⟩ (c_nextOf l hl9 D tys X L S s.heap.size hX hC v0) (cwV 1 hts gL_nextOf_X1_nextOf rfl rfl rfl (by decide +kernel) ⟨Nat.le_of_ble_eq_true rfl, Nat.le_of_ble_eq_true rfl⟩) (gP_V (va_recv hK hP (ci := 1) rfl (g_inX hX)) hP hK hD gBl_G (fun U hU hW => hGG.1.call hS (gA_sub hD hS hA) U hU hW)) rfl rfl hl.1 rfl (lv_room (Nat.le_of_ble_eq_true rfl)) dL_nextOf_4 ⟨Nat.le_of_ble_eq_true rfl, Nat.le_of_ble_eq_true rfl⟩) hD hS hA (fun E ce q9 u9 H locs hc hP hD hS e1 e2 e3 => ?_) (fun r9 u9 H locs hr9 hP hD hS => ?_)
  · obtain ⟨hc, hC9⟩ := hc
    have hPx : va_P D vwCl ((X.set i (gO h0 lo sv rv)).set io (gQ ou cL f) ++ va_pl u9.1 (gE u9.2)) H := by rw [e0, g_same hXo]; exact hP
    have hDx : va_D (va_A (X ++ va_pl L (gE S)) s.heap.size) ((X.set i (gO h0 lo sv rv)).set io (gQ ou cL f) ++ va_pl u9.1 (gE u9.2)) := by rw [e0, g_same hXo]; exact hD
    obtain ⟨rfl, hc⟩ := hc
    refine vx_catch (own := RL) (name := xIOB) hown [] (⟨0, 9, 12, 19⟩ : ExceptionTableEntry) [] (by rw [htab]; rfl) (fun z hz => nomatch hz) (by decide) (by decide) (hts (.classLink RL 19 xIOB) (by decide +kernel)) (va_Nw.use rfl (hGG.1.2.1 (.castable xIOB xIOB) (by decide +kernel))) e1 e2 e3 ?_
    refine lv_astore_n (lv' := [(3, .ref q9), (0, .ref h0), (1, .int v0), (2, .ref ou)]) hx hb dL_nextOf_12 rfl hl (by decide) rfl (fun ls hl => ?_)
    refine lv_iconst (v := 1) hx hb dL_nextOf_13 (by decide) ?_
    exact g_reti (wo := fun u : (List Nat × gS) × (Nat → Int64) × Int32 × Int32 => (X.set i (gO h0 lo u.2.2.1 u.2.2.2)).set io (gQ ou cL u.2.1) ++ va_pl u.1.1 (gE u.1.2)) hx hb hr hlocks hK 1 (u9, f, sv, rv) hPx hDx hS (Nat.le_of_ble_eq_true rfl) (Nat.le_of_ble_eq_true rfl) (Or.inr (⟨rfl, rfl, rfl, hc, hC9⟩)) dL_nextOf_14
  · skip
    refine lv_i2l (v := r9.toInt64) hx hb dL_nextOf_7 rfl ?_
    have hXo2 : (X.set i (gO h0 lo sv rv))[io]? = some (gQ ou cL f) := by rw [e0]; exact hXo
    have hP : va_P D vwCl (X.set i (gO h0 lo sv rv) ++ va_pl u9.1 (gE u9.2)) H := by rw [e0]; exact hP
    have hD : va_D (va_A (X ++ va_pl L (gE S)) s.heap.size) (X.set i (gO h0 lo sv rv) ++ va_pl u9.1 (gE u9.2)) := by rw [e0]; exact hD
    refine va_last hx hb hK hP hD hS io tl (g_inX hXo2) htl (vp_in_nI (n := 0) (N := 1) (by omega) (by omega)) dL_nextOf_8 (fun H locs hP2 hD2 hS => ?_)
    have hw := g_setX (Y := va_pl u9.1 (gE u9.2)) (v := gQ ou cL (vp_updL f 0 r9.toInt64)) hXo2
    have hP := g_eqP hw hP2
    have hD := g_eqD hw hD2
    refine lv_goto (tgt := 15) hx hb dL_nextOf_9 (by decide) ?_
    refine lv_iconst (v := 0) hx hb dL_nextOf_15 (by decide) ?_
    exact g_reti (wo := fun u : (List Nat × gS) × (Nat → Int64) × Int32 × Int32 => (X.set i (gO h0 lo u.2.2.1 u.2.2.2)).set io (gQ ou cL u.2.1) ++ va_pl u.1.1 (gE u.1.2)) hx hb hr hlocks hK 0 (u9, vp_updL f 0 r9.toInt64, sv, rv) hP hD hS (Nat.le_of_ble_eq_true rfl) (Nat.le_of_ble_eq_true rfl) (Or.inl ⟨rfl, r9, rfl, rfl, hr9⟩) dL_nextOf_16
