/-! worlds, contracts' forms, calls: what all methods below use -/
/-- a pool of stretches: first, last, place, next by address -/
abbrev gS : Type := Nat → Nat × Nat × Int32 × Option Nat
def gE (S : gS) : Nat → va_E := fun a => .inr (0, [.int (nI (S a).1), .int (nI (S a).2.1), .int (S a).2.2.1, va_rf (S a).2.2.2])
def gWd (D : va_G) (tys : List (ClassId × FieldType)) (A : Nat → Prop) (w : va_W) (t : State) : Prop := va_P D vwCl w t.heap ∧ va_K D vwCl tys t ∧ va_D A w
theorem gE_get {X : va_W} {L : List Nat} {S : gS} {a f la : Nat} {pl : Int32} {nx : Option Nat} (hL : a ∈ L) (h : S a = (f, la, pl, nx)) : ∃ k : Nat, (X ++ va_pl L (gE S))[k]? = some (a, gE S a) ∧ (X ++ va_pl L (gE S))[k]? = some (a, .inr (0, [.int (nI f), .int (nI la), .int pl, va_rf nx])) := by
  obtain ⟨k, hk⟩ := va_pl_get (X := X) (f := gE S) hL
  refine ⟨k, hk, hk.trans ?_⟩
  unfold gE
  rw [h]
theorem gE_put {A : Nat → Prop} {X : va_W} {L : List Nat} {S : gS} {a k f la : Nat} {pl : Int32} {nx : Option Nat} (hD : va_D A (X ++ va_pl L (gE S))) (hL : a ∈ L) (hk : (X ++ va_pl L (gE S))[k]? = some (a, gE S a)) : (X ++ va_pl L (gE S)).set k (a, .inr (0, [.int (nI f), .int (nI la), .int pl, va_rf nx])) = X ++ va_pl L (gE (va_up S a (f, la, pl, nx))) := by
  rw [va_pl_set hD hL hk]
  refine congrArg (fun l => X ++ l) (va_pl_congr fun b => ?_)
  by_cases hb : b = a
  · subst hb
    rw [va_up_self]
    unfold gE
    rw [va_up_self]
  · rw [va_up_ne _ _ hb]
    unfold gE
    rw [va_up_ne _ _ hb]
theorem gE_new {X : va_W} {L : List Nat} {S : gS} {q : Nat} (hq : q ∉ L) : (X ++ va_pl L (gE S)) ++ [(q, .inr (0, [.int 0, .int 0, .int 0, .null]))] = X ++ va_pl (L ++ [q]) (gE (va_up S q (0, 0, 0, none))) := by
  rw [List.append_assoc, va_pl_push hq]
  refine congrArg (fun l => X ++ l) (va_pl_congr fun b => ?_)
  by_cases hb : b = q
  · subst hb
    rw [va_up_self]
    unfold gE
    rw [va_up_self]
    rfl
  · rw [va_up_ne _ _ hb]
    unfold gE
    rw [va_up_ne _ _ hb]
/-- links among nest mates -/
def gN (U : State) : Prop := (va_Nw (.fieldLinkNest RX1 90 "NumberGoblets$Stretch" "first" "I" "NumberGoblets") U ∧ va_Nw (.fieldLinkNest RX1 93 "NumberGoblets$Stretch" "last" "I" "NumberGoblets") U ∧ va_Nw (.fieldLinkNest RX1 96 "NumberGoblets$Stretch" "place" "I" "NumberGoblets") U ∧ va_Nw (.fieldLinkNest RX1 103 "NumberGoblets$Stretch" "next" "LNumberGoblets$Stretch;" "NumberGoblets") U) ∧ va_Nw (.methodLinkNest RX1 11 yX0_init "NumberGoblets") U ∧ va_Nw (.methodLinkNest RX1 99 yX0_length "NumberGoblets") U ∧ va_Nw (.methodLinkNest RX1 110 yX0_shortenTo "NumberGoblets") U ∧ va_Nw (.methodLinkNest RX1 116 yX0_absorbNextOnesOfSamePlace "NumberGoblets") U
theorem gN.warm {s U : State} (hW : s.WarmedH U.vm) (h : gN s) : gN U := by
  obtain ⟨⟨h1, h2, h3, h4⟩, h5, h6, h7, h8⟩ := h
  exact ⟨⟨h1.warmF hW, h2.warmF hW, h3.warmF hW, h4.warmF hW⟩, h5.warmM hW, h6.warmM hW, h7.warmM hW, h8.warmM hW⟩
/-- a contract's start: arguments, a world, and G -/
def gP (D : va_G) (tys : List (ClassId × FieldType)) (av : List Value) (w : va_W) (sz : Nat) (G : State → Prop) : Array Value → State → Prop := va_Pc av (fun U => U.heap.size = sz ∧ gWd D tys (fun _ => True) w U ∧ G U)
def gBl (G : State → Prop) : Prop := ∀ (U : State) (g : JFrame) (mk : MethodId) (a : Array Value), G U → G (U.calling g mk a)
theorem gBl_T : gBl (fun _ => True) := fun _ _ _ _ _ => trivial
theorem gBl_N : gBl gN := fun U g mk a h => gN.warm (s := U) (U := U.calling g mk a) (State.WarmedH.refl U) h
theorem gP_blind {D : va_G} {tys : List (ClassId × FieldType)} {av : List Value} {w : va_W} {sz : Nat} {G : State → Prop} (hG : gBl G) : FrameBlind (gP D tys av w sz G) := fun a U g mk q => by
  obtain ⟨q0, q1, ⟨qP, qK, qD⟩, qG⟩ := q
  exact ⟨q0, q1, ⟨qP, va_K.moved (u := U) (U := U.calling g mk a) (Vm.Alike.refl U.vm) qK, qD⟩, hG U g mk a qG⟩
section GCALL
variable {D : va_G} {tys : List (ClassId × FieldType)} {w : va_W} {G : State → Prop} {s : State} {H H0 : Heap} {A : Nat → Prop} {locs : List Loc}
theorem gP_V {C : String} {b : Nat} {As : List Value} (hr : ∃ cell : Cell, H[b]? = some cell ∧ cell.vm.isStatics = false ∧ s.vm.findClass C = some cell.cls) (hP : va_P D vwCl w H) (hK : va_K D vwCl tys s) (hD : va_D A w) (hB : gBl G) (hG : ∀ U : State, U.heap = H → s.WarmedH U.vm → G U) : PreV s H C b (gP D tys (.ref b :: As) w H.size G) As :=
  ⟨gP_blind hB, hr, fun U hU hW => ⟨rfl, by rw [hU], ⟨by rw [hU]; exact hP, va_K.moved hW.alike hK, hD.weaken (fun _ _ _ _ => trivial)⟩, hG U hU hW⟩⟩
theorem gP_S {As : List Value} (hP : va_P D vwCl w H) (hK : va_K D vwCl tys s) (hD : va_D A w) (hB : gBl G) (hG : ∀ U : State, U.heap = H → s.WarmedH U.vm → G U) : PreS s H (gP D tys As w H.size G) As :=
  ⟨gP_blind hB, fun U hU hW => ⟨rfl, by rw [hU], ⟨by rw [hU]; exact hP, va_K.moved hW.alike hK, hD.weaken (fun _ _ _ _ => trivial)⟩, hG U hU hW⟩⟩
theorem gA_sub (hD : va_D A w) (hS : va_S A H0 H locs) (hA : ∀ q, H0.size ≤ q → A q) : ∀ q, va_A w H.size q → A q := by
  intro q h
  rcases h with ⟨k, e, h⟩ | h
  · exact hD.2 k (q, e) h
  · exact hA q (Nat.le_trans hS.1 h)
end GCALL
section GW
variable {p : Program} {l : Launch} {e : Env} {R : Room} {s : State} {m : MethodId} {args : Array Value} {below : List Frame} {meth : Method} {c : Code} {H : Heap} {locs : List Loc} {cells slots : Nat} {Q : State → Prop}
variable {pc : Nat} {ls : Array Slot} {rest st0 : List Value} {a : Array Value} {A : Nat → Prop} {H0 : Heap} {mc ms : Nat} {D : va_G} {tys : List (ClassId × FieldType)} {w : va_W} {cc : ByteArray}
theorem g_calli {S : Type} {post : Int32 → S → Prop} {wo : S → va_W} (hr : va_Run p l e R s m args below meth c H locs cells slots mc ms (F0 m pc ls st0) rest (va_Qi post (fun u t => gWd D tys (va_A w H.size) (wo u) t) (va_A w H.size) a) (va_A w H.size)) (hD : va_D A w) (hS : va_S A H0 H locs) (hA : ∀ q, H0.size ≤ q → A q)
    (kk : ∀ (r : Int32) (u : S) (H1 : Heap) (locs1 : List Loc), post r u → va_P D vwCl (wo u) H1 → va_D A (wo u) → va_S A H0 H1 locs1 → W p l e R s m args below meth c H1 locs1 (cells + mc) (slots + ms) Q (F0 m (pc + 3) ls (.int r :: rest))) : W p l e R s m args below meth c H locs cells slots Q (F0 m pc ls st0) :=
  va_calli hr hS (fun q _ h => gA_sub hD hS hA q h) (gA_sub hD hS hA) (fun r u t H1 locs1 ht _ hp hB _ _ hS1 => kk r u H1 locs1 hp (by rw [← ht]; exact hB.1) (hB.2.2.weaken (fun _ q _ h => gA_sub hD hS hA q.1 h)) hS1)
theorem g_callv {S : Type} {post : S → Prop} {wo : S → va_W} (hr : va_Run p l e R s m args below meth c H locs cells slots mc ms (F0 m pc ls st0) rest (va_Qv post (fun u t => gWd D tys (va_A w H.size) (wo u) t) (va_A w H.size) a) (va_A w H.size)) (hD : va_D A w) (hS : va_S A H0 H locs) (hA : ∀ q, H0.size ≤ q → A q)
    (kk : ∀ (u : S) (H1 : Heap) (locs1 : List Loc), post u → va_P D vwCl (wo u) H1 → va_D A (wo u) → va_S A H0 H1 locs1 → W p l e R s m args below meth c H1 locs1 (cells + mc) (slots + ms) Q (F0 m (pc + 3) ls rest)) : W p l e R s m args below meth c H locs cells slots Q (F0 m pc ls st0) :=
  va_callv hr hS (fun q _ h => gA_sub hD hS hA q h) (gA_sub hD hS hA) (fun u t H1 locs1 ht _ hp hB _ _ hS1 => kk u H1 locs1 hp (by rw [← ht]; exact hB.1) (hB.2.2.weaken (fun _ q _ h => gA_sub hD hS hA q.1 h)) hS1)
theorem g_callq {S : Type} {post : Option Nat → S → Prop} {wo : S → va_W} (hr : va_Run p l e R s m args below meth c H locs cells slots mc ms (F0 m pc ls st0) rest (va_Qq post (fun u t => gWd D tys (va_A w H.size) (wo u) t) (va_A w H.size) a) (va_A w H.size)) (hD : va_D A w) (hS : va_S A H0 H locs) (hA : ∀ q, H0.size ≤ q → A q)
    (kk : ∀ (r : Option Nat) (u : S) (H1 : Heap) (locs1 : List Loc), post r u → va_P D vwCl (wo u) H1 → va_D A (wo u) → va_S A H0 H1 locs1 → W p l e R s m args below meth c H1 locs1 (cells + mc) (slots + ms) Q (F0 m (pc + 3) ls (va_rf r :: rest))) : W p l e R s m args below meth c H locs cells slots Q (F0 m pc ls st0) :=
  va_callq hr hS (fun q _ h => gA_sub hD hS hA q h) (gA_sub hD hS hA) (fun r u t H1 locs1 ht _ hp hB _ _ hS1 => kk r u H1 locs1 hp (by rw [← ht]; exact hB.1) (hB.2.2.weaken (fun _ q _ h => gA_sub hD hS hA q.1 h)) hS1)
/-- a method's end -/
theorem g_reti {S : Type} {post : Int32 → S → Prop} {wo : S → va_W} (hx : p.tables.exec = Jvm.exec) (hb : c.code = cc) (hr : meth.sig.returnType = some .int) (hlocks : meth.locks = false) (hK : va_K D vwCl tys s) (r : Int32) (u : S) (hP : va_P D vwCl (wo u) H) (hD : va_D (va_A w s.heap.size) (wo u)) (hS : va_S (va_A w s.heap.size) s.heap H locs) (hc : cells ≤ mc) (hs : slots ≤ ms) (hp : post r u) (hdg : decode cc pc = .ok (.ireturn, 1)) :
    W p l e R s m args below meth c H locs cells slots (MQ below (va_Qi post (fun u t => gWd D tys (va_A w s.heap.size) (wo u) t) (va_A w s.heap.size)) args s mc ms (va_A w s.heap.size)) (F0 m pc ls [.int r]) :=
  W.widen hc hs (W.iret hx hb hr (fun t ht hW => ⟨⟨r, u, rfl, hp, by rw [ht]; exact hP, va_K.moved hW.alike hK, hD⟩, hS.F ht⟩) hS.2.2 hdg hlocks)
theorem g_retz {S : Type} {post : Int32 → S → Prop} {wo : S → va_W} (hx : p.tables.exec = Jvm.exec) (hb : c.code = cc) (hr : meth.sig.returnType = some .boolean) (hlocks : meth.locks = false) (hK : va_K D vwCl tys s) (r : Int32) (hn : narrow .boolean (.int r) = .int r) (u : S) (hP : va_P D vwCl (wo u) H) (hD : va_D (va_A w s.heap.size) (wo u)) (hS : va_S (va_A w s.heap.size) s.heap H locs) (hc : cells ≤ mc) (hs : slots ≤ ms) (hp : post r u) (hdg : decode cc pc = .ok (.ireturn, 1)) :
    W p l e R s m args below meth c H locs cells slots (MQ below (va_Qi post (fun u t => gWd D tys (va_A w s.heap.size) (wo u) t) (va_A w s.heap.size)) args s mc ms (va_A w s.heap.size)) (F0 m pc ls [.int r]) :=
  W.widen hc hs (W.zret hx hb hr hn (fun t ht hW => ⟨⟨r, u, rfl, hp, by rw [ht]; exact hP, va_K.moved hW.alike hK, hD⟩, hS.F ht⟩) hS.2.2 hdg hlocks)
theorem g_retv {S : Type} {post : S → Prop} {wo : S → va_W} (hx : p.tables.exec = Jvm.exec) (hb : c.code = cc) (hr : meth.sig.returnType = none) (hlocks : meth.locks = false) (hK : va_K D vwCl tys s) (u : S) (hP : va_P D vwCl (wo u) H) (hD : va_D (va_A w s.heap.size) (wo u)) (hS : va_S (va_A w s.heap.size) s.heap H locs) (hc : cells ≤ mc) (hs : slots ≤ ms) (hp : post u) (hdg : decode cc pc = .ok (.return_, 1)) :
    W p l e R s m args below meth c H locs cells slots (MQ below (va_Qv post (fun u t => gWd D tys (va_A w s.heap.size) (wo u) t) (va_A w s.heap.size)) args s mc ms (va_A w s.heap.size)) (F0 m pc ls []) :=
  W.widen hc hs (W.vret hx hb hr (fun t ht hW => ⟨⟨u, rfl, hp, by rw [ht]; exact hP, va_K.moved hW.alike hK, hD⟩, hS.F ht⟩) hS.2.2 hdg hlocks)
theorem g_retq {S : Type} {post : Option Nat → S → Prop} {wo : S → va_W} {n : String} (hx : p.tables.exec = Jvm.exec) (hb : c.code = cc) (hr : meth.sig.returnType = some (.object n)) (hlocks : meth.locks = false) (hK : va_K D vwCl tys s) (r : Option Nat) (u : S) (hP : va_P D vwCl (wo u) H) (hD : va_D (va_A w s.heap.size) (wo u)) (hS : va_S (va_A w s.heap.size) s.heap H locs) (hc : cells ≤ mc) (hs : slots ≤ ms) (hp : post r u) (hdg : decode cc pc = .ok (.areturn, 1)) :
    W p l e R s m args below meth c H locs cells slots (MQ below (va_Qq post (fun u t => gWd D tys (va_A w s.heap.size) (wo u) t) (va_A w s.heap.size)) args s mc ms (va_A w s.heap.size)) (F0 m pc ls [va_rf r]) :=
  W.widen hc hs (W.aret hx hb hr (Or.inl ⟨n, rfl⟩) (va_rf_or r) (fun t ht hW => ⟨⟨r, u, rfl, hp, by rw [ht]; exact hP, va_K.moved hW.alike hK, hD⟩, hS.F ht⟩) hS.2.2 hdg hlocks)
/-- references that may be null -/
theorem lq_aload_n (hexec : p.tables.exec = Jvm.exec) (hb : c.code = cc) {k : Fin 4} {i : Nat} {x : Option Nat} (hdg : decode cc pc = .ok (.aload_n k, 1)) (hi : (k : Nat) = i) (hl : ls[i]? = some (.val (va_rf x)))
    (kk : W p l e R s m args below meth c H locs cells slots Q (F0 m (pc + 1) ls (va_rf x :: rest))) : W p l e R s m args below meth c H locs cells slots Q (F0 m pc ls rest) := by
  cases x with
  | none => exact lv_aload_nN hexec hb hdg hi hl kk
  | some x => exact lv_aload_n hexec hb hdg hi hl kk
theorem lq_aload (hexec : p.tables.exec = Jvm.exec) (hb : c.code = cc) {i : Nat} {x : Option Nat} (hdg : decode cc pc = .ok (.aload i, 2)) (hl : ls[i]? = some (.val (va_rf x)))
    (kk : W p l e R s m args below meth c H locs cells slots Q (F0 m (pc + 2) ls (va_rf x :: rest))) : W p l e R s m args below meth c H locs cells slots Q (F0 m pc ls rest) := by
  cases x with
  | none => exact lv_aloadN hexec hb hdg hl kk
  | some x => exact lv_aload hexec hb hdg hl kk
theorem lq_astore_n (hexec : p.tables.exec = Jvm.exec) (hb : c.code = cc) {k : Fin 4} {i nL : Nat} {x : Option Nat} {lv lv' : List (Nat × Value)} (hdg : decode cc pc = .ok (.astore_n k, 1)) (hi : (k : Nat) = i) (h : lv_has ls nL lv) (hn : i < nL) (hl : (i, va_rf x) :: lv.filter (fun q => !(q.1 == i) && !(q.1 + 1 == i && q.2.category == 2)) = lv')
    (kk : ∀ ls' : Array Slot, lv_has ls' nL lv' → W p l e R s m args below meth c H locs cells slots Q (F0 m (pc + 1) ls' rest)) : W p l e R s m args below meth c H locs cells slots Q (F0 m pc ls (va_rf x :: rest)) := by
  cases x with
  | none => exact lv_astore_nN hexec hb hdg hi h hn hl kk
  | some x => exact lv_astore_n hexec hb hdg hi h hn hl kk
theorem lq_astore (hexec : p.tables.exec = Jvm.exec) (hb : c.code = cc) {i nL : Nat} {x : Option Nat} {lv lv' : List (Nat × Value)} (hdg : decode cc pc = .ok (.astore i, 2)) (h : lv_has ls nL lv) (hn : i < nL) (hl : (i, va_rf x) :: lv.filter (fun q => !(q.1 == i) && !(q.1 + 1 == i && q.2.category == 2)) = lv')
    (kk : ∀ ls' : Array Slot, lv_has ls' nL lv' → W p l e R s m args below meth c H locs cells slots Q (F0 m (pc + 2) ls' rest)) : W p l e R s m args below meth c H locs cells slots Q (F0 m pc ls (va_rf x :: rest)) := by
  cases x with
  | none => exact lv_astoreN hexec hb hdg h hn hl kk
  | some x => exact lv_astore hexec hb hdg h hn hl kk
theorem lq_ifnull (hexec : p.tables.exec = Jvm.exec) (hb : c.code = cc) {x : Option Nat} {off : Int} {tgt : Nat} (hdg : decode cc pc = .ok (.ifnull off, 3)) (ht : (pc : Int) + off = (tgt : Int)) (kt : x = none → W p l e R s m args below meth c H locs cells slots Q (F0 m tgt ls rest)) (kf : ∀ y, x = some y → W p l e R s m args below meth c H locs cells slots Q (F0 m (pc + 3) ls rest)) : W p l e R s m args below meth c H locs cells slots Q (F0 m pc ls (va_rf x :: rest)) := by
  cases x with
  | none => exact lv_ifnullN hexec hb hdg ht (kt rfl)
  | some x => exact lv_ifnull hexec hb hdg (kf x rfl)
theorem lq_ifnonnull (hexec : p.tables.exec = Jvm.exec) (hb : c.code = cc) {x : Option Nat} {off : Int} {tgt : Nat} (hdg : decode cc pc = .ok (.ifnonnull off, 3)) (ht : (pc : Int) + off = (tgt : Int)) (kt : ∀ y, x = some y → W p l e R s m args below meth c H locs cells slots Q (F0 m tgt ls rest)) (kf : x = none → W p l e R s m args below meth c H locs cells slots Q (F0 m (pc + 3) ls rest)) : W p l e R s m args below meth c H locs cells slots Q (F0 m pc ls (va_rf x :: rest)) := by
  cases x with
  | none => exact lv_ifnonnullN hexec hb hdg (kf rfl)
  | some x => exact lv_ifnonnull hexec hb hdg ht (kt x rfl)
end GW
/-- a contract out of a walk of its body -/
theorem g_ofW {l : Launch} {y : MethodName} {ws ws' : List Cond} {rm : Room} {D : va_G} {tys : List (ClassId × FieldType)} {av : List Value} {w : va_W} {sz : Nat} {G : State → Prop} {Qc : Array Value → State → Outcome → State → Prop} {mc ms : Nat} {cc : ByteArray} {maxL : Nat} {ret : Option FieldType}
    (hy : plainName y.cls = true) (hw : ws = Cond.code y cc maxL ret :: ws') (hn : (lg_sl av).length ≤ maxL)
    (body : ∀ (p : Program) (e : Env) (s : State) (m : MethodId) (below : List Frame) (meth : Method) (c : Code), p.tables.exec = Jvm.exec → c.code = cc → meth.sig.returnType = ret → c.maxLocals = maxL → (∀ w ∈ ws, w.before av.toArray s = true) → s.vm.findClass y.cls = some m.cls → meth.locks = false → meth.name = y.name → s.heap.size = sz → va_P D vwCl w s.heap → va_K D vwCl tys s → va_D (va_A w s.heap.size) w → (∀ q : Nat, s.heap.size ≤ q → va_A w s.heap.size q) → va_S (va_A w s.heap.size) s.heap s.heap [] → G s →
      ∀ ls : Array Slot, lv_has ls maxL (lv_args 0 av) → W p l e rm s m av.toArray below meth c s.heap [] 0 0 (MQ below Qc av.toArray s mc ms (va_A w sz)) (F0 m 0 ls [])) : Met l y ws rm (gP D tys av w sz G) Qc mc ms (va_A w sz) := by
  refine Met.ofW (cc := cc) (maxL := maxL) (ret := ret) hy hw ?_
  intro p e s m args below meth c s₁ B hml hv
  obtain ⟨rfl, hsz, ⟨hP, hK, hD0⟩, hG⟩ := hv
  have hl := lv_entry av (n := maxL) hn
  rw [lg_entry_eq]
  exact body p e s m below meth c B.exec B.bytes B.returns hml (atoms_spec (ws := ws) B.pre) (findClass_of_methodNamed B.named) B.notSynchronized (name_of_methodNamed B.named B.method).1 hsz hP hK hD0.self (fun q h => Or.inr h) va_S.rf hG _ hl
