section
-- ===== PART A: goes FIRST, ahead of the names: the tables' words, and 'selects' of the private methods out of them =====
/-- a private method of a class that the tables say can be made, by its rows of tables_1 -/
def lw_okq (q : MethodName × Nat) : Prop := (q.1.cls ≠ "java/lang/invoke/MethodHandle" ∧ q.1.cls ≠ "java/lang/invoke/VarHandle") ∧ Cond.instantiable q.1.cls q.2 ∈ tables_1 ∧ Cond.privateMethod q.1 ∈ tables_1 ∧ Cond.instanceMethod q.1 ∈ tables_1
theorem lw_p0 : lw_okq (⟨"java/lang/Throwable", "fillInStackTrace", "(I)Ljava/lang/Throwable;"⟩, 6) := ⟨⟨by decide +kernel, by decide +kernel⟩, List.mem_of_getElem? (i := 94) (by decide +kernel), List.mem_of_getElem? (i := 92) (by decide +kernel), List.mem_of_getElem? (i := 93) (by decide +kernel)⟩
theorem lw_p1 : lw_okq (⟨"NumberGoblets", "move", "(IIII)I"⟩, 3) := ⟨⟨by decide +kernel, by decide +kernel⟩, List.mem_of_getElem? (i := 11) (by decide +kernel), List.mem_of_getElem? (i := 124) (by decide +kernel), List.mem_of_getElem? (i := 125) (by decide +kernel)⟩
theorem lw_p2 : lw_okq (⟨"NumberGoblets$Stretch", "shortenTo", "(I)V"⟩, 4) := ⟨⟨by decide +kernel, by decide +kernel⟩, List.mem_of_getElem? (i := 19) (by decide +kernel), List.mem_of_getElem? (i := 128) (by decide +kernel), List.mem_of_getElem? (i := 129) (by decide +kernel)⟩
theorem lw_p3 : lw_okq (⟨"NumberGoblets$Stretch", "length", "()I"⟩, 4) := ⟨⟨by decide +kernel, by decide +kernel⟩, List.mem_of_getElem? (i := 19) (by decide +kernel), List.mem_of_getElem? (i := 132) (by decide +kernel), List.mem_of_getElem? (i := 133) (by decide +kernel)⟩
theorem lw_p4 : lw_okq (⟨"NumberGoblets", "joinNeighbours", "()V"⟩, 3) := ⟨⟨by decide +kernel, by decide +kernel⟩, List.mem_of_getElem? (i := 11) (by decide +kernel), List.mem_of_getElem? (i := 139) (by decide +kernel), List.mem_of_getElem? (i := 140) (by decide +kernel)⟩
theorem lw_p5 : lw_okq (⟨"NumberGoblets$Stretch", "absorbNextOnesOfSamePlace", "()V"⟩, 4) := ⟨⟨by decide +kernel, by decide +kernel⟩, List.mem_of_getElem? (i := 19) (by decide +kernel), List.mem_of_getElem? (i := 143) (by decide +kernel), List.mem_of_getElem? (i := 144) (by decide +kernel)⟩
theorem lw_p6 : lw_okq (⟨"NumberGoblets", "numbersAt", "(I)I"⟩, 3) := ⟨⟨by decide +kernel, by decide +kernel⟩, List.mem_of_getElem? (i := 11) (by decide +kernel), List.mem_of_getElem? (i := 147) (by decide +kernel), List.mem_of_getElem? (i := 148) (by decide +kernel)⟩
theorem lw_p7 : lw_okq (⟨"NumberGoblets", "numbersAtBelow", "(II)I"⟩, 3) := ⟨⟨by decide +kernel, by decide +kernel⟩, List.mem_of_getElem? (i := 11) (by decide +kernel), List.mem_of_getElem? (i := 151) (by decide +kernel), List.mem_of_getElem? (i := 152) (by decide +kernel)⟩
theorem lw_p8 : lw_okq (⟨"NumberGoblets", "lowestAt", "(I)I"⟩, 3) := ⟨⟨by decide +kernel, by decide +kernel⟩, List.mem_of_getElem? (i := 11) (by decide +kernel), List.mem_of_getElem? (i := 185) (by decide +kernel), List.mem_of_getElem? (i := 186) (by decide +kernel)⟩
theorem lw_p9 : lw_okq (⟨"NumberGoblets", "moveAll", "(II)I"⟩, 3) := ⟨⟨by decide +kernel, by decide +kernel⟩, List.mem_of_getElem? (i := 11) (by decide +kernel), List.mem_of_getElem? (i := 214) (by decide +kernel), List.mem_of_getElem? (i := 215) (by decide +kernel)⟩
theorem lw_p10 : lw_okq (⟨"NumberGoblets", "rangesAt", "(I)I"⟩, 3) := ⟨⟨by decide +kernel, by decide +kernel⟩, List.mem_of_getElem? (i := 11) (by decide +kernel), List.mem_of_getElem? (i := 239) (by decide +kernel), List.mem_of_getElem? (i := 240) (by decide +kernel)⟩
theorem lw_p11 : lw_okq (⟨"NumberGoblets", "rangeOfJug", "(I)LNumberGoblets$Stretch;"⟩, 3) := ⟨⟨by decide +kernel, by decide +kernel⟩, List.mem_of_getElem? (i := 11) (by decide +kernel), List.mem_of_getElem? (i := 247) (by decide +kernel), List.mem_of_getElem? (i := 248) (by decide +kernel)⟩
def lw_privs_1 : List (MethodName × Nat) := [(⟨"java/lang/Throwable", "fillInStackTrace", "(I)Ljava/lang/Throwable;"⟩, 6), (⟨"NumberGoblets", "move", "(IIII)I"⟩, 3), (⟨"NumberGoblets$Stretch", "shortenTo", "(I)V"⟩, 4), (⟨"NumberGoblets$Stretch", "length", "()I"⟩, 4), (⟨"NumberGoblets", "joinNeighbours", "()V"⟩, 3), (⟨"NumberGoblets$Stretch", "absorbNextOnesOfSamePlace", "()V"⟩, 4), (⟨"NumberGoblets", "numbersAt", "(I)I"⟩, 3), (⟨"NumberGoblets", "numbersAtBelow", "(II)I"⟩, 3), (⟨"NumberGoblets", "lowestAt", "(I)I"⟩, 3), (⟨"NumberGoblets", "moveAll", "(II)I"⟩, 3), (⟨"NumberGoblets", "rangesAt", "(I)I"⟩, 3), (⟨"NumberGoblets", "rangeOfJug", "(I)LNumberGoblets$Stretch;"⟩, 3)]
theorem lw_r1 : ∀ q ∈ lw_privs_1, lw_okq q := List.forall_mem_cons.mpr ⟨lw_p0, List.forall_mem_cons.mpr ⟨lw_p1, List.forall_mem_cons.mpr ⟨lw_p2, List.forall_mem_cons.mpr ⟨lw_p3, List.forall_mem_cons.mpr ⟨lw_p4, List.forall_mem_cons.mpr ⟨lw_p5, List.forall_mem_cons.mpr ⟨lw_p6, List.forall_mem_cons.mpr ⟨lw_p7, List.forall_mem_cons.mpr ⟨lw_p8, List.forall_mem_cons.mpr ⟨lw_p9, List.forall_mem_cons.mpr ⟨lw_p10, List.forall_mem_cons.mpr ⟨lw_p11, fun _ h => absurd h List.not_mem_nil⟩⟩⟩⟩⟩⟩⟩⟩⟩⟩⟩⟩
def lw_privs : List (MethodName × Nat) := lw_privs_1
def lw_tbl : List Cond := k2_sels lw_privs ++ tables_1
theorem lw_privs_ok : ∀ q ∈ lw_privs, lw_okq q := lw_r1
end
section
/-! ===== BEGIN words of one list among another's, by their places ===== -/
theorem goodIn_r {big : List Cond} (ws : List Cond) (ps : List Nat) (hp : ws = ps.filterMap (fun i => big[i]?)) (h : ws.all goodWord = true) : GoodIn big ws := by
  intro w hw
  have h1 := List.all_eq_true.mp h w hw
  rw [hp] at hw
  obtain ⟨i, -, hi⟩ := List.mem_filterMap.mp hw
  have hm : w ∈ big := by first | exact List.mem_of_getElem? hi | exact List.getElem?_mem hi
  exact ⟨hm, good_of_word h1⟩
theorem goodIn_app {big a b : List Cond} (ha : GoodIn big a) (hb : GoodIn big b) : GoodIn big (a ++ b) := fun w h => (List.mem_append.mp h).elim (ha w) (hb w)
theorem goodIn_ca {big a b : List Cond} {c : Cond} (ha : GoodIn big (c :: a)) (hb : GoodIn big b) : GoodIn big (c :: (a ++ b)) := fun w h => (List.mem_cons.mp h).elim (fun e => ha w (List.mem_cons.mpr (Or.inl e))) (fun h => (List.mem_append.mp h).elim (fun h => ha w (List.mem_cons.mpr (Or.inr h))) (hb w))
theorem goodIn_sub {big ws : List Cond} (hm : ∀ w ∈ ws, w ∈ big) (h : ws.all goodWord = true) : GoodIn big ws := fun w hw => ⟨hm w hw, good_of_word (List.all_eq_true.mp h w hw)⟩
/-! ===== END ===== -/

/-! ===== BEGIN exceptions that leave a method, and their catching by the caller (launches without stack traces) ===== -/
section VXA
/-! The laws vx_back, vx_callV, vx_callS, vx_callSW, vx_throw0, vx_throwS follow proofs of the library, with one case more: JvmDerived/Free/Laws.lean (Back.of_free), Shelf42/LK1.lean (callV, callS), Shelf/KitTraced.lean (throwNew0V, throwNewS). -/
/-- where a method has thrown q: the class by its name, the cell, what was written, the world -/
def vx_T (XC : String → State → State → Prop) (st : State) (q : Addr) (t : State) (mc ms : Nat) (free : Addr → Prop) : Prop :=
  ∃ (E : String) (ce : Cell) (L : List Loc), XC E st t ∧ t.heap[q]? = some ce ∧ ce.vm = .none ∧ st.vm.findClass E = some ce.cls ∧ st.WarmedH t.vm ∧ st.sameButNew ({ t with vm := st.vm } : State) L mc ms ∧ ∀ z ∈ L, free z.base
def vx_Q (Qc : Array Value → State → Outcome → State → Prop) (XC : String → State → State → Prop) (mc ms : Nat) (free : Addr → Prop) : Array Value → State → Outcome → State → Prop := fun a st o t =>
  (Qc a st o t ∧ ∃ L, FrameEnd st o t L mc ms ∧ ∀ q ∈ L, free q.base) ∨ ∃ q, o = .threw q ∧ vx_T XC st q t mc ms free
/-- a callee that returns or throws -/
def vx_Met (l : Launch) (y : MethodName) (ws : List Cond) (rm : Room) (Pc : Array Value → State → Prop) (Qc : Array Value → State → Outcome → State → Prop) (XC : String → State → State → Prop) (mc ms : Nat) (free : Addr → Prop) : Prop :=
  MetFree l y (headSpec ws rm) Pc (fun _ _ _ _ _ => True) (vx_Q Qc XC mc ms free)
def vx_Post (XC : String → State → State → Prop) (mc ms : Nat) (free : Addr → Prop) : Pt → Array Value → Addr → Pt → Prop := fun A a q B =>
  ∃ (g : JFrame) (mk : MethodId) (t : State) (L : List Loc) (E : String) (ce : Cell), B.U.heap = t.heap ∧ B.U.vm = t.vm ∧ XC E (A.U.calling g mk a) t ∧ t.heap[q]? = some ce ∧ ce.vm = .none ∧ A.U.vm.findClass E = some ce.cls ∧ B.locs = A.locs ++ L ∧ (∀ z ∈ L, free z.base) ∧ B.cells = A.cells + mc ∧ B.slots = A.slots + ms
def vx_Back (l : Launch) (R : Room) (p : Program) (e : Env) (below : List Frame) (s : State) (sargs : Array Value) (y : MethodName) (len W9 : Nat)
    (Pre : Pt → Array Value → Prop) (Post : Pt → Array Value → Option Value → Pt → Prop) (PostX : Pt → Array Value → Addr → Pt → Prop) : Prop :=
  ∀ (m : MethodId) (meth : Method) (c : Code) (A : Pt) (g : JFrame) (ig : Instr) (mk : MethodId) (a : Array Value),
    Stand p l e R s m sargs below meth c A.U A.locs A.cells A.slots → g.method = m → g.locals.size = c.maxLocals → decode c.code g.pc = .ok (ig, len) →
    2 * g.monitorRoom + (g.stack.map fun v => v.category).sum ≤ W9 → A.U.methodNamed? y = some mk → Pre A a →
    (∃ (v : Option Value) (B : Pt), Stand p l e R s m sargs below meth c B.U B.locs B.cells B.slots ∧ Post A a v B ∧
      Steps p.tables e below (doInvoke e (A.U.setTop g) [] mk a).1 (B.U.setTop { g with pc := g.pc + len, stack := v.toList ++ g.stack })) ∨
    (∃ (q : Addr) (B : Pt), Stand p l e R s m sargs below meth c B.U B.locs B.cells B.slots ∧ PostX A a q B ∧
      Steps p.tables e below (doInvoke e (A.U.setTop g) [] mk a).1 ((B.U.setTop g).pushFrame (.throwing q)))
section Payer
variable {l : Launch} {R : Room} {p : Program} {e : Env} {below : List Frame} {s : State} {sargs : Array Value} {y : MethodName} {len W9 : Nat}
theorem vx_back {ws : List Cond} {rm : Room} {Pc : Array Value → State → Prop} {Qc : Array Value → State → Outcome → State → Prop} {XC : String → State → State → Prop} {mc ms : Nat} {free : Addr → Prop} {bytes : ByteArray} {maxL : Nat} {ret : Option FieldType}
    (hM : vx_Met l y ws rm Pc Qc XC mc ms free) (hblind : FrameBlind Pc) (hrc : rm.cells = mc) (hrs : rm.slots = ms)
    (hframes : rm.frames + 1 ≤ R.frames) (hlocals : W9 + (maxL + 11) + rm.locals ≤ R.locals)
    (hws : ∀ w ∈ ws, ∀ a' U, s.WarmedH U.vm → w.before a' U = true) (hcode : Cond.code y bytes maxL ret ∈ ws) (hinit : ∀ a' U, s.WarmedH U.vm → (Cond.initialized y.cls).before a' U = true) :
    vx_Back l R p e below s sargs y len W9 (PreOf R mc ms Pc) (PostOf Qc mc ms free) (vx_Post XC mc ms free) := by
  intro m meth c A g ig mk a X hg hsize hdg hW hn hp
  have h1 : (headSpec ws rm).pre.before a A.U = true := atoms_intro fun w hw => hws w hw _ _ X.warmed
  have h2 : (Cond.code y bytes maxL ret).before a A.U = true := hws _ hcode _ _ X.warmed
  have h3 : (Cond.initialized y.cls).before a A.U = true := hinit _ _ X.warmed
  have h4 : A.cells + (headSpec ws rm).room.cells ≤ R.cells := by rw [show (headSpec ws rm).room.cells = mc from hrc]; exact hp.1
  have h5 : A.slots + (headSpec ws rm).room.slots ≤ R.slots := by rw [show (headSpec ws rm).room.slots = ms from hrs]; exact hp.2.1
  have hPc : Pc a (A.U.calling g mk a) := hblind _ _ _ _ hp.2.2
  obtain ⟨U, Ls, c0, s0⟩ := A
  dsimp only [Pt.U, Pt.locs, Pt.cells, Pt.slots] at h1 h2 h3 h4 h5 X hn hPc ⊢
  obtain ⟨methY, cY, hmY, hcY, -, hlY, -, -, -, -⟩ := Cond.code_spec hn h2
  obtain ⟨kY, hkY, -⟩ := className_of_methodNamed hn
  have hinitY : kY.init = .initialized := Cond.initialized_spec (findClass_of_methodNamed hn) hkY h3
  have h : At U g.method c below := by rw [hg]; exact X.here
  have hlocals9 : W9 + (maxL + 11) + (headSpec ws rm).room.locals ≤ R.locals := hlocals
  have happ : (headSpec ws rm).appliesLoose y e.platform (U.calling g mk a) = true :=
    Spec.appliesLoose_calling (g := g) h hdg hn hkY hinitY
      (X.room_calling (g := g) (R' := (headSpec ws rm).room) hsize hmY hcY hframes (by rw [hlY]; omega) h4 h5) h1
  obtain ⟨mid, hmid⟩ := h.above
  have hfr : (U.setTop g).frames = (.java g :: mid) ++ below := by rw [State.frames_setTop' g h.top, hmid]; rfl
  obtain ⟨o, s₂, hsteps, -, hend, hq⟩ := Steps.callFree hM p X.admits X.cas X.clock (acts := []) hfr happ hPc trivial
  have hq' : vx_Q Qc XC mc ms free a (U.calling g mk a) o s₂ := hq
  rw [State.frames_setTop' g h.top] at hend
  obtain ⟨g₀, hg0⟩ := Option.isSome_iff_exists.mp h.top
  obtain ⟨r, hr⟩ := State.topJava?_eq_some.mp hg0
  have hr' : (({ U with heap := s₂.heap, slotsUsed := s₂.slotsUsed } : State).setVm s₂.vm).frames = .java g₀ :: r := hr
  rcases hq' with ⟨hqc, L, hfe, hL⟩ | ⟨q, rfl, E, ce, L, hx, hce, hcv, hcl, hW₂, hsm, hL⟩
  · obtain ⟨⟨v, rfl⟩, hW₂, e2, q2, q3, q4, q5, q6⟩ := id hfe
    have e3 : s₂ = ({ (U.calling g mk a).setFrames s₂.frames with heap := s₂.heap, slotsUsed := s₂.slotsUsed } : State).setVm s₂.vm := by
      have : s₂ = ({ s₂ with vm := (U.calling g mk a).vm } : State).setVm s₂.vm := rfl
      rw [e2] at this
      exact this
    obtain ⟨c₂, i₂, len₂, hc₂, hd₂, hf₂⟩ := hend
    have hW' : U.WarmedH s₂.vm := hW₂
    have hcc : c₂ = c := by
      have h1 : s₂.code? g.method = U.code? g.method := by
        rw [State.code?_eq, State.code?_eq, hW'.alike.method?]
      exact Option.some.inj (hc₂.symm.trans (h1.trans h.code))
    subst hcc
    have hlen : len₂ = len := by rw [hdg] at hd₂; cases hd₂; rfl
    subst hlen
    have hs₂ : s₂ = (({ U with heap := s₂.heap, slotsUsed := s₂.slotsUsed } : State).setVm s₂.vm).setTop { g with pc := g.pc + len₂, stack := v.toList ++ g.stack } := by
      refine e3.trans ?_
      rw [hf₂, State.calling_eq h.top, State.setFrames_setFrames, State.setTop_of_frames _ hr', hr]
      rfl
    have hsame : U.sameButNew ({ U with heap := s₂.heap, slotsUsed := s₂.slotsUsed } : State) L mc ms := by
      refine ⟨?_, q2, q3, q4, q5, q6⟩
      obtain ⟨t, ht, -⟩ := State.frames_cons hr
      show ({ U with heap := s₂.heap, slotsUsed := s₂.slotsUsed } : State) = { U.setFrames U.frames with heap := s₂.heap, slotsUsed := s₂.slotsUsed }
      rw [State.setFrames_self ht]
    subst hg
    refine Or.inl ⟨v, ⟨(({ U with heap := s₂.heap, slotsUsed := s₂.slotsUsed } : State).setVm s₂.vm), Ls ++ L, c0 + mc, s0 + ms⟩,
      ⟨X.admits, X.cas, X.clock, X.frames, X.room, X.hears, X.method, X.code, (X.here.setHeapUsed s₂.heap s₂.slotsUsed).setVm hW'.alike, X.tail, State.WarmedH.trans X.warmed hW', X.limits, X.bytes, X.same.trans (hsame.setVm s.vm)⟩,
      ⟨g, mk, s₂, L, rfl, rfl, hqc, rfl, hL, rfl, rfl⟩, ?_⟩
    show Steps p.tables e below _ ((({ U with heap := s₂.heap, slotsUsed := s₂.slotsUsed } : State).setVm s₂.vm).setTop { g with pc := g.pc + len₂, stack := v.toList ++ g.stack })
    rw [← hs₂]
    exact hsteps
  · obtain ⟨e2, q2, q3, q4, q5, q6⟩ := id hsm
    have e3 : s₂ = ({ (U.calling g mk a).setFrames s₂.frames with heap := s₂.heap, slotsUsed := s₂.slotsUsed } : State).setVm s₂.vm := by
      have : s₂ = ({ s₂ with vm := (U.calling g mk a).vm } : State).setVm s₂.vm := rfl
      rw [e2] at this
      exact this
    have hf₂ : s₂.frames = .throwing q :: .java g :: U.frames.tail := hend
    have hW' : U.WarmedH s₂.vm := hW₂
    have hs₂ : s₂ = ((({ U with heap := s₂.heap, slotsUsed := s₂.slotsUsed } : State).setVm s₂.vm).setTop g).pushFrame (.throwing q) := by
      refine e3.trans ?_
      rw [hf₂, State.calling_eq h.top, State.setFrames_setFrames, State.pushFrame, State.frames_setTop _ hr', State.setTop_of_frames _ hr', State.setFrames_setFrames, hr]
      rfl
    have hsame : U.sameButNew ({ U with heap := s₂.heap, slotsUsed := s₂.slotsUsed } : State) L mc ms := by
      refine ⟨?_, q2, q3, q4, q5, q6⟩
      obtain ⟨t, ht, -⟩ := State.frames_cons hr
      show ({ U with heap := s₂.heap, slotsUsed := s₂.slotsUsed } : State) = { U.setFrames U.frames with heap := s₂.heap, slotsUsed := s₂.slotsUsed }
      rw [State.setFrames_self ht]
    subst hg
    refine Or.inr ⟨q, ⟨(({ U with heap := s₂.heap, slotsUsed := s₂.slotsUsed } : State).setVm s₂.vm), Ls ++ L, c0 + mc, s0 + ms⟩,
      ⟨X.admits, X.cas, X.clock, X.frames, X.room, X.hears, X.method, X.code, (X.here.setHeapUsed s₂.heap s₂.slotsUsed).setVm hW'.alike, X.tail, State.WarmedH.trans X.warmed hW', X.limits, X.bytes, X.same.trans (hsame.setVm s.vm)⟩,
      ⟨g, mk, s₂, L, E, ce, rfl, rfl, hx, hce, hcv, hcl, rfl, hL, rfl, rfl⟩, ?_⟩
    show Steps p.tables e below _ (((({ U with heap := s₂.heap, slotsUsed := s₂.slotsUsed } : State).setVm s₂.vm).setTop g).pushFrame (.throwing q))
    rw [← hs₂]
    exact hsteps
end Payer
section Calls
variable {p : Program} {l : Launch} {e : Env} {R : Room} {s : State} {m : MethodId} {args : Array Value} {below : List Frame} {meth : Method} {c : Code} {T : State} {locs : List Loc} {cells slots : Nat}
theorem vx_callV (X : Stand p l e R s m args below meth c T locs cells slots) (hexec : p.tables.exec = Jvm.exec) {own C : String} {index : Nat} {y : MethodName} {bytes : ByteArray} {maxL : Nat} {ret : Option FieldType}
    (hown : s.vm.findClass own = some m.cls) (hlink : (Cond.methodLink own index y).before args s = true) (hinst : (Cond.instanceMethod y).before args s = true) (hsel : (Cond.selects C y y).before args s = true)
    (hcode : (Cond.code y bytes maxL ret).before args s = true) (hy : y.cls ≠ "java/lang/invoke/MethodHandle" ∧ y.cls ≠ "java/lang/invoke/VarHandle")
    {W9 : Nat} {Pre : Pt → Array Value → Prop} {Post : Pt → Array Value → Option Value → Pt → Prop} {PostX : Pt → Array Value → Addr → Pt → Prop} (hK : vx_Back l R p e below s args y 3 W9 Pre Post PostX)
    {b : Addr} {cellB : Cell} (hcell : T.heap[b]? = some cellB) (hobj : cellB.vm.isStatics = false) (hcls : s.vm.findClass C = some cellB.cls)
    {g : JFrame} (hg : g.method = m) (hsize : g.locals.size = c.maxLocals) {argsL rest : List Value} (hlen : ∀ sig, parseMethodDescriptor y.desc = some sig → argsL.length = sig.parameters.length)
    (hstack : g.stack = argsL.reverse ++ .ref b :: rest) (hW : 2 * g.monitorRoom + (rest.map fun v => v.category).sum ≤ W9) (hdg : decode c.code g.pc = .ok (.invokevirtual index, 3))
    (hpre : ∀ vm₁, s.WarmedH vm₁ → Pre ⟨T.setVm vm₁, locs, cells, slots⟩ (Value.ref b :: argsL).toArray) :
    (∃ (v : Option Value) (vm₁ : Vm) (B : Pt), s.WarmedH vm₁ ∧ Stand p l e R s m args below meth c B.U B.locs B.cells B.slots ∧ Post ⟨T.setVm vm₁, locs, cells, slots⟩ (Value.ref b :: argsL).toArray v B ∧
      ∀ target, Steps p.tables e below (B.U.setTop { g with pc := g.pc + 3, stack := v.toList ++ rest }) target → Steps p.tables e below (T.setTop g) target) ∨
    (∃ (q : Addr) (vm₁ : Vm) (B : Pt), s.WarmedH vm₁ ∧ Stand p l e R s m args below meth c B.U B.locs B.cells B.slots ∧ PostX ⟨T.setVm vm₁, locs, cells, slots⟩ (Value.ref b :: argsL).toArray q B ∧
      Steps p.tables e below (T.setTop g) ((B.U.setTop { g with stack := rest }).pushFrame (.throwing q))) := by
  obtain ⟨mk, methM, hnamed, hmethM, hstM, habM⟩ := Cond.instanceMethod_spec hinst
  obtain ⟨methM', cM, hmethM', -, -, -, -, -, -, hsigM⟩ := Cond.code_spec hnamed hcode
  cases hmethM.symm.trans hmethM'
  obtain ⟨c2, r2, m2, q1, q2, q3, q4, kP, hkP, hkPi⟩ := Cond.selects_spec hsel
  cases hcls.symm.trans q1
  cases (State.methodFound?_of_named hnamed hy).symm.trans q2
  cases hnamed.symm.trans q3
  have hselP : selectMethod e.platform s.vm cellB.cls mk = .method mk := by rw [Launch.admits_selectMethod X.admits]; exact q4
  obtain ⟨vm₁, X₁, hstep₁⟩ := X.invokevirtual hexec hown hlink hnamed hmethM hstM hkP hkPi hy (a := b) (cell := cellB) hcell
    (fun z h => by rw [h] at hobj; cases hobj) hselP hmethM habM hkP hkPi (g := g) hg (argsL := argsL) (rest := rest) (hlen _ hsigM) hstack hdg
  rcases hK m meth c ⟨T.setVm vm₁, locs, cells, slots⟩ { g with stack := rest } (.invokevirtual index) mk (Value.ref b :: argsL).toArray X₁ hg hsize hdg hW (X₁.named hnamed) (hpre vm₁ X₁.warmed) with ⟨v, B, X', hpost, hsteps⟩ | ⟨q, B, X', hpost, hsteps⟩
  · exact Or.inl ⟨v, vm₁, B, X₁.warmed, X', hpost, fun target h => hstep₁ _ fun acts => by rw [doInvoke_state]; exact hsteps.trans h⟩
  · exact Or.inr ⟨q, vm₁, B, X₁.warmed, X', hpost, hstep₁ _ fun acts => by rw [doInvoke_state]; exact hsteps⟩
theorem vx_callS (X : Stand p l e R s m args below meth c T locs cells slots) (hexec : p.tables.exec = Jvm.exec) {own : String} {index : Nat} {y : MethodName} {bytes : ByteArray} {maxL : Nat} {ret : Option FieldType}
    (hown : s.vm.findClass own = some m.cls) (hlink : (Cond.methodLink own index y).before args s = true) (hstat : (Cond.static y).before args s = true) (hinit : (Cond.initialized y.cls).before args s = true)
    (hcode : (Cond.code y bytes maxL ret).before args s = true) (hy : y.cls ≠ "java/lang/invoke/MethodHandle" ∧ y.cls ≠ "java/lang/invoke/VarHandle")
    {W9 : Nat} {Pre : Pt → Array Value → Prop} {Post : Pt → Array Value → Option Value → Pt → Prop} {PostX : Pt → Array Value → Addr → Pt → Prop} (hK : vx_Back l R p e below s args y 3 W9 Pre Post PostX)
    {g : JFrame} (hg : g.method = m) (hsize : g.locals.size = c.maxLocals) {argsL rest : List Value} (hlen : ∀ sig, parseMethodDescriptor y.desc = some sig → argsL.length = sig.parameters.length)
    (hstack : g.stack = argsL.reverse ++ rest) (hW : 2 * g.monitorRoom + (rest.map fun v => v.category).sum ≤ W9) (hdg : decode c.code g.pc = .ok (.invokestatic index, 3))
    (hpre : ∀ vm₁, s.WarmedH vm₁ → Pre ⟨T.setVm vm₁, locs, cells, slots⟩ argsL.toArray) :
    (∃ (v : Option Value) (vm₁ : Vm) (B : Pt), s.WarmedH vm₁ ∧ Stand p l e R s m args below meth c B.U B.locs B.cells B.slots ∧ Post ⟨T.setVm vm₁, locs, cells, slots⟩ argsL.toArray v B ∧
      ∀ target, Steps p.tables e below (B.U.setTop { g with pc := g.pc + 3, stack := v.toList ++ rest }) target → Steps p.tables e below (T.setTop g) target) ∨
    (∃ (q : Addr) (vm₁ : Vm) (B : Pt), s.WarmedH vm₁ ∧ Stand p l e R s m args below meth c B.U B.locs B.cells B.slots ∧ PostX ⟨T.setVm vm₁, locs, cells, slots⟩ argsL.toArray q B ∧
      Steps p.tables e below (T.setTop g) ((B.U.setTop { g with stack := rest }).pushFrame (.throwing q))) := by
  obtain ⟨mk, hnamed⟩ := Cond.code_named hcode
  obtain ⟨methM, cM, hmethM, -, -, -, -, -, -, hsigM⟩ := Cond.code_spec hnamed hcode
  have hstatic : methM.isStatic = true := Cond.static_spec hnamed hmethM hstat
  obtain ⟨kP, hkP, -⟩ := className_of_methodNamed hnamed
  have hinitP : kP.init = .initialized := Cond.initialized_spec (findClass_of_methodNamed hnamed) hkP hinit
  obtain ⟨vm₁, X₁, hstep₁⟩ := X.invokestatic hexec hown hlink hnamed hmethM hstatic hkP hinitP hy (g := g) hg (argsL := argsL) (rest := rest) (hlen _ hsigM) hstack hdg
  rcases hK m meth c ⟨T.setVm vm₁, locs, cells, slots⟩ { g with stack := rest } (.invokestatic index) mk argsL.toArray X₁ hg hsize hdg hW (X₁.named hnamed) (hpre vm₁ X₁.warmed) with ⟨v, B, X', hpost, hsteps⟩ | ⟨q, B, X', hpost, hsteps⟩
  · exact Or.inl ⟨v, vm₁, B, X₁.warmed, X', hpost, fun target h => hstep₁ _ fun acts => by rw [doInvoke_state]; exact hsteps.trans h⟩
  · exact Or.inr ⟨q, vm₁, B, X₁.warmed, X', hpost, hstep₁ _ fun acts => by rw [doInvoke_state]; exact hsteps⟩
end Calls
theorem vx_cls {s : State} {T : State} {vm₁ : Vm} {E : String} {k : ClassId} (hW : s.WarmedH vm₁) (h : (T.setVm vm₁).vm.findClass E = some k) : s.vm.findClass E = some k := by
  have h1 : vm₁.findClass E = some k := h
  rw [hW.alike.findClass] at h1
  exact h1
/-- the method's frame g, with q thrown over it -/
def vx_W (p : Program) (l : Launch) (e : Env) (R : Room) (s : State) (m : MethodId) (args : Array Value) (below : List Frame) (meth : Method) (c : Code) (H : Heap) (locs : List Loc) (cells slots : Nat) (Q : State → Prop) (g : JFrame) (q : Addr) : Prop :=
  ∀ T : State, T.heap = H → Stand p l e R s m args below meth c T locs cells slots → ∃ t, Steps p.tables e below ((T.setTop g).pushFrame (.throwing q)) t ∧ Q t
def vx_Run (p : Program) (l : Launch) (e : Env) (R : Room) (s : State) (m : MethodId) (args : Array Value) (below : List Frame) (meth : Method) (c : Code) (H : Heap) (locs : List Loc) (cells slots mc ms : Nat) (g : JFrame) (rest : List Value) (Qa : State → Outcome → State → Prop) (XC : String → State → State → Prop) (free : Addr → Prop) : Prop :=
  ∀ T : State, T.heap = H → Stand p l e R s m args below meth c T locs cells slots →
    (∃ (v : Option Value) (st₀ t T' : State) (L : List Loc), st₀.heap = H ∧ Stand p l e R s m args below meth c T' (locs ++ L) (cells + mc) (slots + ms) ∧ (∀ q ∈ L, free q.base) ∧ T'.heap = t.heap ∧ T'.vm = t.vm ∧ Qa st₀ (.returned v) t ∧
      Goes p e below T g T' { g with pc := g.pc + 3, stack := v.toList ++ rest }) ∨
    (∃ (q : Addr) (st₀ t T' : State) (L : List Loc) (E : String) (ce : Cell), st₀.heap = H ∧ Stand p l e R s m args below meth c T' (locs ++ L) (cells + mc) (slots + ms) ∧ (∀ z ∈ L, free z.base) ∧ T'.heap = t.heap ∧ T'.vm = t.vm ∧ XC E st₀ t ∧ t.heap[q]? = some ce ∧ ce.vm = .none ∧ s.vm.findClass E = some ce.cls ∧
      Steps p.tables e below (T.setTop g) ((T'.setTop { g with stack := rest }).pushFrame (.throwing q)))
def vx_X {S : Type} (px : S → Prop) (B : String → S → State → Prop) (A : Nat → Prop) : String → State → State → Prop := fun E st t => ∃ u : S, px u ∧ B E u t ∧ va_F A st t
section Runs
variable {p : Program} {l : Launch} {e : Env} {R : Room} {s : State} {m : MethodId} {args : Array Value} {below : List Frame} {meth : Method} {c : Code} {H : Heap} {locs : List Loc} {cells slots : Nat}
variable {y : MethodName} {bytes cc : ByteArray} {maxL nL mc ms n index : Nat} {ret : Option FieldType} {ws : List Cond} {rm : Room} {Pc : Array Value → State → Prop} {Qc : Array Value → State → Outcome → State → Prop} {XC : String → State → State → Prop} {free : Addr → Prop} {Ts : List Cond} {own C : String} {b : Addr} {As rest : List Value} {g : JFrame}
theorem vx_callBack (cb : CallB R s args own index y bytes maxL ret ws rm mc ms n) (hM : vx_Met l y ws rm Pc Qc XC mc ms free) (hbl : FrameBlind Pc) : vx_Back l R p e below s args y 3 8 (PreOf R mc ms Pc) (PostOf Qc mc ms free) (vx_Post XC mc ms free) := by
  obtain ⟨hrc, hrs, hfr, hlo, hws, hcw, -, hini, -⟩ := cb
  exact vx_back (bytes := bytes) (maxL := maxL) (ret := ret) hM hbl hrc hrs hfr hlo hws hcw (fun a' U hW => word_at hW (Or.inl (by first | rfl | simp [Cond.onTables, Cond.keeps, Cond.steady])) hini)
theorem vx_runV (S : CallFix p m c cc nL s args Ts own) (hM : vx_Met l y ws rm Pc Qc XC mc ms free) (cw : CallW R s args own C index y bytes maxL ret ws rm mc ms n) (hp : PreV s H C b Pc As)
    (hg : g.method = m) (hn : As.length = n) (hsize : g.locals.size = nL) (hstack : g.stack = As.reverse ++ .ref b :: rest) (hW : 2 * g.monitorRoom + (rest.map fun v => v.category).sum ≤ 8) (hdg : decode cc g.pc = .ok (.invokevirtual index, 3)) (hf : cells + mc ≤ R.cells ∧ slots + ms ≤ R.slots) :
    vx_Run p l e R s m args below meth c H locs cells slots mc ms g rest (Qc (Value.ref b :: As).toArray) XC free := by
  have hK : vx_Back l R p e below s args y 3 8 (PreOf R mc ms Pc) (PostOf Qc mc ms free) (vx_Post XC mc ms free) := vx_callBack cw.1 hM hp.1
  obtain ⟨⟨-, -, -, -, -, -, hcode, -, hy, hlen, hl⟩, hin, hse⟩ := cw
  obtain ⟨hx, hb, hml, ho, -⟩ := S
  obtain ⟨-, ⟨cellB, hcB, hoB, hclB⟩, hPc⟩ := hp
  intro T hT X
  rcases vx_callV X hx (C := C) (bytes := bytes) (maxL := maxL) (ret := ret) ho hl hin hse hcode hy hK (by rw [hT]; exact hcB) hoB hclB hg (hsize.trans hml.symm) (argsL := As) (rest := rest) (fun sig h => hn.trans (hlen sig h)) hstack hW (by rw [hb]; exact hdg)
    (fun vm₁ hW₁ => ⟨hf.1, hf.2, hPc (T.setVm vm₁) hT hW₁⟩) with ⟨v, vm₁, ⟨U', l2, c2, s2⟩, hW₁, X', ⟨g', mk, t, L, e1, e2, hq, h1, hL, h2, h3⟩, st⟩ | ⟨q, vm₁, ⟨U', l2, c2, s2⟩, hW₁, X', ⟨g', mk, t, L, E, ce, e1, e2, hq, hce, hcv, hcl, h1, hL, h2, h3⟩, st⟩
  · dsimp only [Pt.U, Pt.locs, Pt.cells, Pt.slots] at X' e1 e2 h1 h2 h3 st
    subst h1; subst h2; subst h3
    exact Or.inl ⟨v, (T.setVm vm₁).calling g' mk (Value.ref b :: As).toArray, t, U', L, hT, X', hL, e1, e2, hq, st⟩
  · dsimp only [Pt.U, Pt.locs, Pt.cells, Pt.slots] at X' e1 e2 h1 h2 h3 st hcl
    subst h1; subst h2; subst h3
    exact Or.inr ⟨q, (T.setVm vm₁).calling g' mk (Value.ref b :: As).toArray, t, U', L, E, ce, hT, X', hL, e1, e2, hq, hce, hcv, vx_cls hW₁ hcl, st⟩
theorem vx_runS (S : CallFix p m c cc nL s args Ts own) (hM : vx_Met l y ws rm Pc Qc XC mc ms free) (cw : CallB R s args own index y bytes maxL ret ws rm mc ms n ∧ (Cond.static y).before args s = true) (hp : PreS s H Pc As)
    (hg : g.method = m) (hn : As.length = n) (hsize : g.locals.size = nL) (hstack : g.stack = As.reverse ++ rest) (hW : 2 * g.monitorRoom + (rest.map fun v => v.category).sum ≤ 8) (hdg : decode cc g.pc = .ok (.invokestatic index, 3)) (hf : cells + mc ≤ R.cells ∧ slots + ms ≤ R.slots) :
    vx_Run p l e R s m args below meth c H locs cells slots mc ms g rest (Qc As.toArray) XC free := by
  have hK : vx_Back l R p e below s args y 3 8 (PreOf R mc ms Pc) (PostOf Qc mc ms free) (vx_Post XC mc ms free) := vx_callBack cw.1 hM hp.1
  obtain ⟨⟨-, -, -, -, -, -, hcode, hini, hy, hlen, hl⟩, hstt⟩ := cw
  obtain ⟨hx, hb, hml, ho, -⟩ := S
  intro T hT X
  rcases vx_callS X hx (bytes := bytes) (maxL := maxL) (ret := ret) ho hl hstt hini hcode hy hK hg (hsize.trans hml.symm) (argsL := As) (rest := rest) (fun sig h => hn.trans (hlen sig h)) hstack hW (by rw [hb]; exact hdg)
    (fun vm₁ hW₁ => ⟨hf.1, hf.2, hp.2 (T.setVm vm₁) hT hW₁⟩) with ⟨v, vm₁, ⟨U', l2, c2, s2⟩, hW₁, X', ⟨g', mk, t, L, e1, e2, hq, h1, hL, h2, h3⟩, st⟩ | ⟨q, vm₁, ⟨U', l2, c2, s2⟩, hW₁, X', ⟨g', mk, t, L, E, ce, e1, e2, hq, hce, hcv, hcl, h1, hL, h2, h3⟩, st⟩
  · dsimp only [Pt.U, Pt.locs, Pt.cells, Pt.slots] at X' e1 e2 h1 h2 h3 st
    subst h1; subst h2; subst h3
    exact Or.inl ⟨v, (T.setVm vm₁).calling g' mk As.toArray, t, U', L, hT, X', hL, e1, e2, hq, st⟩
  · dsimp only [Pt.U, Pt.locs, Pt.cells, Pt.slots] at X' e1 e2 h1 h2 h3 st hcl
    subst h1; subst h2; subst h3
    exact Or.inr ⟨q, (T.setVm vm₁).calling g' mk As.toArray, t, U', L, E, ce, hT, X', hL, e1, e2, hq, hce, hcv, vx_cls hW₁ hcl, st⟩
end Runs
section Rows
variable {p : Program} {l : Launch} {e : Env} {R : Room} {s : State} {m : MethodId} {args : Array Value} {below : List Frame} {meth : Method} {c : Code} {H : Heap} {locs : List Loc} {cells slots : Nat} {Q : State → Prop}
variable {mc ms : Nat} {free : Addr → Prop} {A0 A1 : Nat → Prop} {H0 : Heap} {a : Array Value} {pc : Nat} {ls : Array Slot} {st0 rest : List Value}
theorem vx_keep {st₀ t T' : State} {L : List Loc} (h0 : st₀.heap = H) (e1 : T'.heap = t.heap) (hS : va_S A0 H0 H locs) (hA : ∀ q, q < H.size → A1 q → A0 q) (hf : ∀ q, free q → A0 q) (hL : ∀ q ∈ L, free q.base) (hF : va_F A1 st₀ t) :
    H.size ≤ T'.heap.size ∧ (∀ q : Nat, q < H.size → ¬ A1 q → T'.heap[q]? = H[q]?) ∧ va_S A0 H0 T'.heap (locs ++ L) := by
  obtain ⟨hz, hk⟩ := hF
  rw [h0] at hz hk
  exact ⟨by rw [e1]; exact hz, fun q h1 h2 => by rw [e1]; exact hk q h1 h2,
    ⟨Nat.le_trans hS.1 (by rw [e1]; exact hz), fun q h1 h2 => by rw [e1, hk q (Nat.lt_of_lt_of_le h1 hS.1) (fun z => h2 (hA q (Nat.lt_of_lt_of_le h1 hS.1) z))]; exact hS.2.1 q h1 h2, fun q hq => by
      rcases List.mem_append.mp hq with h | h
      · exact hS.2.2 q h
      · exact hf _ (hL q h)⟩⟩
theorem vx_calli {S SX : Type} {post : Int32 → S → Prop} {px : SX → Prop} {B : S → State → Prop} {BX : String → SX → State → Prop} {AX : Nat → Prop} (hr : vx_Run p l e R s m args below meth c H locs cells slots mc ms (F0 m pc ls st0) rest (va_Qi post B A1 a) (vx_X px BX AX) free) (hS : va_S A0 H0 H locs) (hA : ∀ q, q < H.size → A1 q → A0 q) (hf : ∀ q, free q → A0 q) (hAX : ∀ q, q < H.size → AX q → A0 q)
    (kx : ∀ (E : String) (ce : Cell) (q9 : Addr) (u : SX) (t : State) (H1 : Heap) (locs1 : List Loc), t.heap = H1 → s.vm.Alike t.vm → px u → BX E u t → H.size ≤ H1.size → (∀ q : Nat, q < H.size → ¬ AX q → H1[q]? = H[q]?) → va_S A0 H0 H1 locs1 → H1[q9]? = some ce → ce.vm = .none → s.vm.findClass E = some ce.cls → vx_W p l e R s m args below meth c H1 locs1 (cells + mc) (slots + ms) Q (F0 m pc ls rest) q9)
    (kk : ∀ (r : Int32) (u : S) (t : State) (H1 : Heap) (locs1 : List Loc), t.heap = H1 → s.vm.Alike t.vm → post r u → B u t → H.size ≤ H1.size → (∀ q : Nat, q < H.size → ¬ A1 q → H1[q]? = H[q]?) → va_S A0 H0 H1 locs1 → W p l e R s m args below meth c H1 locs1 (cells + mc) (slots + ms) Q (F0 m (pc + 3) ls (.int r :: rest))) : W p l e R s m args below meth c H locs cells slots Q (F0 m pc ls st0) := by
  intro T hT X
  rcases hr T hT X with ⟨v, st₀, t, T', L, h0, X', hL, e1, e2, ⟨⟨r, u, hv, hp, hb⟩, hF⟩, st⟩ | ⟨q, st₀, t, T', L, E, ce, h0, X', hL, e1, e2, ⟨u, hp, hb, hF⟩, hce, hcv, hcl, st⟩
  · cases hv
    obtain ⟨k1, k2, k3⟩ := vx_keep h0 e1 hS hA hf hL hF
    obtain ⟨t2, a1, b1⟩ := kk r u t T'.heap (locs ++ L) e1.symm (by rw [← e2]; exact X'.warmed.alike) hp hb k1 k2 k3 T' rfl X'
    exact ⟨t2, st t2 a1, b1⟩
  · obtain ⟨k1, k2, k3⟩ := vx_keep h0 e1 hS hAX hf hL hF
    obtain ⟨t2, a1, b1⟩ := kx E ce q u t T'.heap (locs ++ L) e1.symm (by rw [← e2]; exact X'.warmed.alike) hp hb k1 k2 k3 (by rw [e1]; exact hce) hcv hcl T' rfl X'
    exact ⟨t2, st.trans a1, b1⟩
theorem vx_calll {S SX : Type} {post : Int64 → S → Prop} {px : SX → Prop} {B : S → State → Prop} {BX : String → SX → State → Prop} {AX : Nat → Prop} (hr : vx_Run p l e R s m args below meth c H locs cells slots mc ms (F0 m pc ls st0) rest (va_Ql post B A1 a) (vx_X px BX AX) free) (hS : va_S A0 H0 H locs) (hA : ∀ q, q < H.size → A1 q → A0 q) (hf : ∀ q, free q → A0 q) (hAX : ∀ q, q < H.size → AX q → A0 q)
    (kx : ∀ (E : String) (ce : Cell) (q9 : Addr) (u : SX) (t : State) (H1 : Heap) (locs1 : List Loc), t.heap = H1 → s.vm.Alike t.vm → px u → BX E u t → H.size ≤ H1.size → (∀ q : Nat, q < H.size → ¬ AX q → H1[q]? = H[q]?) → va_S A0 H0 H1 locs1 → H1[q9]? = some ce → ce.vm = .none → s.vm.findClass E = some ce.cls → vx_W p l e R s m args below meth c H1 locs1 (cells + mc) (slots + ms) Q (F0 m pc ls rest) q9)
    (kk : ∀ (r : Int64) (u : S) (t : State) (H1 : Heap) (locs1 : List Loc), t.heap = H1 → s.vm.Alike t.vm → post r u → B u t → H.size ≤ H1.size → (∀ q : Nat, q < H.size → ¬ A1 q → H1[q]? = H[q]?) → va_S A0 H0 H1 locs1 → W p l e R s m args below meth c H1 locs1 (cells + mc) (slots + ms) Q (F0 m (pc + 3) ls (.long r :: rest))) : W p l e R s m args below meth c H locs cells slots Q (F0 m pc ls st0) := by
  intro T hT X
  rcases hr T hT X with ⟨v, st₀, t, T', L, h0, X', hL, e1, e2, ⟨⟨r, u, hv, hp, hb⟩, hF⟩, st⟩ | ⟨q, st₀, t, T', L, E, ce, h0, X', hL, e1, e2, ⟨u, hp, hb, hF⟩, hce, hcv, hcl, st⟩
  · cases hv
    obtain ⟨k1, k2, k3⟩ := vx_keep h0 e1 hS hA hf hL hF
    obtain ⟨t2, a1, b1⟩ := kk r u t T'.heap (locs ++ L) e1.symm (by rw [← e2]; exact X'.warmed.alike) hp hb k1 k2 k3 T' rfl X'
    exact ⟨t2, st t2 a1, b1⟩
  · obtain ⟨k1, k2, k3⟩ := vx_keep h0 e1 hS hAX hf hL hF
    obtain ⟨t2, a1, b1⟩ := kx E ce q u t T'.heap (locs ++ L) e1.symm (by rw [← e2]; exact X'.warmed.alike) hp hb k1 k2 k3 (by rw [e1]; exact hce) hcv hcl T' rfl X'
    exact ⟨t2, st.trans a1, b1⟩
theorem vx_callf {S SX : Type} {post : UInt32 → S → Prop} {px : SX → Prop} {B : S → State → Prop} {BX : String → SX → State → Prop} {AX : Nat → Prop} (hr : vx_Run p l e R s m args below meth c H locs cells slots mc ms (F0 m pc ls st0) rest (va_Qf post B A1 a) (vx_X px BX AX) free) (hS : va_S A0 H0 H locs) (hA : ∀ q, q < H.size → A1 q → A0 q) (hf : ∀ q, free q → A0 q) (hAX : ∀ q, q < H.size → AX q → A0 q)
    (kx : ∀ (E : String) (ce : Cell) (q9 : Addr) (u : SX) (t : State) (H1 : Heap) (locs1 : List Loc), t.heap = H1 → s.vm.Alike t.vm → px u → BX E u t → H.size ≤ H1.size → (∀ q : Nat, q < H.size → ¬ AX q → H1[q]? = H[q]?) → va_S A0 H0 H1 locs1 → H1[q9]? = some ce → ce.vm = .none → s.vm.findClass E = some ce.cls → vx_W p l e R s m args below meth c H1 locs1 (cells + mc) (slots + ms) Q (F0 m pc ls rest) q9)
    (kk : ∀ (r : UInt32) (u : S) (t : State) (H1 : Heap) (locs1 : List Loc), t.heap = H1 → s.vm.Alike t.vm → post r u → B u t → H.size ≤ H1.size → (∀ q : Nat, q < H.size → ¬ A1 q → H1[q]? = H[q]?) → va_S A0 H0 H1 locs1 → W p l e R s m args below meth c H1 locs1 (cells + mc) (slots + ms) Q (F0 m (pc + 3) ls (.float r :: rest))) : W p l e R s m args below meth c H locs cells slots Q (F0 m pc ls st0) := by
  intro T hT X
  rcases hr T hT X with ⟨v, st₀, t, T', L, h0, X', hL, e1, e2, ⟨⟨r, u, hv, hp, hb⟩, hF⟩, st⟩ | ⟨q, st₀, t, T', L, E, ce, h0, X', hL, e1, e2, ⟨u, hp, hb, hF⟩, hce, hcv, hcl, st⟩
  · cases hv
    obtain ⟨k1, k2, k3⟩ := vx_keep h0 e1 hS hA hf hL hF
    obtain ⟨t2, a1, b1⟩ := kk r u t T'.heap (locs ++ L) e1.symm (by rw [← e2]; exact X'.warmed.alike) hp hb k1 k2 k3 T' rfl X'
    exact ⟨t2, st t2 a1, b1⟩
  · obtain ⟨k1, k2, k3⟩ := vx_keep h0 e1 hS hAX hf hL hF
    obtain ⟨t2, a1, b1⟩ := kx E ce q u t T'.heap (locs ++ L) e1.symm (by rw [← e2]; exact X'.warmed.alike) hp hb k1 k2 k3 (by rw [e1]; exact hce) hcv hcl T' rfl X'
    exact ⟨t2, st.trans a1, b1⟩
theorem vx_calld {S SX : Type} {post : UInt64 → S → Prop} {px : SX → Prop} {B : S → State → Prop} {BX : String → SX → State → Prop} {AX : Nat → Prop} (hr : vx_Run p l e R s m args below meth c H locs cells slots mc ms (F0 m pc ls st0) rest (va_Qd post B A1 a) (vx_X px BX AX) free) (hS : va_S A0 H0 H locs) (hA : ∀ q, q < H.size → A1 q → A0 q) (hf : ∀ q, free q → A0 q) (hAX : ∀ q, q < H.size → AX q → A0 q)
    (kx : ∀ (E : String) (ce : Cell) (q9 : Addr) (u : SX) (t : State) (H1 : Heap) (locs1 : List Loc), t.heap = H1 → s.vm.Alike t.vm → px u → BX E u t → H.size ≤ H1.size → (∀ q : Nat, q < H.size → ¬ AX q → H1[q]? = H[q]?) → va_S A0 H0 H1 locs1 → H1[q9]? = some ce → ce.vm = .none → s.vm.findClass E = some ce.cls → vx_W p l e R s m args below meth c H1 locs1 (cells + mc) (slots + ms) Q (F0 m pc ls rest) q9)
    (kk : ∀ (r : UInt64) (u : S) (t : State) (H1 : Heap) (locs1 : List Loc), t.heap = H1 → s.vm.Alike t.vm → post r u → B u t → H.size ≤ H1.size → (∀ q : Nat, q < H.size → ¬ A1 q → H1[q]? = H[q]?) → va_S A0 H0 H1 locs1 → W p l e R s m args below meth c H1 locs1 (cells + mc) (slots + ms) Q (F0 m (pc + 3) ls (.double r :: rest))) : W p l e R s m args below meth c H locs cells slots Q (F0 m pc ls st0) := by
  intro T hT X
  rcases hr T hT X with ⟨v, st₀, t, T', L, h0, X', hL, e1, e2, ⟨⟨r, u, hv, hp, hb⟩, hF⟩, st⟩ | ⟨q, st₀, t, T', L, E, ce, h0, X', hL, e1, e2, ⟨u, hp, hb, hF⟩, hce, hcv, hcl, st⟩
  · cases hv
    obtain ⟨k1, k2, k3⟩ := vx_keep h0 e1 hS hA hf hL hF
    obtain ⟨t2, a1, b1⟩ := kk r u t T'.heap (locs ++ L) e1.symm (by rw [← e2]; exact X'.warmed.alike) hp hb k1 k2 k3 T' rfl X'
    exact ⟨t2, st t2 a1, b1⟩
  · obtain ⟨k1, k2, k3⟩ := vx_keep h0 e1 hS hAX hf hL hF
    obtain ⟨t2, a1, b1⟩ := kx E ce q u t T'.heap (locs ++ L) e1.symm (by rw [← e2]; exact X'.warmed.alike) hp hb k1 k2 k3 (by rw [e1]; exact hce) hcv hcl T' rfl X'
    exact ⟨t2, st.trans a1, b1⟩
theorem vx_callv {S SX : Type} {post : S → Prop} {px : SX → Prop} {B : S → State → Prop} {BX : String → SX → State → Prop} {AX : Nat → Prop} (hr : vx_Run p l e R s m args below meth c H locs cells slots mc ms (F0 m pc ls st0) rest (va_Qv post B A1 a) (vx_X px BX AX) free) (hS : va_S A0 H0 H locs) (hA : ∀ q, q < H.size → A1 q → A0 q) (hf : ∀ q, free q → A0 q) (hAX : ∀ q, q < H.size → AX q → A0 q)
    (kx : ∀ (E : String) (ce : Cell) (q9 : Addr) (u : SX) (t : State) (H1 : Heap) (locs1 : List Loc), t.heap = H1 → s.vm.Alike t.vm → px u → BX E u t → H.size ≤ H1.size → (∀ q : Nat, q < H.size → ¬ AX q → H1[q]? = H[q]?) → va_S A0 H0 H1 locs1 → H1[q9]? = some ce → ce.vm = .none → s.vm.findClass E = some ce.cls → vx_W p l e R s m args below meth c H1 locs1 (cells + mc) (slots + ms) Q (F0 m pc ls rest) q9)
    (kk : ∀ (u : S) (t : State) (H1 : Heap) (locs1 : List Loc), t.heap = H1 → s.vm.Alike t.vm → post u → B u t → H.size ≤ H1.size → (∀ q : Nat, q < H.size → ¬ A1 q → H1[q]? = H[q]?) → va_S A0 H0 H1 locs1 → W p l e R s m args below meth c H1 locs1 (cells + mc) (slots + ms) Q (F0 m (pc + 3) ls (rest))) : W p l e R s m args below meth c H locs cells slots Q (F0 m pc ls st0) := by
  intro T hT X
  rcases hr T hT X with ⟨v, st₀, t, T', L, h0, X', hL, e1, e2, ⟨⟨u, hv, hp, hb⟩, hF⟩, st⟩ | ⟨q, st₀, t, T', L, E, ce, h0, X', hL, e1, e2, ⟨u, hp, hb, hF⟩, hce, hcv, hcl, st⟩
  · cases hv
    obtain ⟨k1, k2, k3⟩ := vx_keep h0 e1 hS hA hf hL hF
    obtain ⟨t2, a1, b1⟩ := kk u t T'.heap (locs ++ L) e1.symm (by rw [← e2]; exact X'.warmed.alike) hp hb k1 k2 k3 T' rfl X'
    exact ⟨t2, st t2 a1, b1⟩
  · obtain ⟨k1, k2, k3⟩ := vx_keep h0 e1 hS hAX hf hL hF
    obtain ⟨t2, a1, b1⟩ := kx E ce q u t T'.heap (locs ++ L) e1.symm (by rw [← e2]; exact X'.warmed.alike) hp hb k1 k2 k3 (by rw [e1]; exact hce) hcv hcl T' rfl X'
    exact ⟨t2, st.trans a1, b1⟩
/-- caught by the row x of this method's table; the rows ahead don't take it -/
theorem vx_catch {own name : String} {E : String} {ce : Cell} {q : Addr} (hown : s.vm.findClass own = some m.cls) (pre : List ExceptionTableEntry) (x : ExceptionTableEntry) (suf : List ExceptionTableEntry) (hsplit : c.exceptionTable.toList = pre ++ x :: suf)
    (hpass : ∀ z ∈ pre, covers z pc = false ∨ (z.catchType ≠ 0 ∧ ∃ nm : String, (Cond.classLink own z.catchType nm).before args s = true ∧ va_Nc E nm s)) (hx : covers x pc = true) (h0 : x.catchType ≠ 0)
    (hlink : (Cond.classLink own x.catchType name).before args s = true) (hcast : (Cond.castable E name).before args s = true) (hcell : H[q]? = some ce) (hv : ce.vm = .none) (hcl : s.vm.findClass E = some ce.cls)
    (kk : W p l e R s m args below meth c H locs cells slots Q (F0 m x.handlerPc ls [.ref q])) : vx_W p l e R s m args below meth c H locs cells slots Q (F0 m pc ls rest) q := by
  intro T hT X
  have hpl : e.platform.magicAccessors = ({} : Platform).magicAccessors := by rw [X.admits.platform]
  obtain ⟨c3, c4, hc3, hc4, hasg⟩ := Cond.castable_spec hcast
  cases Option.some.inj (hc3.symm.trans hcl)
  obtain ⟨c5, hc5, hcl5⟩ := Cond.classLink_spec hown hlink e.platform hpl
  cases Option.some.inj (hc4.symm.trans hc5)
  obtain ⟨vm', X', st⟩ := X.thenCaughtThrough q (g := F0 m pc ls rest) rfl (Steps.refl _) (by rw [hT]; exact hcell) (by rw [hv]; rfl) (by obtain ⟨k9, h9, -⟩ := Vm.findClass_spec hcl; exact ⟨k9, h9⟩) pre x suf hsplit
    (fun z hz => by
      rcases hpass z hz with h | ⟨hz0, nm, hl1, hn1⟩
      · exact Or.inl h
      · obtain ⟨c6, hc6, hcl6⟩ := Cond.classLink_spec hown hl1 e.platform hpl
        obtain ⟨a8, b8, h1, h2, h3⟩ := hn1
        cases Option.some.inj (h1.symm.trans hcl)
        cases Option.some.inj (h2.symm.trans hc6)
        exact Or.inr ⟨hz0, _, hcl6, h3⟩) hx (Or.inr ⟨h0, c4, hcl5, hasg⟩)
  obtain ⟨t, a1, b1⟩ := kk (T.setVm vm') hT X'
  exact ⟨t, st.trans a1, b1⟩
end Rows
section Ends
variable {p : Program} {l : Launch} {e : Env} {R : Room} {s : State} {m : MethodId} {args : Array Value} {below : List Frame} {meth : Method} {c : Code} {H : Heap} {locs : List Loc} {cells slots : Nat} {Q : State → Prop}
variable {mc ms : Nat} {free : Addr → Prop} {A0 A1 : Nat → Prop} {H0 : Heap} {a : Array Value} {ls : Array Slot} {st0 rest : List Value}
variable {Qc : Array Value → State → Outcome → State → Prop} {XC : String → State → State → Prop}
/-- what a body that may throw owes at its end -/
def vx_MQ (below : List Frame) (Qc : Array Value → State → Outcome → State → Prop) (XC : String → State → State → Prop) (a : Array Value) (s : State) (mc ms : Nat) (free : Addr → Prop) : State → Prop := fun t =>
  ∃ o, t.status = .running ∧ Ended t below o ∧ vx_Q Qc XC mc ms free a s o t
theorem vx_ret {g : JFrame} {mc ms : Nat} (k : W p l e R s m args below meth c H locs cells slots (MQ below Qc args s mc ms free) g) : W p l e R s m args below meth c H locs cells slots (vx_MQ below Qc XC args s mc ms free) g := by
  intro T hT X
  obtain ⟨t, a1, o, b1, b2, b3, b4⟩ := k T hT X
  exact ⟨t, a1, o, b1, b2, Or.inl ⟨b3, b4⟩⟩
/-- not caught here: it goes on to the caller -/
theorem vx_widen {g : JFrame} {q : Addr} {k n : Nat} (h1 : cells ≤ k) (h2 : slots ≤ n) (kk : vx_W p l e R s m args below meth c H locs k n Q g q) : vx_W p l e R s m args below meth c H locs cells slots Q g q := fun T hT X => kk T hT (stand_widen X h1 h2)
theorem vx_out {pc : Nat} {E : String} {ce : Cell} {q : Addr} {mc ms : Nat} (hout : ∀ x ∈ c.exceptionTable.toList, covers x pc = false) (hlocks : meth.locks = false) (hcell : H[q]? = some ce) (hv : ce.vm = .none) (hcl : s.vm.findClass E = some ce.cls)
    (hx : ∀ t : State, t.heap = H → s.vm.Alike t.vm → XC E s t) (hf : ∀ z ∈ locs, free z.base) (hc : cells ≤ mc) (hs : slots ≤ ms) :
    vx_W p l e R s m args below meth c H locs cells slots (vx_MQ below Qc XC args s mc ms free) (F0 m pc ls rest) q := by
  intro T hT X
  obtain ⟨st1, hrun, hend, hW, hsm⟩ := X.leaveThrown q (g := F0 m pc ls rest) rfl rfl rfl hout hlocks
  have hcell9 : (T.setFrames (.throwing q :: below)).heap[q]? = some ce := by
    show T.heap[q]? = some ce
    rw [hT]; exact hcell
  exact ⟨_, st1, .threw q, hrun, hend, Or.inr ⟨q, rfl, E, ce, locs, hx _ hT hW.alike, hcell9, hv, hcl, hW, hsm.mono hc hs, hf⟩⟩
theorem vx_frame {U : State} {k n : Nat} (h : s.sameButNew ({ U with vm := s.vm } : State) locs k n) : s.heap.size ≤ U.heap.size ∧ ∀ q : Nat, q < s.heap.size → (∀ z ∈ locs, z.base ≠ q) → U.heap[q]? = s.heap[q]? := by
  obtain ⟨-, h2, -, -, -, h6⟩ := h
  refine ⟨h2, fun q hq hz => ?_⟩
  obtain ⟨c9, e1, e2, e3, e4⟩ := h6 q _ (Array.getElem?_eq_getElem hq)
  have hs : c9.slots = (s.heap[q]).slots := Array.ext_getElem? fun i => e4 i fun hm => hz _ hm rfl
  have h9 : c9 = s.heap[q] := by
    rw [hs] at e2
    exact e2
  have e5 : U.heap[q]? = some c9 := e1
  rw [e5, h9, Array.getElem?_eq_getElem hq]
/-- the words of a throw but the four that speak of the heap -/
def vx_no (w : Cond) : Bool := decide (w ≠ .isRef (.static Bundle.tN "UNASSIGNED_STACK" Bundle.steD)) && decide (w ≠ .isRef (.static Bundle.tN "SUPPRESSED_SENTINEL" Bundle.listD)) && decide (w ≠ .laysStatic Bundle.tN "UNASSIGNED_STACK" Bundle.steD) && decide (w ≠ .laysStatic Bundle.tN "SUPPRESSED_SENTINEL" Bundle.listD)
def vx_at0 (own : String) (ic : Nat) (X : String) (names : List String) : List Cond := (Bundle.ownAtoms0 own ic X names).filter vx_no
def vx_atS (own : String) (ic : Nat) (X : String) (names : List String) : List Cond := (Bundle.ownAtoms own ic X names).filter vx_no
/-- a word that the tables alone decide, or a good one -/
def vx_ot (w : Cond) : Bool := w.onTables || goodWord w
theorem vx_ot_at {args a' : Array Value} {s U : State} {w : Cond} (hW : s.WarmedH U.vm) (hvm : s.vm = U.vm) (hg : vx_ot w = true) (h : w.before args s = true) : w.before a' U = true := by
  simp only [vx_ot, Bool.or_eq_true] at hg
  rcases hg with hg | hg
  · exact va_tabs hg hvm h
  · exact word_at hW (good_of_word hg) h
/-- a list's words: the good ones out of the method's own list, the others by premises of their own -/
theorem vx_hat {args : Array Value} {s : State} {L B : List Cond} (h1 : ∀ w ∈ L.filter goodWord, w.before args s = true) (h2 : ∀ w ∈ L.filter (fun w => !goodWord w), w ∈ B) (h3 : ∀ w ∈ B, w.before args s = true) : ∀ w ∈ L, w.before args s = true := by
  intro w hw
  by_cases g : goodWord w = true
  · exact h1 w (List.mem_filter.mpr ⟨hw, g⟩)
  · refine h3 w (h2 w (List.mem_filter.mpr ⟨hw, ?_⟩))
    show (!goodWord w) = true
    cases hgw : goodWord w
    · rfl
    · exact absurd hgw g
theorem vx_c {args : Array Value} {s : State} {w : Cond} {B : List Cond} (h : w.before args s = true) (t : ∀ w ∈ B, w.before args s = true) : ∀ w' ∈ w :: B, w'.before args s = true := fun w' h' => (List.mem_cons.mp h').elim (fun e => by rw [e]; exact h) (t w')
theorem vx_n {args : Array Value} {s : State} : ∀ w ∈ ([] : List Cond), w.before args s = true := fun _ h => nomatch h
theorem vx_own {args : Array Value} {s : State} {L : List Cond} (h1 : ∀ w ∈ L.filter vx_no, w.before args s = true)
    (hU : (Cond.isRef (.static Bundle.tN "UNASSIGNED_STACK" Bundle.steD)).before args s = true) (hN : (Cond.isRef (.static Bundle.tN "SUPPRESSED_SENTINEL" Bundle.listD)).before args s = true)
    (lU : (Cond.laysStatic Bundle.tN "UNASSIGNED_STACK" Bundle.steD).before args s = true) (lN : (Cond.laysStatic Bundle.tN "SUPPRESSED_SENTINEL" Bundle.listD).before args s = true) : ∀ w ∈ L, w.before args s = true := by
  intro w hw
  by_cases e1 : w = .isRef (.static Bundle.tN "UNASSIGNED_STACK" Bundle.steD)
  · rw [e1]; exact hU
  · by_cases e2 : w = .isRef (.static Bundle.tN "SUPPRESSED_SENTINEL" Bundle.listD)
    · rw [e2]; exact hN
    · by_cases e3 : w = .laysStatic Bundle.tN "UNASSIGNED_STACK" Bundle.steD
      · rw [e3]; exact lU
      · by_cases e4 : w = .laysStatic Bundle.tN "SUPPRESSED_SENTINEL" Bundle.listD
        · rw [e4]; exact lN
        · exact h1 w (List.mem_filter.mpr ⟨hw, by unfold vx_no; rw [decide_eq_true e1, decide_eq_true e2, decide_eq_true e3, decide_eq_true e4]; rfl⟩)
/-- where a static field lies, its class's statics cell in H -/
def vx_L (C n d : String) (A : Nat → Prop) (U : State) (H : Heap) : Prop := ∃ (c : ClassId) (k : Class) (i : Nat) (f : Field) (a : Nat) (cell : Cell), U.vm.findClass C = some c ∧ U.fieldFound? C n d = some (c, k, i, f) ∧ f.isStatic = true ∧ k.statics = some a ∧ H[a]? = some cell ∧ cell.vm.isStatics = true ∧ cell.cls = c ∧ f.slot < cell.slots.size ∧ k.staticTypes[f.slot]? = some f.type ∧ ¬ A a
theorem vx_L.moved {C n d : String} {A : Nat → Prop} {u U : State} {H : Heap} (hvm : u.vm.Alike U.vm) (h : vx_L C n d A u H) : vx_L C n d A U H := by
  obtain ⟨c, k, i, f, a, cell, h1, h2, h3, h4, h5, h6, h7, h8, h9, h10⟩ := h
  obtain ⟨k', hi', he⟩ := State.fieldFound?_setVm hvm h2
  exact ⟨c, k', i, f, a, cell, by rw [hvm.findClass]; exact h1, hi', h3, by rw [he]; exact h4, h5, h6, h7, h8, by rw [he]; exact h9, h10⟩
theorem vx_L.kept {C n d : String} {A : Nat → Prop} {U : State} {H H1 : Heap} (h : vx_L C n d A U H) (hq : ∀ a : Nat, a < H.size → ¬ A a → H1[a]? = H[a]?) : vx_L C n d A U H1 := by
  obtain ⟨c, k, i, f, a, cell, h1, h2, h3, h4, h5, h6, h7, h8, h9, h10⟩ := h
  exact ⟨c, k, i, f, a, cell, h1, h2, h3, h4, by rw [hq a (Array.getElem?_eq_some_iff.mp h5).1 h10]; exact h5, h6, h7, h8, h9, h10⟩
theorem vx_L.narrow {C n d : String} {A B : Nat → Prop} {U : State} {H : Heap} (h : vx_L C n d A U H) (hAB : ∀ q, B q → A q) : vx_L C n d B U H := by
  obtain ⟨c, k, i, f, a, cell, h1, h2, h3, h4, h5, h6, h7, h8, h9, h10⟩ := h
  exact ⟨c, k, i, f, a, cell, h1, h2, h3, h4, h5, h6, h7, h8, h9, fun z => h10 (hAB _ z)⟩
theorem vx_L.word {C n d : String} {A : Nat → Prop} {s : State} {args : Array Value} (h : vx_L C n d A s s.heap) : (Cond.laysStatic C n d).before args s = true := by
  obtain ⟨c, k, i, f, a, cell, h1, h2, h3, h4, h5, h6, h7, h8, h9, -⟩ := h
  show (Cond.laysStatic C n d).holds args s none s [] = true
  exact Cond.laysStatic_of h1 h2 h3 h4 h5 h6 h7 h8 h9
/-- .. and what it holds: null or some reference -/
def vx_Zq (C n d : String) (A : Nat → Prop) (U : State) (H : Heap) : Prop := va_Zq C n d A U H ∧ vx_L C n d A U H
theorem vx_Zq.moved {C n d : String} {A : Nat → Prop} {u U : State} {H : Heap} (hvm : u.vm.Alike U.vm) (h : vx_Zq C n d A u H) : vx_Zq C n d A U H := ⟨va_Zq.moved hvm h.1, vx_L.moved hvm h.2⟩
theorem vx_Zq.kept {C n d : String} {A : Nat → Prop} {U : State} {H H1 : Heap} (h : vx_Zq C n d A U H) (hq : ∀ a : Nat, a < H.size → ¬ A a → H1[a]? = H[a]?) : vx_Zq C n d A U H1 := ⟨va_Zq.kept h.1 hq, vx_L.kept h.2 hq⟩
theorem vx_Zq.narrow {C n d : String} {A B : Nat → Prop} {U : State} {H : Heap} (h : vx_Zq C n d A U H) (hAB : ∀ q, B q → A q) : vx_Zq C n d B U H := ⟨va_Zq.narrow h.1 hAB, vx_L.narrow h.2 hAB⟩
theorem vx_Zqof {args : Array Value} {s : State} {C n d : String} {A : Nat → Prop} (hl : (Cond.laysStatic C n d).before args s = true) (hini : (Cond.initialized C).before args s = true) (h : (Cond.isRef (.static C n d)).before args s = true) (hA : ∀ a : Nat, a < s.heap.size → ¬ A a) : vx_Zq C n d A s s.heap := by
  refine ⟨va_Zqof hl hini h hA, ?_⟩
  obtain ⟨c, k, i, f, a, cell, h1, h2, h3, h4, h5, h6, h7, h8, h9⟩ := Cond.laysStatic_spec hl
  exact ⟨c, k, i, f, a, cell, h1, h2, h3, h4, h5, h6, h7, h8, h9, hA a (Array.getElem?_eq_some_iff.mp h5).1⟩
theorem vx_isRef {C n d : String} {v : Value} {A : Nat → Prop} {s : State} {args : Array Value} (h : va_Z C n d v A s s.heap) (hv : v.isRef = true) : (Cond.isRef (.static C n d)).before args s = true := by
  obtain ⟨cf, kf, fi, f, a, cell, h1, h2, h3, h4, h5, h6, h7, -⟩ := h
  have he : (Term.static C n d).eval args s none [] s = some v := by
    simp [Term.eval, State.fieldNamed?, h1, h2, h4, h5, h6, h7]
  simp only [Cond.before, Cond.holds, Cond.value, he]
  cases v <;> simp_all [Value.isRef]
theorem vx_isRefq {C n d : String} {A : Nat → Prop} {s : State} {args : Array Value} (h : va_Zq C n d A s s.heap) : (Cond.isRef (.static C n d)).before args s = true := by
  rcases h with h | ⟨t, h⟩
  · exact vx_isRef h rfl
  · exact vx_isRef h rfl
/-- the same frame, seen from here: as if the method were called anew in this heap -/
theorem vx_rebase {T : State} (X : Stand p l e R s m args below meth c T locs cells slots) {R' : Room} (hf : R'.frames ≤ R.frames) (hl : R'.locals ≤ R.locals) (hc : cells + R'.cells ≤ R.cells) (hs : slots + R'.slots ≤ R.slots) :
    Stand p l e R' ((T.setVm s.vm).setFrames (.invoking m args :: below)) m args below meth c T [] 0 0 := by
  have htop : (T.setVm s.vm).topJava?.isSome := X.here.top
  have hF : ((T.setVm s.vm).setFrames (.invoking m args :: below)).frames = .invoking m args :: below := State.frames_setFrames _ (State.cur_lt_of_top htop)
  obtain ⟨g₀, hg0⟩ := Option.isSome_iff_exists.mp htop
  obtain ⟨r, hr⟩ := State.topJava?_eq_some.mp hg0
  have hl9 : e.platform.stackLimits (T.setVm s.vm).me = e.platform.stackLimits s.me := X.limits
  have hb9 : (T.setVm s.vm).me.stackBytes = s.me.stackBytes := X.bytes
  refine ⟨X.admits, X.cas, X.clock, hF, ?_, X.hears, X.method, X.code, X.here, X.tail, X.warmed, ?_, ?_, ?_⟩
  · have h := X.room
    have hU : ((T.setVm s.vm).setFrames (.invoking m args :: below)).localsInUse = s.localsInUse := by
      rw [State.localsInUse_invoking hF (meth := meth) (c := c) X.method X.code, State.localsInUse_invoking X.frames X.method X.code]
    simp only [State.hasRoom, Bool.and_eq_true, decide_eq_true_eq] at h ⊢
    obtain ⟨⟨⟨⟨h1, h2, h3, h4, h5, h6⟩, h7⟩, h8⟩, h9⟩ := h
    rw [X.frames, List.length_cons] at h2 h3
    have q1 := X.heapSize
    have q2 := X.used
    simp only [hF, hU, List.length_cons, State.stackLimits_setFrames, State.stackBytes_setFrames, hl9, hb9]
    refine ⟨⟨⟨⟨by omega, by omega, by omega, by omega, by omega, h6⟩, ?_⟩, ?_⟩, X.book⟩
    · show T.heap.size + R'.cells ≤ e.platform.maxCells
      omega
    · show T.slotsUsed + R'.slots ≤ e.platform.maxSlots
      omega
  · rw [State.stackLimits_setFrames]; rfl
  · rw [State.stackBytes_setFrames]; rfl
  · refine ⟨?_, Nat.le_refl _, Nat.le_refl _, ?_, ?_, fun a c9 h9 => ⟨c9, h9, rfl, rfl, fun _ _ => rfl⟩⟩
    · obtain ⟨t, ht, -⟩ := State.frames_cons hr
      show T.setVm s.vm = { ((T.setVm s.vm).setFrames (.invoking m args :: below)).setFrames (T.setVm s.vm).frames with heap := T.heap, slotsUsed := T.slotsUsed }
      rw [State.setFrames_setFrames, State.setFrames_self ht]
      rfl
    · show T.slotsUsed = T.slotsUsed + ((T.heap.toList.drop T.heap.size).map (·.slots.size)).sum
      rw [List.drop_eq_nil_of_le (Nat.le_of_eq Array.length_toList)]
      rfl
    · show ((T.heap.toList.drop T.heap.size).map (·.slots.size)).sum ≤ 0
      rw [List.drop_eq_nil_of_le (Nat.le_of_eq Array.length_toList)]
      exact Nat.le_refl _
/-- 'throw new E()': new; dup; invokespecial; athrow -/
theorem vx_throw0 {cc : ByteArray} {pc : Nat} (hexec : p.tables.exec = Jvm.exec) (hb : c.code = cc) (hl : l.stackTraces = false) {own cls : String} {names : List String} {ik ic mc ms : Nat} {A : Nat → Prop}
    (hown : s.vm.findClass own = some m.cls) (hcls : Bundle.fit cls = true) (hnames : ∀ n ∈ names, Bundle.fit n = true)
    (hk : (Cond.classLink own ik cls).before args s = true) (hini : (Cond.initialized cls).before args s = true) (hat : ∀ w ∈ vx_at0 own ic cls names, w.before args s = true)
    (hgood : ∀ w ∈ Cond.classLink own ik cls :: Cond.initialized cls :: vx_at0 own ic cls names, vx_ot w = true)
    (hU : vx_Zq Bundle.tN "UNASSIGNED_STACK" Bundle.steD A s s.heap) (hN : vx_Zq Bundle.tN "SUPPRESSED_SENTINEL" Bundle.listD A s s.heap) (hS : va_S A s.heap H locs) (hsize : ls.size = c.maxLocals)
    (d0 : decode cc pc = .ok (.new ik, 3)) (d3 : decode cc (pc + 3) = .ok (.dup, 1)) (d4 : decode cc (pc + 4) = .ok (.invokespecial ic, 3)) (d7 : decode cc (pc + 7) = .ok (.athrow, 1))
    (hout : ∀ x ∈ c.exceptionTable.toList, covers x (pc + 7) = false)
    (hRframes : names.length + 3 < R.frames) (hRlocals : (rest.map fun v => v.category).sum + (13 * (names.length + 1) + 42) ≤ R.locals) (hRcells : cells + 1 ≤ R.cells) (hRslots : slots + 6 ≤ R.slots) (hlocks : meth.locks = false)
    (hx : ∀ t : State, s.vm.Alike t.vm → H.size ≤ t.heap.size → (∀ q : Nat, q < H.size → t.heap[q]? = H[q]?) → XC cls s t)
    (hf : ∀ z ∈ locs, free z.base) (hc : cells + 1 ≤ mc) (hs : slots + 6 ≤ ms) :
    W p l e R s m args below meth c H locs cells slots (vx_MQ below Qc XC args s mc ms free) (F0 m pc ls rest) := by
  intro T hT X
  have htr : e.platform.stackTraces = false := (show e.platform.stackTraces = l.stackTraces by rw [X.admits.platform]).trans hl
  have Y := vx_rebase X (R' := { frames := R.frames, locals := R.locals, cells := 1, slots := 6 }) (Nat.le_refl _) (Nat.le_refl _) hRcells hRslots
  obtain ⟨s', hA⟩ : ∃ z, z = (T.setVm s.vm).setFrames (.invoking m args :: below) := ⟨_, rfl⟩
  rw [← hA] at Y
  have hvm : s'.vm = s.vm := by rw [hA]; rfl
  have hhp : s'.heap = H := by rw [hA]; exact hT
  have hW0 : s.WarmedH s'.vm := by rw [hvm]; exact State.WarmedH.refl s
  have hat' : ∀ w ∈ vx_at0 own ic cls names, w.before args s' = true := fun w hw => vx_ot_at hW0 hvm.symm (hgood w (List.mem_cons_of_mem _ (List.mem_cons_of_mem _ hw))) (hat w hw)
  have hk' : (Cond.classLink own ik cls).before args s' = true := vx_ot_at hW0 hvm.symm (hgood _ List.mem_cons_self) hk
  have hini' : (Cond.initialized cls).before args s' = true := vx_ot_at hW0 hvm.symm (hgood _ (List.mem_cons_of_mem _ List.mem_cons_self)) hini
  have hU' : vx_Zq Bundle.tN "UNASSIGNED_STACK" Bundle.steD A s' s'.heap := by rw [hhp]; exact vx_Zq.moved hW0.alike (hU.kept hS.2.1)
  have hN' : vx_Zq Bundle.tN "SUPPRESSED_SENTINEL" Bundle.listD A s' s'.heap := by rw [hhp]; exact vx_Zq.moved hW0.alike (hN.kept hS.2.1)
  have h : ∀ w ∈ Bundle.ownAtoms0 own ic cls names, w.before args s' = true := vx_own hat' (vx_isRefq hU'.1) (vx_isRefq hN'.1) hU'.2.word hN'.2.word
  have hown' : s'.vm.findClass own = some m.cls := by rw [hvm]; exact hown
  have hins : (Cond.instantiable cls 6).before args s' = true := h _ (by simp [Bundle.ownAtoms0])
  obtain ⟨vm₁, cX, kX, hfX, hkX, -, -, X₁, st1⟩ := Y.newCold hexec (own := own) (C := cls) (index := ik) (n := 6) hown' hk' hins hini'
    (g := F0 m pc ls rest) rfl (by rw [hb]; exact d0) (Nat.le_refl _) (Nat.le_refl _)
  generalize hT1 : (T.setVm vm₁).pushCell { cls := cX, slots := kX.instanceTypes.map defaultValue, vm := .none } = T1 at X₁ st1
  have hcat : (Value.ref T.heap.size).category = 1 := rfl
  have hcellA : T1.heap[T.heap.size]? = some (freshCell cX kX) := by rw [← hT1]; exact State.heap_pushCell_size _ _
  have d3' : decode c.code (pc + 3) = .ok (.dup, 1) := by rw [hb]; exact d3
  obtain ⟨U, hsteps, hrun, hend, hW, hsame, ce, hce, hO⟩ := X₁.ctorThrow0 hexec htr (own := own) (cls := cls) (names := names) (ic := ic) hown' hcls hnames h (fun x hx => nomatch hx) hfX hkX hcellA (by rw [hhp, hT]; exact Nat.le_refl _)
    (g := { method := m, pc := pc + 4, locals := ls, stack := .ref T.heap.size :: .ref T.heap.size :: rest, locked := none }) rfl hsize rfl rfl (rest := rest) rfl
    (by rw [hb]; exact d4) (by rw [hb]; exact d7) hout hRframes (by simp only [List.map_cons, List.sum_cons, hcat]; omega) hlocks
  obtain ⟨f1, f2⟩ := vx_frame hsame
  rw [hhp] at f1 f2
  have hWs : s.WarmedH U.vm := State.WarmedH.trans hW0 hW
  have hcl : s.vm.findClass cls = some ce.cls := by
    have h9 := hO.cls
    rw [hvm] at h9
    exact h9
  have hall : s.sameButNew ({ U with vm := s.vm } : State) locs mc ms := by
    subst hA
    obtain ⟨e1, e2⟩ := hsame
    rw [State.setFrames_setFrames] at e1
    have h2 : (T.setVm s.vm).sameButNew ({ U with vm := s.vm } : State) [] (0 + 1) (0 + 6) := ⟨e1, e2⟩
    have h3 := X.same.trans h2
    rw [List.append_nil] at h3
    exact h3.mono hc hs
  refine ⟨U, ?_, .threw T.heap.size, hrun, hend, Or.inr ⟨T.heap.size, rfl, cls, ce, locs, hx U hWs.alike f1 (fun q hq => f2 q hq (fun z hz => nomatch hz)), hce, hO.vm, hcl, hWs, hall, hf⟩⟩
  refine st1 _ ?_
  show Steps p.tables e below (T1.setTop { method := m, pc := pc + 3, locals := ls, stack := .ref T.heap.size :: rest, locked := none }) _
  jvm_step X₁.here [X₁.here.top, hexec, d3', Value.category]
  exact hsteps
/-- 'throw new E("text")': new; dup; ldc; invokespecial; athrow -/
theorem vx_throwS {cc : ByteArray} {pc : Nat} (hexec : p.tables.exec = Jvm.exec) (hb : c.code = cc) (hl : l.stackTraces = false) {own cls text : String} {names : List String} {ik is ic mc ms sa : Nat} {A : Nat → Prop}
    (hown : s.vm.findClass own = some m.cls) (hcls : Bundle.fit cls = true) (hnames : ∀ n ∈ names, Bundle.fit n = true)
    (hk : (Cond.classLink own ik cls).before args s = true) (hini : (Cond.initialized cls).before args s = true) (hstr : vk_R own is text sa s) (hat : ∀ w ∈ vx_atS own ic cls names, w.before args s = true)
    (hgood : ∀ w ∈ Cond.classLink own ik cls :: Cond.initialized cls :: vx_atS own ic cls names, vx_ot w = true)
    (hU : vx_Zq Bundle.tN "UNASSIGNED_STACK" Bundle.steD A s s.heap) (hN : vx_Zq Bundle.tN "SUPPRESSED_SENTINEL" Bundle.listD A s s.heap) (hS : va_S A s.heap H locs) (hsize : ls.size = c.maxLocals)
    (d0 : decode cc pc = .ok (.new ik, 3)) (d3 : decode cc (pc + 3) = .ok (.dup, 1)) (d4 : decode cc (pc + 4) = .ok (.ldc is, 2)) (d6 : decode cc (pc + 6) = .ok (.invokespecial ic, 3)) (d9 : decode cc (pc + 9) = .ok (.athrow, 1))
    (hout : ∀ x ∈ c.exceptionTable.toList, covers x (pc + 9) = false)
    (hRframes : names.length + 3 < R.frames) (hRlocals : (rest.map fun v => v.category).sum + (13 * (names.length + 1) + 43) ≤ R.locals) (hRcells : cells + 1 ≤ R.cells) (hRslots : slots + 6 ≤ R.slots) (hlocks : meth.locks = false)
    (hx : ∀ t : State, s.vm.Alike t.vm → H.size ≤ t.heap.size → (∀ q : Nat, q < H.size → t.heap[q]? = H[q]?) → XC cls s t)
    (hf : ∀ z ∈ locs, free z.base) (hc : cells + 1 ≤ mc) (hs : slots + 6 ≤ ms) :
    W p l e R s m args below meth c H locs cells slots (vx_MQ below Qc XC args s mc ms free) (F0 m pc ls rest) := by
  intro T hT X
  have htr : e.platform.stackTraces = false := (show e.platform.stackTraces = l.stackTraces by rw [X.admits.platform]).trans hl
  have Y := vx_rebase X (R' := { frames := R.frames, locals := R.locals, cells := 1, slots := 6 }) (Nat.le_refl _) (Nat.le_refl _) hRcells hRslots
  obtain ⟨s', hA⟩ : ∃ z, z = (T.setVm s.vm).setFrames (.invoking m args :: below) := ⟨_, rfl⟩
  rw [← hA] at Y
  have hvm : s'.vm = s.vm := by rw [hA]; rfl
  have hhp : s'.heap = H := by rw [hA]; exact hT
  have hW0 : s.WarmedH s'.vm := by rw [hvm]; exact State.WarmedH.refl s
  have hat' : ∀ w ∈ vx_atS own ic cls names, w.before args s' = true := fun w hw => vx_ot_at hW0 hvm.symm (hgood w (List.mem_cons_of_mem _ (List.mem_cons_of_mem _ hw))) (hat w hw)
  have hk' : (Cond.classLink own ik cls).before args s' = true := vx_ot_at hW0 hvm.symm (hgood _ List.mem_cons_self) hk
  have hini' : (Cond.initialized cls).before args s' = true := vx_ot_at hW0 hvm.symm (hgood _ (List.mem_cons_of_mem _ List.mem_cons_self)) hini
  have hU' : vx_Zq Bundle.tN "UNASSIGNED_STACK" Bundle.steD A s' s'.heap := by rw [hhp]; exact vx_Zq.moved hW0.alike (hU.kept hS.2.1)
  have hN' : vx_Zq Bundle.tN "SUPPRESSED_SENTINEL" Bundle.listD A s' s'.heap := by rw [hhp]; exact vx_Zq.moved hW0.alike (hN.kept hS.2.1)
  have h : ∀ w ∈ Bundle.ownAtoms own ic cls names, w.before args s' = true := vx_own hat' (vx_isRefq hU'.1) (vx_isRefq hN'.1) hU'.2.word hN'.2.word
  have hown' : s'.vm.findClass own = some m.cls := by rw [hvm]; exact hown
  have hins : (Cond.instantiable cls 6).before args s' = true := h _ (by simp [Bundle.ownAtoms])
  obtain ⟨vm₁, cX, kX, hfX, hkX, -, -, X₁, st1⟩ := Y.newCold hexec (own := own) (C := cls) (index := ik) (n := 6) hown' hk' hins hini'
    (g := F0 m pc ls rest) rfl (by rw [hb]; exact d0) (Nat.le_refl _) (Nat.le_refl _)
  generalize hT1 : (T.setVm vm₁).pushCell { cls := cX, slots := kX.instanceTypes.map defaultValue, vm := .none } = T1 at X₁ st1
  have hcat : (Value.ref T.heap.size).category = 1 := rfl
  have hcellA : T1.heap[T.heap.size]? = some (freshCell cX kX) := by rw [← hT1]; exact State.heap_pushCell_size _ _
  have d3' : decode c.code (pc + 3) = .ok (.dup, 1) := by rw [hb]; exact d3
  have d4' : decode c.code (pc + 4) = .ok (.ldc is, 2) := by rw [hb]; exact d4
  have hstr' : vk_R own is text sa s' := vk_R.warm hW0 hstr
  obtain ⟨U, hsteps, hrun, hend, hW, hsame, ce, hce, hO⟩ := X₁.ctorThrowS hexec htr (own := own) (cls := cls) (names := names) (ic := ic) hown' hcls hnames h (fun x hx => nomatch hx) hfX hkX hcellA (by rw [hhp, hT]; exact Nat.le_refl _) (msg := .ref sa) rfl
    (g := { method := m, pc := pc + 6, locals := ls, stack := .ref sa :: .ref T.heap.size :: .ref T.heap.size :: rest, locked := none }) rfl hsize rfl rfl (rest := rest) rfl
    (by rw [hb]; exact d6) (by rw [hb]; exact d9) hout hRframes (by simp only [List.map_cons, List.sum_cons, hcat]; omega) hlocks
  obtain ⟨f1, f2⟩ := vx_frame hsame
  rw [hhp] at f1 f2
  have hWs : s.WarmedH U.vm := State.WarmedH.trans hW0 hW
  have hcl : s.vm.findClass cls = some ce.cls := by
    have h9 := hO.cls
    rw [hvm] at h9
    exact h9
  have hall : s.sameButNew ({ U with vm := s.vm } : State) locs mc ms := by
    subst hA
    obtain ⟨e1, e2⟩ := hsame
    rw [State.setFrames_setFrames] at e1
    have h2 : (T.setVm s.vm).sameButNew ({ U with vm := s.vm } : State) [] (0 + 1) (0 + 6) := ⟨e1, e2⟩
    have h3 := X.same.trans h2
    rw [List.append_nil] at h3
    exact h3.mono hc hs
  refine ⟨U, ?_, .threw T.heap.size, hrun, hend, Or.inr ⟨T.heap.size, rfl, cls, ce, locs, hx U hWs.alike f1 (fun q hq => f2 q hq (fun z hz => nomatch hz)), hce, hO.vm, hcl, hWs, hall, hf⟩⟩
  refine st1 _ ?_
  show Steps p.tables e below (T1.setTop { method := m, pc := pc + 3, locals := ls, stack := .ref T.heap.size :: rest, locked := none }) _
  jvm_step X₁.here [X₁.here.top, hexec, d3', Value.category]
  exact X₁.ldcString hexec (own := own) (text := text) (index := is) (a := sa) hown' hstr'.1 hstr'.2
    (g := { method := m, pc := pc + 4, locals := ls, stack := .ref T.heap.size :: .ref T.heap.size :: rest, locked := none }) rfl d4' _ hsteps
/-- 'throw new E("text")', the text by a wide index -/
theorem vx_throwSW {cc : ByteArray} {pc : Nat} (hexec : p.tables.exec = Jvm.exec) (hb : c.code = cc) (hl : l.stackTraces = false) {own cls text : String} {names : List String} {ik is ic mc ms sa : Nat} {A : Nat → Prop}
    (hown : s.vm.findClass own = some m.cls) (hcls : Bundle.fit cls = true) (hnames : ∀ n ∈ names, Bundle.fit n = true)
    (hk : (Cond.classLink own ik cls).before args s = true) (hini : (Cond.initialized cls).before args s = true) (hstr : vk_R own is text sa s) (hat : ∀ w ∈ vx_atS own ic cls names, w.before args s = true)
    (hgood : ∀ w ∈ Cond.classLink own ik cls :: Cond.initialized cls :: vx_atS own ic cls names, vx_ot w = true)
    (hU : vx_Zq Bundle.tN "UNASSIGNED_STACK" Bundle.steD A s s.heap) (hN : vx_Zq Bundle.tN "SUPPRESSED_SENTINEL" Bundle.listD A s s.heap) (hS : va_S A s.heap H locs) (hsize : ls.size = c.maxLocals)
    (d0 : decode cc pc = .ok (.new ik, 3)) (d3 : decode cc (pc + 3) = .ok (.dup, 1)) (d4 : decode cc (pc + 4) = .ok (.ldc_w is, 3)) (d7 : decode cc (pc + 7) = .ok (.invokespecial ic, 3)) (d10 : decode cc (pc + 10) = .ok (.athrow, 1))
    (hout : ∀ x ∈ c.exceptionTable.toList, covers x (pc + 10) = false)
    (hRframes : names.length + 3 < R.frames) (hRlocals : (rest.map fun v => v.category).sum + (13 * (names.length + 1) + 43) ≤ R.locals) (hRcells : cells + 1 ≤ R.cells) (hRslots : slots + 6 ≤ R.slots) (hlocks : meth.locks = false)
    (hx : ∀ t : State, s.vm.Alike t.vm → H.size ≤ t.heap.size → (∀ q : Nat, q < H.size → t.heap[q]? = H[q]?) → XC cls s t)
    (hf : ∀ z ∈ locs, free z.base) (hc : cells + 1 ≤ mc) (hs : slots + 6 ≤ ms) :
    W p l e R s m args below meth c H locs cells slots (vx_MQ below Qc XC args s mc ms free) (F0 m pc ls rest) := by
  intro T hT X
  have htr : e.platform.stackTraces = false := (show e.platform.stackTraces = l.stackTraces by rw [X.admits.platform]).trans hl
  have Y := vx_rebase X (R' := { frames := R.frames, locals := R.locals, cells := 1, slots := 6 }) (Nat.le_refl _) (Nat.le_refl _) hRcells hRslots
  obtain ⟨s', hA⟩ : ∃ z, z = (T.setVm s.vm).setFrames (.invoking m args :: below) := ⟨_, rfl⟩
  rw [← hA] at Y
  have hvm : s'.vm = s.vm := by rw [hA]; rfl
  have hhp : s'.heap = H := by rw [hA]; exact hT
  have hW0 : s.WarmedH s'.vm := by rw [hvm]; exact State.WarmedH.refl s
  have hat' : ∀ w ∈ vx_atS own ic cls names, w.before args s' = true := fun w hw => vx_ot_at hW0 hvm.symm (hgood w (List.mem_cons_of_mem _ (List.mem_cons_of_mem _ hw))) (hat w hw)
  have hk' : (Cond.classLink own ik cls).before args s' = true := vx_ot_at hW0 hvm.symm (hgood _ List.mem_cons_self) hk
  have hini' : (Cond.initialized cls).before args s' = true := vx_ot_at hW0 hvm.symm (hgood _ (List.mem_cons_of_mem _ List.mem_cons_self)) hini
  have hU' : vx_Zq Bundle.tN "UNASSIGNED_STACK" Bundle.steD A s' s'.heap := by rw [hhp]; exact vx_Zq.moved hW0.alike (hU.kept hS.2.1)
  have hN' : vx_Zq Bundle.tN "SUPPRESSED_SENTINEL" Bundle.listD A s' s'.heap := by rw [hhp]; exact vx_Zq.moved hW0.alike (hN.kept hS.2.1)
  have h : ∀ w ∈ Bundle.ownAtoms own ic cls names, w.before args s' = true := vx_own hat' (vx_isRefq hU'.1) (vx_isRefq hN'.1) hU'.2.word hN'.2.word
  have hown' : s'.vm.findClass own = some m.cls := by rw [hvm]; exact hown
  have hins : (Cond.instantiable cls 6).before args s' = true := h _ (by simp [Bundle.ownAtoms])
  obtain ⟨vm₁, cX, kX, hfX, hkX, -, -, X₁, st1⟩ := Y.newCold hexec (own := own) (C := cls) (index := ik) (n := 6) hown' hk' hins hini'
    (g := F0 m pc ls rest) rfl (by rw [hb]; exact d0) (Nat.le_refl _) (Nat.le_refl _)
  generalize hT1 : (T.setVm vm₁).pushCell { cls := cX, slots := kX.instanceTypes.map defaultValue, vm := .none } = T1 at X₁ st1
  have hcat : (Value.ref T.heap.size).category = 1 := rfl
  have hcellA : T1.heap[T.heap.size]? = some (freshCell cX kX) := by rw [← hT1]; exact State.heap_pushCell_size _ _
  have d3' : decode c.code (pc + 3) = .ok (.dup, 1) := by rw [hb]; exact d3
  have d4' : decode c.code (pc + 4) = .ok (.ldc_w is, 3) := by rw [hb]; exact d4
  have hstr' : vk_R own is text sa s' := vk_R.warm hW0 hstr
  obtain ⟨U, hsteps, hrun, hend, hW, hsame, ce, hce, hO⟩ := X₁.ctorThrowS hexec htr (own := own) (cls := cls) (names := names) (ic := ic) hown' hcls hnames h (fun x hx => nomatch hx) hfX hkX hcellA (by rw [hhp, hT]; exact Nat.le_refl _) (msg := .ref sa) rfl
    (g := { method := m, pc := pc + 7, locals := ls, stack := .ref sa :: .ref T.heap.size :: .ref T.heap.size :: rest, locked := none }) rfl hsize rfl rfl (rest := rest) rfl
    (by rw [hb]; exact d7) (by rw [hb]; exact d10) hout hRframes (by simp only [List.map_cons, List.sum_cons, hcat]; omega) hlocks
  obtain ⟨f1, f2⟩ := vx_frame hsame
  rw [hhp] at f1 f2
  have hWs : s.WarmedH U.vm := State.WarmedH.trans hW0 hW
  have hcl : s.vm.findClass cls = some ce.cls := by
    have h9 := hO.cls
    rw [hvm] at h9
    exact h9
  have hall : s.sameButNew ({ U with vm := s.vm } : State) locs mc ms := by
    subst hA
    obtain ⟨e1, e2⟩ := hsame
    rw [State.setFrames_setFrames] at e1
    have h2 : (T.setVm s.vm).sameButNew ({ U with vm := s.vm } : State) [] (0 + 1) (0 + 6) := ⟨e1, e2⟩
    have h3 := X.same.trans h2
    rw [List.append_nil] at h3
    exact h3.mono hc hs
  refine ⟨U, ?_, .threw T.heap.size, hrun, hend, Or.inr ⟨T.heap.size, rfl, cls, ce, locs, hx U hWs.alike f1 (fun q hq => f2 q hq (fun z hz => nomatch hz)), hce, hO.vm, hcl, hWs, hall, hf⟩⟩
  refine st1 _ ?_
  show Steps p.tables e below (T1.setTop { method := m, pc := pc + 3, locals := ls, stack := .ref T.heap.size :: rest, locked := none }) _
  jvm_step X₁.here [X₁.here.top, hexec, d3', Value.category]
  exact X₁.ldcStringW hexec (own := own) (text := text) (index := is) (a := sa) hown' hstr'.1 hstr'.2
    (g := { method := m, pc := pc + 4, locals := ls, stack := .ref T.heap.size :: .ref T.heap.size :: rest, locked := none }) rfl d4' _ hsteps
end Ends
section Bodies
variable {l : Launch}
theorem vx_ofW {y : MethodName} {ws ws' : List Cond} {rm : Room} {Pc : Array Value → State → Prop} {Qc : Array Value → State → Outcome → State → Prop} {XC : String → State → State → Prop} {mc ms : Nat} {free : Addr → Prop} {cc : ByteArray} {maxL : Nat} {ret : Option FieldType}
    (hy : plainName y.cls = true) (hw : ws = Cond.code y cc maxL ret :: ws')
    (body : ∀ p e s m args below meth c s₁, BodyLoose p l y (headSpec ws rm) cc maxL ret e s m args below meth c s₁ → c.maxLocals = maxL → (∀ x ∈ c.exceptionTable.toList, False) → Pc args s →
      W p l e (headSpec ws rm).room s m args below meth c s.heap [] 0 0 (vx_MQ below Qc XC args s mc ms free) (entryFrame m args maxL)) : vx_Met l y ws rm Pc Qc XC mc ms free := by
  refine MetFree.of_bodyS (code := cc) (maxLocals := maxL) (ret := ret) hy ?_ ?_
  · intro args s m h hn
    obtain ⟨meth, c, h1, h2, h3, h4, h5, h6, -, -⟩ := Cond.code_spec hn (atoms_spec (ws := ws) h _ (by rw [hw]; exact List.mem_cons_self))
    exact ⟨meth, c, h1, h2, h3, h4, h5, h6⟩
  · intro p e s m args below meth c s₁ B hml hP _
    have hh0 : s₁.heap = s.heap := by rw [B.state]; rfl
    have ht : ∀ x ∈ c.exceptionTable.toList, False := by
      obtain ⟨meth9, c9, h1, h2, -, -, -, -, h7, -⟩ := Cond.code_spec B.named (atoms_spec (ws := ws) B.pre _ (by rw [hw]; exact List.mem_cons_self))
      cases Option.some.inj (h1.symm.trans B.method)
      cases Option.some.inj (h2.symm.trans (Stand.of_body B).code)
      intro x hx
      rw [Array.isEmpty_iff.mp h7] at hx
      cases hx
    obtain ⟨t, a1, o, b1, b2, b3⟩ := body p e s m args below meth c s₁ B hml ht hP s₁ hh0 (Stand.of_body B)
    exact ⟨t, o, a1, b1, b2, b3⟩
/-- the table of a body with handlers -/
theorem vx_table {p : Program} {x y : MethodName} {S : Spec} {cc bytes : ByteArray} {maxL maxL' : Nat} {ret ret' : Option FieldType} {e : Env} {s s₁ : State} {m : MethodId} {args : Array Value} {below : List Frame} {meth : Method} {c : Code} {hh : List (Nat × Nat × Nat × Nat)}
    (B : BodyLoose p l y S cc maxL ret e s m args below meth c s₁) (h : (Cond.codeWith y bytes maxL' ret' hh).before args s = true) : c.exceptionTable.toList = tableOf hh := by
  obtain ⟨m9, meth9, c9, hn9, h1, h2, -, -, h6, -⟩ := Cond.codeWith_spec h
  cases Option.some.inj (hn9.symm.trans B.named)
  cases Option.some.inj (h1.symm.trans B.method)
  cases Option.some.inj (h2.symm.trans (Stand.of_body B).code)
  rw [← h6, table_eq]
end Bodies
end VXA
/-! ===== END ===== -/
/-! ===== BEGIN a static call of a method with an exception table ===== -/
section VXS
variable {p : Program} {l : Launch} {e : Env} {R : Room} {s : State} {m : MethodId} {args : Array Value} {below : List Frame} {meth : Method} {c : Code} {T : State} {H : Heap} {locs : List Loc} {cells slots : Nat}
abbrev vx_CSW (R : Room) (s : State) (args : Array Value) (own : String) (index : Nat) (y : MethodName) (bytes : ByteArray) (maxL : Nat) (ret : Option FieldType) (hh : List (Nat × Nat × Nat × Nat)) (ws : List Cond) (rm : Room) (mc ms n : Nat) : Prop :=
  (rm.cells = mc ∧ rm.slots = ms ∧ rm.frames + 1 ≤ R.frames ∧ 8 + (maxL + 11) + rm.locals ≤ R.locals ∧ (∀ w ∈ ws, ∀ (a' : Array Value) (U : State), s.WarmedH U.vm → w.before a' U = true) ∧ Cond.codeWith y bytes maxL ret hh ∈ ws) ∧
  (Cond.codeWith y bytes maxL ret hh).before args s = true ∧ (Cond.initialized y.cls).before args s = true ∧ (y.cls ≠ "java/lang/invoke/MethodHandle" ∧ y.cls ≠ "java/lang/invoke/VarHandle") ∧
  (∀ sig, parseMethodDescriptor y.desc = some sig → n = sig.parameters.length) ∧ (Cond.methodLink own index y).before args s = true ∧ (Cond.static y).before args s = true
theorem vx_cwSW {own : String} {index maxL mc ms : Nat} {y : MethodName} {bytes : ByteArray} {ret : Option FieldType} {hh : List (Nat × Nat × Nat × Nat)} {Ts ws ws' : List Cond} {rm : Room} (n : Nat) (ht : ∀ w ∈ Ts, w.before args s = true) (hT : GoodIn Ts (va_wsS own index y ws)) (hw : ws = Cond.codeWith y bytes maxL ret hh :: ws') (hrc : rm.cells = mc) (hrs : rm.slots = ms)
    (hd : y.cls ≠ "java/lang/invoke/MethodHandle" ∧ y.cls ≠ "java/lang/invoke/VarHandle" ∧ (parseMethodDescriptor y.desc).map (fun d => d.parameters.length) = some n) (hR : rm.frames + 1 ≤ R.frames ∧ 8 + (maxL + 11) + rm.locals ≤ R.locals) :
    vx_CSW R s args own index y bytes maxL ret hh ws rm mc ms n := by
  have ok : ∀ w ∈ va_wsS own index y ws, w.before args s = true := fun w h => ht w (hT w h).1
  have hG : GoodIn Ts ws := fun w h => hT w (by unfold va_wsS; exact List.mem_append_right _ h)
  have hc : Cond.codeWith y bytes maxL ret hh ∈ ws := by rw [hw]; exact List.mem_cons_self
  refine ⟨⟨hrc, hrs, hR.1, hR.2, pay_in ht hG, hc⟩, ht _ (hG _ hc).1, ok _ (by simp [va_wsS]), ⟨hd.1, hd.2.1⟩, fun sig h => ?_, ok _ (by simp [va_wsS]), ok _ (by simp [va_wsS])⟩
  have h2 := hd.2.2
  rw [h] at h2
  exact (Option.some.inj h2).symm
theorem vx_callSW (X : Stand p l e R s m args below meth c T locs cells slots) (hexec : p.tables.exec = Jvm.exec) {own : String} {index : Nat} {y : MethodName} {bytes : ByteArray} {maxL : Nat} {ret : Option FieldType} {hh : List (Nat × Nat × Nat × Nat)}
    (hown : s.vm.findClass own = some m.cls) (hlink : (Cond.methodLink own index y).before args s = true) (hstat : (Cond.static y).before args s = true) (hinit : (Cond.initialized y.cls).before args s = true)
    (hcode : (Cond.codeWith y bytes maxL ret hh).before args s = true) (hy : y.cls ≠ "java/lang/invoke/MethodHandle" ∧ y.cls ≠ "java/lang/invoke/VarHandle")
    {W9 : Nat} {Pre : Pt → Array Value → Prop} {Post : Pt → Array Value → Option Value → Pt → Prop} (hK : Back l R p e below s args y 3 W9 Pre Post)
    {g : JFrame} (hg : g.method = m) (hsize : g.locals.size = c.maxLocals) {argsL rest : List Value} (hlen : ∀ sig, parseMethodDescriptor y.desc = some sig → argsL.length = sig.parameters.length)
    (hstack : g.stack = argsL.reverse ++ rest) (hW : 2 * g.monitorRoom + (rest.map fun v => v.category).sum ≤ W9) (hdg : decode c.code g.pc = .ok (.invokestatic index, 3))
    (hpre : ∀ vm₁, s.WarmedH vm₁ → Pre ⟨T.setVm vm₁, locs, cells, slots⟩ argsL.toArray) :
    ∃ (v : Option Value) (vm₁ : Vm) (B : Pt), s.WarmedH vm₁ ∧ Stand p l e R s m args below meth c B.U B.locs B.cells B.slots ∧ Post ⟨T.setVm vm₁, locs, cells, slots⟩ argsL.toArray v B ∧
      ∀ target, Steps p.tables e below (B.U.setTop { g with pc := g.pc + 3, stack := v.toList ++ rest }) target → Steps p.tables e below (T.setTop g) target := by
  obtain ⟨mk, methM, cM, hnamed, hmethM, -, -, -, -, -, -, hsigM⟩ := Cond.codeWith_spec hcode
  have hstatic : methM.isStatic = true := Cond.static_spec hnamed hmethM hstat
  obtain ⟨kP, hkP, -⟩ := className_of_methodNamed hnamed
  have hinitP : kP.init = .initialized := Cond.initialized_spec (findClass_of_methodNamed hnamed) hkP hinit
  obtain ⟨vm₁, X₁, hstep₁⟩ := X.invokestatic hexec hown hlink hnamed hmethM hstatic hkP hinitP hy (g := g) hg (argsL := argsL) (rest := rest) (hlen _ hsigM) hstack hdg
  obtain ⟨v, B, X', hpost, hsteps⟩ := hK m meth c ⟨T.setVm vm₁, locs, cells, slots⟩ { g with stack := rest } (.invokestatic index) mk argsL.toArray X₁ hg hsize hdg hW (X₁.named hnamed) (hpre vm₁ X₁.warmed)
  exact ⟨v, vm₁, B, X₁.warmed, X', hpost, fun target h => hstep₁ _ fun acts => by rw [doInvoke_state]; exact hsteps.trans h⟩
theorem vx_runSW {y : MethodName} {bytes cc : ByteArray} {maxL nL mc ms n index : Nat} {ret : Option FieldType} {hh : List (Nat × Nat × Nat × Nat)} {ws : List Cond} {rm : Room} {Pc : Array Value → State → Prop} {Qc : Array Value → State → Outcome → State → Prop} {free : Addr → Prop} {Ts : List Cond} {own : String} {As rest : List Value} {g : JFrame}
    (S : CallFix p m c cc nL s args Ts own) (hM : Met l y ws rm Pc Qc mc ms free) (cw : vx_CSW R s args own index y bytes maxL ret hh ws rm mc ms n) (hp : PreS s H Pc As)
    (hg : g.method = m) (hn : As.length = n) (hsize : g.locals.size = nL) (hstack : g.stack = As.reverse ++ rest) (hW : 2 * g.monitorRoom + (rest.map fun v => v.category).sum ≤ 8) (hdg : decode cc g.pc = .ok (.invokestatic index, 3)) (hf : cells + mc ≤ R.cells ∧ slots + ms ≤ R.slots) :
    va_Run p l e R s m args below meth c H locs cells slots mc ms g rest (Qc As.toArray) (free) := by
  obtain ⟨⟨hrc, hrs, hfr, hlo, hws, hcw⟩, hcode, hini, hy, hlen, hl, hstt⟩ := cw
  have hK : Back l R p e below s args y 3 8 (PreOf R mc ms Pc) (PostOf Qc mc ms free) := va_backW (hh := hh) (bytes := bytes) (maxL := maxL) (ret := ret) hM hp.1 hrc hrs hfr hlo hws hcw (fun a' U hW => word_at hW (Or.inl (by first | rfl | simp [Cond.onTables, Cond.keeps, Cond.steady])) hini)
  obtain ⟨hx, hb, hml, ho, -⟩ := S
  intro T hT X
  obtain ⟨v, vm₁, ⟨U', l2, c2, s2⟩, hW₁, X', ⟨g', mk, t, L, e1, e2, hq, h1, hL, h2, h3⟩, st⟩ := vx_callSW X hx (hh := hh) (bytes := bytes) (maxL := maxL) (ret := ret) ho hl hstt hini hcode hy hK hg (hsize.trans hml.symm) (argsL := As) (rest := rest) (fun sig h => hn.trans (hlen sig h)) hstack hW (by rw [hb]; exact hdg)
    (fun vm₁ hW₁ => ⟨hf.1, hf.2, hp.2 (T.setVm vm₁) hT hW₁⟩)
  dsimp only [Pt.U, Pt.locs, Pt.cells, Pt.slots] at X' e1 e2 h1 h2 h3 st
  subst h1; subst h2; subst h3
  exact ⟨v, (T.setVm vm₁).calling g' mk As.toArray, t, U', L, hT, X', hL, e1, e2, hq, st⟩
/-- not caught here, past rows that name other classes: it goes on to the caller -/
theorem vx_outP {p : Program} {l : Launch} {e : Env} {R : Room} {s : State} {m : MethodId} {args : Array Value} {below : List Frame} {meth : Method} {c : Code} {H : Heap} {locs : List Loc} {cells slots : Nat} {free : Addr → Prop} {ls : Array Slot} {rest : List Value} {Qc : Array Value → State → Outcome → State → Prop} {XC : String → State → State → Prop}
    {pc : Nat} {own E : String} {ce : Cell} {q : Addr} {mc ms : Nat} (hown : s.vm.findClass own = some m.cls) (hlocks : meth.locks = false)
    (hpass : ∀ z ∈ c.exceptionTable.toList, covers z pc = false ∨ (z.catchType ≠ 0 ∧ ∃ nm : String, (Cond.classLink own z.catchType nm).before args s = true ∧ va_Nc E nm s)) (hcell : H[q]? = some ce) (hv : ce.vm = .none) (hcl : s.vm.findClass E = some ce.cls)
    (hx : ∀ t : State, t.heap = H → s.vm.Alike t.vm → XC E s t) (hf : ∀ z ∈ locs, free z.base) (hc : cells ≤ mc) (hs : slots ≤ ms) :
    vx_W p l e R s m args below meth c H locs cells slots (vx_MQ below Qc XC args s mc ms free) (F0 m pc ls rest) q := by
  intro T hT X
  have hpl : e.platform.magicAccessors = ({} : Platform).magicAccessors := by rw [X.admits.platform]
  obtain ⟨vm', hW', X', st⟩ := X.outThrough hlocks q (g := F0 m pc ls rest) rfl rfl rfl (cell := ce) (by rw [hT]; exact hcell) (by rw [hv]; rfl)
    (by obtain ⟨k9, h9, -⟩ := Vm.findClass_spec hcl; exact ⟨k9, h9⟩) (fun z hz => by
      rcases hpass z hz with h | ⟨hz0, nm, hl1, hn1⟩
      · exact Or.inl h
      · obtain ⟨c6, hc6, hcl6⟩ := Cond.classLink_spec hown hl1 e.platform hpl
        obtain ⟨a8, b8, h1, h2, h3⟩ := hn1
        cases Option.some.inj (h1.symm.trans hcl)
        cases Option.some.inj (h2.symm.trans hc6)
        exact Or.inr ⟨hz0, _, hcl6, h3⟩)
  obtain ⟨g₀, hfr⟩ := X'.frames_eq
  have hcell9 : ((T.setVm vm').setFrames (.throwing q :: below)).heap[q]? = some ce := by
    show T.heap[q]? = some ce
    rw [hT]; exact hcell
  have hend : Ended ((T.setVm vm').setFrames (.throwing q :: below)) below (.threw q) := State.frames_setFrames _ (State.cur_lt_of_frames hfr)
  refine ⟨(T.setVm vm').setFrames (.throwing q :: below), ?_, .threw q, X'.here.running, hend, Or.inr ⟨q, rfl, E, ce, locs, hx _ hT (X'.ends _).1.alike, hcell9, hv, hcl, (X'.ends _).1, (X'.ends _).2.mono hc hs, hf⟩⟩
  rw [X.pushThrowing_eq]
  exact st
/-- a thing of a world lies in the heap -/
theorem vx_lt {D : va_G} {cl : List vw_C} {ws : va_W} {H1 : Heap} (h : va_P D cl ws H1) {k : Nat} {q : Nat × va_E} (hk : ws[k]? = some q) : q.1 < H1.size := (h k q hk).lt
end VXS
/-! ===== END ===== -/
/-! ===== BEGIN methods with a table of their own: called by a name, returning or throwing ===== -/
section VXH
/-! vx_backW, vx_callVX, vx_callSX, vx_callVW, vx_runVW, vx_runVX, vx_runSX, vx_ofWH follow the same proofs as their sisters above (Free/Laws.lean, Shelf42/LK1.lean); vx_outP calls Shelf42/NT130.lean (outThrough). -/
section
variable {l : Launch} {R : Room} {p : Program} {e : Env} {below : List Frame} {s : State} {sargs : Array Value} {y : MethodName} {len W9 : Nat}
theorem vx_backW {ws : List Cond} {rm : Room} {Pc : Array Value → State → Prop} {Qc : Array Value → State → Outcome → State → Prop} {XC : String → State → State → Prop} {mc ms : Nat} {free : Addr → Prop} {bytes : ByteArray} {maxL : Nat} {ret : Option FieldType} {hh : List (Nat × Nat × Nat × Nat)}
    (hM : vx_Met l y ws rm Pc Qc XC mc ms free) (hblind : FrameBlind Pc) (hrc : rm.cells = mc) (hrs : rm.slots = ms)
    (hframes : rm.frames + 1 ≤ R.frames) (hlocals : W9 + (maxL + 11) + rm.locals ≤ R.locals)
    (hws : ∀ w ∈ ws, ∀ a' U, s.WarmedH U.vm → w.before a' U = true) (hcode : Cond.codeWith y bytes maxL ret hh ∈ ws) (hinit : ∀ a' U, s.WarmedH U.vm → (Cond.initialized y.cls).before a' U = true) :
    vx_Back l R p e below s sargs y len W9 (PreOf R mc ms Pc) (PostOf Qc mc ms free) (vx_Post XC mc ms free) := by
  intro m meth c A g ig mk a X hg hsize hdg hW hn hp
  have h1 : (headSpec ws rm).pre.before a A.U = true := atoms_intro fun w hw => hws w hw _ _ X.warmed
  have h2 : (Cond.codeWith y bytes maxL ret hh).before a A.U = true := hws _ hcode _ _ X.warmed
  have h3 : (Cond.initialized y.cls).before a A.U = true := hinit _ _ X.warmed
  have h4 : A.cells + (headSpec ws rm).room.cells ≤ R.cells := by rw [show (headSpec ws rm).room.cells = mc from hrc]; exact hp.1
  have h5 : A.slots + (headSpec ws rm).room.slots ≤ R.slots := by rw [show (headSpec ws rm).room.slots = ms from hrs]; exact hp.2.1
  have hPc : Pc a (A.U.calling g mk a) := hblind _ _ _ _ hp.2.2
  obtain ⟨U, Ls, c0, s0⟩ := A
  dsimp only [Pt.U, Pt.locs, Pt.cells, Pt.slots] at h1 h2 h3 h4 h5 X hn hPc ⊢
  obtain ⟨m9, methY, cY, hn9, hmY, hcY, -, hlY, -⟩ := Cond.codeWith_spec h2
  cases Option.some.inj (hn9.symm.trans hn)
  obtain ⟨kY, hkY, -⟩ := className_of_methodNamed hn
  have hinitY : kY.init = .initialized := Cond.initialized_spec (findClass_of_methodNamed hn) hkY h3
  have h : At U g.method c below := by rw [hg]; exact X.here
  have hlocals9 : W9 + (maxL + 11) + (headSpec ws rm).room.locals ≤ R.locals := hlocals
  have happ : (headSpec ws rm).appliesLoose y e.platform (U.calling g mk a) = true :=
    Spec.appliesLoose_calling (g := g) h hdg hn hkY hinitY
      (X.room_calling (g := g) (R' := (headSpec ws rm).room) hsize hmY hcY hframes (by rw [hlY]; omega) h4 h5) h1
  obtain ⟨mid, hmid⟩ := h.above
  have hfr : (U.setTop g).frames = (.java g :: mid) ++ below := by rw [State.frames_setTop' g h.top, hmid]; rfl
  obtain ⟨o, s₂, hsteps, -, hend, hq⟩ := Steps.callFree hM p X.admits X.cas X.clock (acts := []) hfr happ hPc trivial
  have hq' : vx_Q Qc XC mc ms free a (U.calling g mk a) o s₂ := hq
  rw [State.frames_setTop' g h.top] at hend
  obtain ⟨g₀, hg0⟩ := Option.isSome_iff_exists.mp h.top
  obtain ⟨r, hr⟩ := State.topJava?_eq_some.mp hg0
  have hr' : (({ U with heap := s₂.heap, slotsUsed := s₂.slotsUsed } : State).setVm s₂.vm).frames = .java g₀ :: r := hr
  rcases hq' with ⟨hqc, L, hfe, hL⟩ | ⟨q, rfl, E, ce, L, hx, hce, hcv, hcl, hW₂, hsm, hL⟩
  · obtain ⟨⟨v, rfl⟩, hW₂, e2, q2, q3, q4, q5, q6⟩ := id hfe
    have e3 : s₂ = ({ (U.calling g mk a).setFrames s₂.frames with heap := s₂.heap, slotsUsed := s₂.slotsUsed } : State).setVm s₂.vm := by
      have : s₂ = ({ s₂ with vm := (U.calling g mk a).vm } : State).setVm s₂.vm := rfl
      rw [e2] at this
      exact this
    obtain ⟨c₂, i₂, len₂, hc₂, hd₂, hf₂⟩ := hend
    have hW' : U.WarmedH s₂.vm := hW₂
    have hcc : c₂ = c := by
      have h1 : s₂.code? g.method = U.code? g.method := by
        rw [State.code?_eq, State.code?_eq, hW'.alike.method?]
      exact Option.some.inj (hc₂.symm.trans (h1.trans h.code))
    subst hcc
    have hlen : len₂ = len := by rw [hdg] at hd₂; cases hd₂; rfl
    subst hlen
    have hs₂ : s₂ = (({ U with heap := s₂.heap, slotsUsed := s₂.slotsUsed } : State).setVm s₂.vm).setTop { g with pc := g.pc + len₂, stack := v.toList ++ g.stack } := by
      refine e3.trans ?_
      rw [hf₂, State.calling_eq h.top, State.setFrames_setFrames, State.setTop_of_frames _ hr', hr]
      rfl
    have hsame : U.sameButNew ({ U with heap := s₂.heap, slotsUsed := s₂.slotsUsed } : State) L mc ms := by
      refine ⟨?_, q2, q3, q4, q5, q6⟩
      obtain ⟨t, ht, -⟩ := State.frames_cons hr
      show ({ U with heap := s₂.heap, slotsUsed := s₂.slotsUsed } : State) = { U.setFrames U.frames with heap := s₂.heap, slotsUsed := s₂.slotsUsed }
      rw [State.setFrames_self ht]
    subst hg
    refine Or.inl ⟨v, ⟨(({ U with heap := s₂.heap, slotsUsed := s₂.slotsUsed } : State).setVm s₂.vm), Ls ++ L, c0 + mc, s0 + ms⟩,
      ⟨X.admits, X.cas, X.clock, X.frames, X.room, X.hears, X.method, X.code, (X.here.setHeapUsed s₂.heap s₂.slotsUsed).setVm hW'.alike, X.tail, State.WarmedH.trans X.warmed hW', X.limits, X.bytes, X.same.trans (hsame.setVm s.vm)⟩,
      ⟨g, mk, s₂, L, rfl, rfl, hqc, rfl, hL, rfl, rfl⟩, ?_⟩
    show Steps p.tables e below _ ((({ U with heap := s₂.heap, slotsUsed := s₂.slotsUsed } : State).setVm s₂.vm).setTop { g with pc := g.pc + len₂, stack := v.toList ++ g.stack })
    rw [← hs₂]
    exact hsteps
  · obtain ⟨e2, q2, q3, q4, q5, q6⟩ := id hsm
    have e3 : s₂ = ({ (U.calling g mk a).setFrames s₂.frames with heap := s₂.heap, slotsUsed := s₂.slotsUsed } : State).setVm s₂.vm := by
      have : s₂ = ({ s₂ with vm := (U.calling g mk a).vm } : State).setVm s₂.vm := rfl
      rw [e2] at this
      exact this
    have hf₂ : s₂.frames = .throwing q :: .java g :: U.frames.tail := hend
    have hW' : U.WarmedH s₂.vm := hW₂
    have hs₂ : s₂ = ((({ U with heap := s₂.heap, slotsUsed := s₂.slotsUsed } : State).setVm s₂.vm).setTop g).pushFrame (.throwing q) := by
      refine e3.trans ?_
      rw [hf₂, State.calling_eq h.top, State.setFrames_setFrames, State.pushFrame, State.frames_setTop _ hr', State.setTop_of_frames _ hr', State.setFrames_setFrames, hr]
      rfl
    have hsame : U.sameButNew ({ U with heap := s₂.heap, slotsUsed := s₂.slotsUsed } : State) L mc ms := by
      refine ⟨?_, q2, q3, q4, q5, q6⟩
      obtain ⟨t, ht, -⟩ := State.frames_cons hr
      show ({ U with heap := s₂.heap, slotsUsed := s₂.slotsUsed } : State) = { U.setFrames U.frames with heap := s₂.heap, slotsUsed := s₂.slotsUsed }
      rw [State.setFrames_self ht]
    subst hg
    refine Or.inr ⟨q, ⟨(({ U with heap := s₂.heap, slotsUsed := s₂.slotsUsed } : State).setVm s₂.vm), Ls ++ L, c0 + mc, s0 + ms⟩,
      ⟨X.admits, X.cas, X.clock, X.frames, X.room, X.hears, X.method, X.code, (X.here.setHeapUsed s₂.heap s₂.slotsUsed).setVm hW'.alike, X.tail, State.WarmedH.trans X.warmed hW', X.limits, X.bytes, X.same.trans (hsame.setVm s.vm)⟩,
      ⟨g, mk, s₂, L, E, ce, rfl, rfl, hx, hce, hcv, hcl, rfl, hL, rfl, rfl⟩, ?_⟩
    show Steps p.tables e below _ (((({ U with heap := s₂.heap, slotsUsed := s₂.slotsUsed } : State).setVm s₂.vm).setTop g).pushFrame (.throwing q))
    rw [← hs₂]
    exact hsteps
end
variable {p : Program} {l : Launch} {e : Env} {R : Room} {s : State} {m : MethodId} {args : Array Value} {below : List Frame} {meth : Method} {c : Code} {T : State} {H : Heap} {locs : List Loc} {cells slots : Nat}
theorem vx_callVX (X : Stand p l e R s m args below meth c T locs cells slots) (hexec : p.tables.exec = Jvm.exec) {own C : String} {index : Nat} {y : MethodName} {bytes : ByteArray} {maxL : Nat} {ret : Option FieldType} {hh : List (Nat × Nat × Nat × Nat)}
    (hown : s.vm.findClass own = some m.cls) (hlink : (Cond.methodLink own index y).before args s = true) (hinst : (Cond.instanceMethod y).before args s = true) (hsel : (Cond.selects C y y).before args s = true)
    (hcode : (Cond.codeWith y bytes maxL ret hh).before args s = true) (hy : y.cls ≠ "java/lang/invoke/MethodHandle" ∧ y.cls ≠ "java/lang/invoke/VarHandle")
    {W9 : Nat} {Pre : Pt → Array Value → Prop} {Post : Pt → Array Value → Option Value → Pt → Prop} {PostX : Pt → Array Value → Addr → Pt → Prop} (hK : vx_Back l R p e below s args y 3 W9 Pre Post PostX)
    {b : Addr} {cellB : Cell} (hcell : T.heap[b]? = some cellB) (hobj : cellB.vm.isStatics = false) (hcls : s.vm.findClass C = some cellB.cls)
    {g : JFrame} (hg : g.method = m) (hsize : g.locals.size = c.maxLocals) {argsL rest : List Value} (hlen : ∀ sig, parseMethodDescriptor y.desc = some sig → argsL.length = sig.parameters.length)
    (hstack : g.stack = argsL.reverse ++ .ref b :: rest) (hW : 2 * g.monitorRoom + (rest.map fun v => v.category).sum ≤ W9) (hdg : decode c.code g.pc = .ok (.invokevirtual index, 3))
    (hpre : ∀ vm₁, s.WarmedH vm₁ → Pre ⟨T.setVm vm₁, locs, cells, slots⟩ (Value.ref b :: argsL).toArray) :
    (∃ (v : Option Value) (vm₁ : Vm) (B : Pt), s.WarmedH vm₁ ∧ Stand p l e R s m args below meth c B.U B.locs B.cells B.slots ∧ Post ⟨T.setVm vm₁, locs, cells, slots⟩ (Value.ref b :: argsL).toArray v B ∧
      ∀ target, Steps p.tables e below (B.U.setTop { g with pc := g.pc + 3, stack := v.toList ++ rest }) target → Steps p.tables e below (T.setTop g) target) ∨
    (∃ (q : Addr) (vm₁ : Vm) (B : Pt), s.WarmedH vm₁ ∧ Stand p l e R s m args below meth c B.U B.locs B.cells B.slots ∧ PostX ⟨T.setVm vm₁, locs, cells, slots⟩ (Value.ref b :: argsL).toArray q B ∧
      Steps p.tables e below (T.setTop g) ((B.U.setTop { g with stack := rest }).pushFrame (.throwing q))) := by
  obtain ⟨mk, methM, hnamed, hmethM, hstM, habM⟩ := Cond.instanceMethod_spec hinst
  obtain ⟨m8, methM', cM, hn8, hmethM', -, -, -, -, -, -, hsigM⟩ := Cond.codeWith_spec hcode
  cases Option.some.inj (hn8.symm.trans hnamed)
  cases hmethM.symm.trans hmethM'
  obtain ⟨c2, r2, m2, q1, q2, q3, q4, kP, hkP, hkPi⟩ := Cond.selects_spec hsel
  cases hcls.symm.trans q1
  cases (State.methodFound?_of_named hnamed hy).symm.trans q2
  cases hnamed.symm.trans q3
  have hselP : selectMethod e.platform s.vm cellB.cls mk = .method mk := by rw [Launch.admits_selectMethod X.admits]; exact q4
  obtain ⟨vm₁, X₁, hstep₁⟩ := X.invokevirtual hexec hown hlink hnamed hmethM hstM hkP hkPi hy (a := b) (cell := cellB) hcell
    (fun z h => by rw [h] at hobj; cases hobj) hselP hmethM habM hkP hkPi (g := g) hg (argsL := argsL) (rest := rest) (hlen _ hsigM) hstack hdg
  rcases hK m meth c ⟨T.setVm vm₁, locs, cells, slots⟩ { g with stack := rest } (.invokevirtual index) mk (Value.ref b :: argsL).toArray X₁ hg hsize hdg hW (X₁.named hnamed) (hpre vm₁ X₁.warmed) with ⟨v, B, X', hpost, hsteps⟩ | ⟨q, B, X', hpost, hsteps⟩
  · exact Or.inl ⟨v, vm₁, B, X₁.warmed, X', hpost, fun target h => hstep₁ _ fun acts => by rw [doInvoke_state]; exact hsteps.trans h⟩
  · exact Or.inr ⟨q, vm₁, B, X₁.warmed, X', hpost, hstep₁ _ fun acts => by rw [doInvoke_state]; exact hsteps⟩
theorem vx_callSX (X : Stand p l e R s m args below meth c T locs cells slots) (hexec : p.tables.exec = Jvm.exec) {own : String} {index : Nat} {y : MethodName} {bytes : ByteArray} {maxL : Nat} {ret : Option FieldType} {hh : List (Nat × Nat × Nat × Nat)}
    (hown : s.vm.findClass own = some m.cls) (hlink : (Cond.methodLink own index y).before args s = true) (hstat : (Cond.static y).before args s = true) (hinit : (Cond.initialized y.cls).before args s = true)
    (hcode : (Cond.codeWith y bytes maxL ret hh).before args s = true) (hy : y.cls ≠ "java/lang/invoke/MethodHandle" ∧ y.cls ≠ "java/lang/invoke/VarHandle")
    {W9 : Nat} {Pre : Pt → Array Value → Prop} {Post : Pt → Array Value → Option Value → Pt → Prop} {PostX : Pt → Array Value → Addr → Pt → Prop} (hK : vx_Back l R p e below s args y 3 W9 Pre Post PostX)
    {g : JFrame} (hg : g.method = m) (hsize : g.locals.size = c.maxLocals) {argsL rest : List Value} (hlen : ∀ sig, parseMethodDescriptor y.desc = some sig → argsL.length = sig.parameters.length)
    (hstack : g.stack = argsL.reverse ++ rest) (hW : 2 * g.monitorRoom + (rest.map fun v => v.category).sum ≤ W9) (hdg : decode c.code g.pc = .ok (.invokestatic index, 3))
    (hpre : ∀ vm₁, s.WarmedH vm₁ → Pre ⟨T.setVm vm₁, locs, cells, slots⟩ argsL.toArray) :
    (∃ (v : Option Value) (vm₁ : Vm) (B : Pt), s.WarmedH vm₁ ∧ Stand p l e R s m args below meth c B.U B.locs B.cells B.slots ∧ Post ⟨T.setVm vm₁, locs, cells, slots⟩ argsL.toArray v B ∧
      ∀ target, Steps p.tables e below (B.U.setTop { g with pc := g.pc + 3, stack := v.toList ++ rest }) target → Steps p.tables e below (T.setTop g) target) ∨
    (∃ (q : Addr) (vm₁ : Vm) (B : Pt), s.WarmedH vm₁ ∧ Stand p l e R s m args below meth c B.U B.locs B.cells B.slots ∧ PostX ⟨T.setVm vm₁, locs, cells, slots⟩ argsL.toArray q B ∧
      Steps p.tables e below (T.setTop g) ((B.U.setTop { g with stack := rest }).pushFrame (.throwing q))) := by
  obtain ⟨mk, methM, cM, hnamed, hmethM, -, -, -, -, -, -, hsigM⟩ := Cond.codeWith_spec hcode
  have hstatic : methM.isStatic = true := Cond.static_spec hnamed hmethM hstat
  obtain ⟨kP, hkP, -⟩ := className_of_methodNamed hnamed
  have hinitP : kP.init = .initialized := Cond.initialized_spec (findClass_of_methodNamed hnamed) hkP hinit
  obtain ⟨vm₁, X₁, hstep₁⟩ := X.invokestatic hexec hown hlink hnamed hmethM hstatic hkP hinitP hy (g := g) hg (argsL := argsL) (rest := rest) (hlen _ hsigM) hstack hdg
  rcases hK m meth c ⟨T.setVm vm₁, locs, cells, slots⟩ { g with stack := rest } (.invokestatic index) mk argsL.toArray X₁ hg hsize hdg hW (X₁.named hnamed) (hpre vm₁ X₁.warmed) with ⟨v, B, X', hpost, hsteps⟩ | ⟨q, B, X', hpost, hsteps⟩
  · exact Or.inl ⟨v, vm₁, B, X₁.warmed, X', hpost, fun target h => hstep₁ _ fun acts => by rw [doInvoke_state]; exact hsteps.trans h⟩
  · exact Or.inr ⟨q, vm₁, B, X₁.warmed, X', hpost, hstep₁ _ fun acts => by rw [doInvoke_state]; exact hsteps⟩
theorem vx_callVW (X : Stand p l e R s m args below meth c T locs cells slots) (hexec : p.tables.exec = Jvm.exec) {own C : String} {index : Nat} {y : MethodName} {bytes : ByteArray} {maxL : Nat} {ret : Option FieldType} {hh : List (Nat × Nat × Nat × Nat)}
    (hown : s.vm.findClass own = some m.cls) (hlink : (Cond.methodLink own index y).before args s = true) (hinst : (Cond.instanceMethod y).before args s = true) (hsel : (Cond.selects C y y).before args s = true)
    (hcode : (Cond.codeWith y bytes maxL ret hh).before args s = true) (hy : y.cls ≠ "java/lang/invoke/MethodHandle" ∧ y.cls ≠ "java/lang/invoke/VarHandle")
    {W9 : Nat} {Pre : Pt → Array Value → Prop} {Post : Pt → Array Value → Option Value → Pt → Prop} (hK : Back l R p e below s args y 3 W9 Pre Post)
    {b : Addr} {cellB : Cell} (hcell : T.heap[b]? = some cellB) (hobj : cellB.vm.isStatics = false) (hcls : s.vm.findClass C = some cellB.cls)
    {g : JFrame} (hg : g.method = m) (hsize : g.locals.size = c.maxLocals) {argsL rest : List Value} (hlen : ∀ sig, parseMethodDescriptor y.desc = some sig → argsL.length = sig.parameters.length)
    (hstack : g.stack = argsL.reverse ++ .ref b :: rest) (hW : 2 * g.monitorRoom + (rest.map fun v => v.category).sum ≤ W9) (hdg : decode c.code g.pc = .ok (.invokevirtual index, 3))
    (hpre : ∀ vm₁, s.WarmedH vm₁ → Pre ⟨T.setVm vm₁, locs, cells, slots⟩ (Value.ref b :: argsL).toArray) :
    ∃ (v : Option Value) (vm₁ : Vm) (B : Pt), s.WarmedH vm₁ ∧ Stand p l e R s m args below meth c B.U B.locs B.cells B.slots ∧ Post ⟨T.setVm vm₁, locs, cells, slots⟩ (Value.ref b :: argsL).toArray v B ∧
      ∀ target, Steps p.tables e below (B.U.setTop { g with pc := g.pc + 3, stack := v.toList ++ rest }) target → Steps p.tables e below (T.setTop g) target := by
  obtain ⟨mk, methM, hnamed, hmethM, hstM, habM⟩ := Cond.instanceMethod_spec hinst
  obtain ⟨m8, methM', cM, hn8, hmethM', -, -, -, -, -, -, hsigM⟩ := Cond.codeWith_spec hcode
  cases Option.some.inj (hn8.symm.trans hnamed)
  cases hmethM.symm.trans hmethM'
  obtain ⟨c2, r2, m2, q1, q2, q3, q4, kP, hkP, hkPi⟩ := Cond.selects_spec hsel
  cases hcls.symm.trans q1
  cases (State.methodFound?_of_named hnamed hy).symm.trans q2
  cases hnamed.symm.trans q3
  have hselP : selectMethod e.platform s.vm cellB.cls mk = .method mk := by rw [Launch.admits_selectMethod X.admits]; exact q4
  obtain ⟨vm₁, X₁, hstep₁⟩ := X.invokevirtual hexec hown hlink hnamed hmethM hstM hkP hkPi hy (a := b) (cell := cellB) hcell
    (fun z h => by rw [h] at hobj; cases hobj) hselP hmethM habM hkP hkPi (g := g) hg (argsL := argsL) (rest := rest) (hlen _ hsigM) hstack hdg
  obtain ⟨v, B, X', hpost, hsteps⟩ := hK m meth c ⟨T.setVm vm₁, locs, cells, slots⟩ { g with stack := rest } (.invokevirtual index) mk (Value.ref b :: argsL).toArray X₁ hg hsize hdg hW (X₁.named hnamed) (hpre vm₁ X₁.warmed)
  exact ⟨v, vm₁, B, X₁.warmed, X', hpost, fun target h => hstep₁ _ fun acts => by rw [doInvoke_state]; exact hsteps.trans h⟩
abbrev vx_CVW (R : Room) (s : State) (args : Array Value) (own C : String) (index : Nat) (y : MethodName) (bytes : ByteArray) (maxL : Nat) (ret : Option FieldType) (hh : List (Nat × Nat × Nat × Nat)) (ws : List Cond) (rm : Room) (mc ms n : Nat) : Prop :=
  (rm.cells = mc ∧ rm.slots = ms ∧ rm.frames + 1 ≤ R.frames ∧ 8 + (maxL + 11) + rm.locals ≤ R.locals ∧ (∀ w ∈ ws, ∀ (a' : Array Value) (U : State), s.WarmedH U.vm → w.before a' U = true) ∧ Cond.codeWith y bytes maxL ret hh ∈ ws) ∧
  (Cond.codeWith y bytes maxL ret hh).before args s = true ∧ (Cond.initialized y.cls).before args s = true ∧ (y.cls ≠ "java/lang/invoke/MethodHandle" ∧ y.cls ≠ "java/lang/invoke/VarHandle") ∧
  (∀ sig, parseMethodDescriptor y.desc = some sig → n = sig.parameters.length) ∧ (Cond.methodLink own index y).before args s = true ∧ (Cond.instanceMethod y).before args s = true ∧ (Cond.selects C y y).before args s = true
theorem vx_cwVW {own C : String} {index maxL mc ms : Nat} {y : MethodName} {bytes : ByteArray} {ret : Option FieldType} {hh : List (Nat × Nat × Nat × Nat)} {Ts ws ws' : List Cond} {rm : Room} (n : Nat) (ht : ∀ w ∈ Ts, w.before args s = true) (hT : GoodIn Ts (wsV own index C y ws)) (hw : ws = Cond.codeWith y bytes maxL ret hh :: ws') (hrc : rm.cells = mc) (hrs : rm.slots = ms)
    (hd : y.cls = C ∧ y.cls ≠ "java/lang/invoke/MethodHandle" ∧ y.cls ≠ "java/lang/invoke/VarHandle" ∧ (parseMethodDescriptor y.desc).map (fun d => d.parameters.length) = some n) (hR : rm.frames + 1 ≤ R.frames ∧ 8 + (maxL + 11) + rm.locals ≤ R.locals) :
    vx_CVW R s args own C index y bytes maxL ret hh ws rm mc ms n := by
  obtain ⟨hC, hd⟩ := hd
  subst hC
  have ok : ∀ w ∈ wsV own index y.cls y ws, w.before args s = true := fun w h => ht w (hT w h).1
  have hG : GoodIn Ts ws := fun w h => hT w (by unfold wsV; exact List.mem_append_right _ h)
  have hc : Cond.codeWith y bytes maxL ret hh ∈ ws := by rw [hw]; exact List.mem_cons_self
  refine ⟨⟨hrc, hrs, hR.1, hR.2, pay_in ht hG, hc⟩, ht _ (hG _ hc).1, ok _ (by simp [wsV]), ⟨hd.1, hd.2.1⟩, fun sig h => ?_, ok _ (by simp [wsV]), ok _ (by simp [wsV]), ok _ (by simp [wsV])⟩
  have h2 := hd.2.2
  rw [h] at h2
  exact (Option.some.inj h2).symm
theorem vx_runVW {y : MethodName} {bytes cc : ByteArray} {maxL nL mc ms n index : Nat} {ret : Option FieldType} {hh : List (Nat × Nat × Nat × Nat)} {ws : List Cond} {rm : Room} {Pc : Array Value → State → Prop} {Qc : Array Value → State → Outcome → State → Prop} {free : Addr → Prop} {Ts : List Cond} {own C : String} {b : Addr} {As rest : List Value} {g : JFrame}
    (S : CallFix p m c cc nL s args Ts own) (hM : Met l y ws rm Pc Qc mc ms free) (cw : vx_CVW R s args own C index y bytes maxL ret hh ws rm mc ms n) (hp : PreV s H C b Pc As)
    (hg : g.method = m) (hn : As.length = n) (hsize : g.locals.size = nL) (hstack : g.stack = As.reverse ++ .ref b :: rest) (hW : 2 * g.monitorRoom + (rest.map fun v => v.category).sum ≤ 8) (hdg : decode cc g.pc = .ok (.invokevirtual index, 3)) (hf : cells + mc ≤ R.cells ∧ slots + ms ≤ R.slots) :
    va_Run p l e R s m args below meth c H locs cells slots mc ms g rest (Qc (Value.ref b :: As).toArray) free := by
  obtain ⟨⟨hrc, hrs, hfr, hlo, hws, hcw⟩, hcode, hini, hy, hlen, hl, hin, hse⟩ := cw
  have hK : Back l R p e below s args y 3 8 (PreOf R mc ms Pc) (PostOf Qc mc ms free) := va_backW (hh := hh) (bytes := bytes) (maxL := maxL) (ret := ret) hM hp.1 hrc hrs hfr hlo hws hcw (fun a' U hW => word_at hW (Or.inl (by first | rfl | simp [Cond.onTables, Cond.keeps, Cond.steady])) hini)
  obtain ⟨hx, hb, hml, ho, -⟩ := S
  obtain ⟨-, ⟨cellB, hcB, hoB, hclB⟩, hPc⟩ := hp
  intro T hT X
  obtain ⟨v, vm₁, ⟨U', l2, c2, s2⟩, hW₁, X', ⟨g', mk, t, L, e1, e2, hq, h1, hL, h2, h3⟩, st⟩ := vx_callVW X hx (C := C) (hh := hh) (bytes := bytes) (maxL := maxL) (ret := ret) ho hl hin hse hcode hy hK (by rw [hT]; exact hcB) hoB hclB hg (hsize.trans hml.symm) (argsL := As) (rest := rest) (fun sig h => hn.trans (hlen sig h)) hstack hW (by rw [hb]; exact hdg)
    (fun vm₁ hW₁ => ⟨hf.1, hf.2, hPc (T.setVm vm₁) hT hW₁⟩)
  dsimp only [Pt.U, Pt.locs, Pt.cells, Pt.slots] at X' e1 e2 h1 h2 h3 st
  subst h1; subst h2; subst h3
  exact ⟨v, (T.setVm vm₁).calling g' mk (Value.ref b :: As).toArray, t, U', L, hT, X', hL, e1, e2, hq, st⟩
section
variable {y : MethodName} {bytes cc : ByteArray} {maxL nL mc ms n index : Nat} {ret : Option FieldType} {ws : List Cond} {rm : Room} {Pc : Array Value → State → Prop} {Qc : Array Value → State → Outcome → State → Prop} {XC : String → State → State → Prop} {free : Addr → Prop} {Ts : List Cond} {own C : String} {b : Addr} {As rest : List Value} {g : JFrame}
theorem vx_runVX {hh : List (Nat × Nat × Nat × Nat)} (S : CallFix p m c cc nL s args Ts own) (hM : vx_Met l y ws rm Pc Qc XC mc ms free) (cw : vx_CVW R s args own C index y bytes maxL ret hh ws rm mc ms n) (hp : PreV s H C b Pc As)
    (hg : g.method = m) (hn : As.length = n) (hsize : g.locals.size = nL) (hstack : g.stack = As.reverse ++ .ref b :: rest) (hW : 2 * g.monitorRoom + (rest.map fun v => v.category).sum ≤ 8) (hdg : decode cc g.pc = .ok (.invokevirtual index, 3)) (hf : cells + mc ≤ R.cells ∧ slots + ms ≤ R.slots) :
    vx_Run p l e R s m args below meth c H locs cells slots mc ms g rest (Qc (Value.ref b :: As).toArray) XC free := by
  obtain ⟨⟨hrc, hrs, hfr, hlo, hws, hcw⟩, hcode, hini, hy, hlen, hl, hin, hse⟩ := cw
  have hK : vx_Back l R p e below s args y 3 8 (PreOf R mc ms Pc) (PostOf Qc mc ms free) (vx_Post XC mc ms free) := vx_backW (hh := hh) (bytes := bytes) (maxL := maxL) (ret := ret) hM hp.1 hrc hrs hfr hlo hws hcw (fun a' U hW => word_at hW (Or.inl (by first | rfl | simp [Cond.onTables, Cond.keeps, Cond.steady])) hini)
  obtain ⟨hx, hb, hml, ho, -⟩ := S
  obtain ⟨-, ⟨cellB, hcB, hoB, hclB⟩, hPc⟩ := hp
  intro T hT X
  rcases vx_callVX X hx (C := C) (hh := hh) (bytes := bytes) (maxL := maxL) (ret := ret) ho hl hin hse hcode hy hK (by rw [hT]; exact hcB) hoB hclB hg (hsize.trans hml.symm) (argsL := As) (rest := rest) (fun sig h => hn.trans (hlen sig h)) hstack hW (by rw [hb]; exact hdg)
    (fun vm₁ hW₁ => ⟨hf.1, hf.2, hPc (T.setVm vm₁) hT hW₁⟩) with ⟨v, vm₁, ⟨U', l2, c2, s2⟩, hW₁, X', ⟨g', mk, t, L, e1, e2, hq, h1, hL, h2, h3⟩, st⟩ | ⟨q, vm₁, ⟨U', l2, c2, s2⟩, hW₁, X', ⟨g', mk, t, L, E, ce, e1, e2, hq, hce, hcv, hcl, h1, hL, h2, h3⟩, st⟩
  · dsimp only [Pt.U, Pt.locs, Pt.cells, Pt.slots] at X' e1 e2 h1 h2 h3 st
    subst h1; subst h2; subst h3
    exact Or.inl ⟨v, (T.setVm vm₁).calling g' mk (Value.ref b :: As).toArray, t, U', L, hT, X', hL, e1, e2, hq, st⟩
  · dsimp only [Pt.U, Pt.locs, Pt.cells, Pt.slots] at X' e1 e2 h1 h2 h3 st hcl
    subst h1; subst h2; subst h3
    exact Or.inr ⟨q, (T.setVm vm₁).calling g' mk (Value.ref b :: As).toArray, t, U', L, E, ce, hT, X', hL, e1, e2, hq, hce, hcv, vx_cls hW₁ hcl, st⟩
theorem vx_runSX {hh : List (Nat × Nat × Nat × Nat)} (S : CallFix p m c cc nL s args Ts own) (hM : vx_Met l y ws rm Pc Qc XC mc ms free) (cw : vx_CSW R s args own index y bytes maxL ret hh ws rm mc ms n) (hp : PreS s H Pc As)
    (hg : g.method = m) (hn : As.length = n) (hsize : g.locals.size = nL) (hstack : g.stack = As.reverse ++ rest) (hW : 2 * g.monitorRoom + (rest.map fun v => v.category).sum ≤ 8) (hdg : decode cc g.pc = .ok (.invokestatic index, 3)) (hf : cells + mc ≤ R.cells ∧ slots + ms ≤ R.slots) :
    vx_Run p l e R s m args below meth c H locs cells slots mc ms g rest (Qc As.toArray) XC free := by
  obtain ⟨⟨hrc, hrs, hfr, hlo, hws, hcw⟩, hcode, hini, hy, hlen, hl, hstt⟩ := cw
  have hK : vx_Back l R p e below s args y 3 8 (PreOf R mc ms Pc) (PostOf Qc mc ms free) (vx_Post XC mc ms free) := vx_backW (hh := hh) (bytes := bytes) (maxL := maxL) (ret := ret) hM hp.1 hrc hrs hfr hlo hws hcw (fun a' U hW => word_at hW (Or.inl (by first | rfl | simp [Cond.onTables, Cond.keeps, Cond.steady])) hini)
  obtain ⟨hx, hb, hml, ho, -⟩ := S
  intro T hT X
  rcases vx_callSX X hx (hh := hh) (bytes := bytes) (maxL := maxL) (ret := ret) ho hl hstt hini hcode hy hK hg (hsize.trans hml.symm) (argsL := As) (rest := rest) (fun sig h => hn.trans (hlen sig h)) hstack hW (by rw [hb]; exact hdg)
    (fun vm₁ hW₁ => ⟨hf.1, hf.2, hp.2 (T.setVm vm₁) hT hW₁⟩) with ⟨v, vm₁, ⟨U', l2, c2, s2⟩, hW₁, X', ⟨g', mk, t, L, e1, e2, hq, h1, hL, h2, h3⟩, st⟩ | ⟨q, vm₁, ⟨U', l2, c2, s2⟩, hW₁, X', ⟨g', mk, t, L, E, ce, e1, e2, hq, hce, hcv, hcl, h1, hL, h2, h3⟩, st⟩
  · dsimp only [Pt.U, Pt.locs, Pt.cells, Pt.slots] at X' e1 e2 h1 h2 h3 st
    subst h1; subst h2; subst h3
    exact Or.inl ⟨v, (T.setVm vm₁).calling g' mk As.toArray, t, U', L, hT, X', hL, e1, e2, hq, st⟩
  · dsimp only [Pt.U, Pt.locs, Pt.cells, Pt.slots] at X' e1 e2 h1 h2 h3 st hcl
    subst h1; subst h2; subst h3
    exact Or.inr ⟨q, (T.setVm vm₁).calling g' mk As.toArray, t, U', L, E, ce, hT, X', hL, e1, e2, hq, hce, hcv, vx_cls hW₁ hcl, st⟩
end
end VXH
theorem vx_ofWH {l : Launch} {y : MethodName} {ws ws' : List Cond} {rm : Room} {Pc : Array Value → State → Prop} {Qc : Array Value → State → Outcome → State → Prop} {XC : String → State → State → Prop} {mc ms : Nat} {free : Addr → Prop} {cc : ByteArray} {maxL : Nat} {ret : Option FieldType} {hh : List (Nat × Nat × Nat × Nat)}
    (hy : plainName y.cls = true) (hw : ws = Cond.codeWith y cc maxL ret hh :: ws')
    (body : ∀ p e s m args below meth c s₁, BodyLoose p l y (headSpec ws rm) cc maxL ret e s m args below meth c s₁ → c.maxLocals = maxL → Pc args s →
      W p l e (headSpec ws rm).room s m args below meth c s.heap [] 0 0 (vx_MQ below Qc XC args s mc ms free) (entryFrame m args maxL)) : vx_Met l y ws rm Pc Qc XC mc ms free := by
  refine MetFree.of_bodyS (code := cc) (maxLocals := maxL) (ret := ret) hy ?_ ?_
  · intro args s m h hn
    obtain ⟨m9, meth, c, hn9, h1, h2, h3, h4, -, h5, h6, -⟩ := Cond.codeWith_spec (atoms_spec (ws := ws) h _ (by rw [hw]; exact List.mem_cons_self))
    cases hn.symm.trans hn9
    exact ⟨meth, c, h1, h2, h3, h4, h5, h6⟩
  · intro p e s m args below meth c s₁ B hml hP _
    have hh0 : s₁.heap = s.heap := by rw [B.state]; rfl
    obtain ⟨t, a1, o, b1, b2, b3⟩ := body p e s m args below meth c s₁ B hml hP s₁ hh0 (Stand.of_body B)
    exact ⟨t, o, a1, b1, b2, b3⟩
/-! ===== END ===== -/
end
section
/-! ===== BEGIN printed: names, fields, word lists, decode rows ===== -/
def RX0 : String := "NumberGoblets$Stretch"
def TX0 : u_T := fun k => match k with
  | 0 => ("NumberGoblets$Stretch", "first", "I", true)
  | 1 => ("NumberGoblets$Stretch", "last", "I", false)
  | 2 => ("NumberGoblets$Stretch", "place", "I", false)
  | _ => ("NumberGoblets$Stretch", "next", "LNumberGoblets$Stretch;", false)
def tyX0 : Nat → FieldType := fun k => match k with
  | 0 => .int
  | 1 => .int
  | 2 => .int
  | _ => .object "NumberGoblets$Stretch"
abbrev wsX00 : List Cond := u_ws RX0 TX0 4
theorem nmX0 : ∀ a, a < 4 → ∀ b, b < 4 → a ≠ b → (TX0 a).2.1 ≠ (TX0 b).2.1 := by decide +kernel
theorem tyX0_ok : ∀ k, k < 4 → parseFieldDescriptor (TX0 k).2.2.1 = some (tyX0 k) := by decide +kernel
abbrev cX0_init : ByteArray := prog_2_method_1_code
def yX0_init : MethodName := ⟨RX0, "<init>", "(IIILNumberGoblets$Stretch;)V"⟩
abbrev cX0_length : ByteArray := prog_2_method_2_code
def yX0_length : MethodName := ⟨RX0, "length", "()I"⟩
abbrev cX0_shortenTo : ByteArray := prog_2_method_3_code
def yX0_shortenTo : MethodName := ⟨RX0, "shortenTo", "(I)V"⟩
abbrev cX0_absorbNextOnesOfSamePlace : ByteArray := prog_2_method_4_code
def yX0_absorbNextOnesOfSamePlace : MethodName := ⟨RX0, "absorbNextOnesOfSamePlace", "()V"⟩
def RX1 : String := "NumberGoblets"
def TX1 : u_T := fun k => match k with
  | 0 => ("NumberGoblets", "lowest", "LNumberGoblets$Stretch;", true)
  | 1 => ("NumberGoblets", "size", "I", false)
  | _ => ("NumberGoblets", "round", "I", false)
def tyX1 : Nat → FieldType := fun k => match k with
  | 0 => .object "NumberGoblets$Stretch"
  | 1 => .int
  | _ => .int
abbrev wsX10 : List Cond := u_ws RX1 TX1 3
theorem nmX1 : ∀ a, a < 3 → ∀ b, b < 3 → a ≠ b → (TX1 a).2.1 ≠ (TX1 b).2.1 := by decide +kernel
theorem tyX1_ok : ∀ k, k < 3 → parseFieldDescriptor (TX1 k).2.2.1 = some (tyX1 k) := by decide +kernel
abbrev cX1_init : ByteArray := prog_1_method_1_code
def yX1_init : MethodName := ⟨RX1, "<init>", "()V"⟩
abbrev cX1_enlarge : ByteArray := prog_1_method_2_code
def yX1_enlarge : MethodName := ⟨RX1, "enlarge", "(I)I"⟩
abbrev cX1_pour : ByteArray := prog_1_method_3_code
def yX1_pour : MethodName := ⟨RX1, "pour", "(II)I"⟩
abbrev cX1_drink : ByteArray := prog_1_method_4_code
def yX1_drink : MethodName := ⟨RX1, "drink", "(I)I"⟩
abbrev cX1_pourBack : ByteArray := prog_1_method_5_code
def yX1_pourBack : MethodName := ⟨RX1, "pourBack", "(I)I"⟩
abbrev cX1_share : ByteArray := prog_1_method_6_code
def yX1_share : MethodName := ⟨RX1, "share", "(III)I"⟩
abbrev cX1_giveBack : ByteArray := prog_1_method_7_code
def yX1_giveBack : MethodName := ⟨RX1, "giveBack", "(I)I"⟩
abbrev cX1_spill : ByteArray := prog_1_method_8_code
def yX1_spill : MethodName := ⟨RX1, "spill", "(I)I"⟩
abbrev cX1_nextRound : ByteArray := prog_1_method_9_code
def yX1_nextRound : MethodName := ⟨RX1, "nextRound", "()I"⟩
abbrev cX1_size : ByteArray := prog_1_method_10_code
def yX1_size : MethodName := ⟨RX1, "size", "()I"⟩
abbrev cX1_round : ByteArray := prog_1_method_11_code
def yX1_round : MethodName := ⟨RX1, "round", "()I"⟩
abbrev cX1_inJug : ByteArray := prog_1_method_12_code
def yX1_inJug : MethodName := ⟨RX1, "inJug", "()I"⟩
abbrev cX1_ranges : ByteArray := prog_1_method_13_code
def yX1_ranges : MethodName := ⟨RX1, "ranges", "()I"⟩
abbrev cX1_rangeFrom : ByteArray := prog_1_method_14_code
def yX1_rangeFrom : MethodName := ⟨RX1, "rangeFrom", "(I)I"⟩
abbrev cX1_rangeTo : ByteArray := prog_1_method_15_code
def yX1_rangeTo : MethodName := ⟨RX1, "rangeTo", "(I)I"⟩
abbrev cX1_longestRange : ByteArray := prog_1_method_16_code
def yX1_longestRange : MethodName := ⟨RX1, "longestRange", "()I"⟩
abbrev cX1_inGoblet : ByteArray := prog_1_method_17_code
def yX1_inGoblet : MethodName := ⟨RX1, "inGoblet", "(I)I"⟩
abbrev cX1_rangesOf : ByteArray := prog_1_method_18_code
def yX1_rangesOf : MethodName := ⟨RX1, "rangesOf", "(I)I"⟩
abbrev cX1_nextOf : ByteArray := prog_1_method_19_code
def yX1_nextOf : MethodName := ⟨RX1, "nextOf", "(I)I"⟩
abbrev cX1_placeOf : ByteArray := prog_1_method_20_code
def yX1_placeOf : MethodName := ⟨RX1, "placeOf", "(I)I"⟩
abbrev cX1_drunk : ByteArray := prog_1_method_21_code
def yX1_drunk : MethodName := ⟨RX1, "drunk", "()I"⟩
abbrev cX1_spilt : ByteArray := prog_1_method_22_code
def yX1_spilt : MethodName := ⟨RX1, "spilt", "()I"⟩
abbrev cX1_lowestLeft : ByteArray := prog_1_method_23_code
def yX1_lowestLeft : MethodName := ⟨RX1, "lowestLeft", "()I"⟩
abbrev cX1_checkGoblet : ByteArray := prog_1_method_24_code
def yX1_checkGoblet : MethodName := ⟨RX1, "checkGoblet", "(I)V"⟩
abbrev cX1_checkCount : ByteArray := prog_1_method_25_code
def yX1_checkCount : MethodName := ⟨RX1, "checkCount", "(I)V"⟩
abbrev cX1_move : ByteArray := prog_1_method_26_code
def yX1_move : MethodName := ⟨RX1, "move", "(IIII)I"⟩
abbrev cX1_moveAll : ByteArray := prog_1_method_27_code
def yX1_moveAll : MethodName := ⟨RX1, "moveAll", "(II)I"⟩
abbrev cX1_joinNeighbours : ByteArray := prog_1_method_28_code
def yX1_joinNeighbours : MethodName := ⟨RX1, "joinNeighbours", "()V"⟩
abbrev cX1_numbersAt : ByteArray := prog_1_method_29_code
def yX1_numbersAt : MethodName := ⟨RX1, "numbersAt", "(I)I"⟩
abbrev cX1_numbersAtBelow : ByteArray := prog_1_method_30_code
def yX1_numbersAtBelow : MethodName := ⟨RX1, "numbersAtBelow", "(II)I"⟩
abbrev cX1_rangesAt : ByteArray := prog_1_method_31_code
def yX1_rangesAt : MethodName := ⟨RX1, "rangesAt", "(I)I"⟩
abbrev cX1_lowestAt : ByteArray := prog_1_method_32_code
def yX1_lowestAt : MethodName := ⟨RX1, "lowestAt", "(I)I"⟩
abbrev cX1_rangeOfJug : ByteArray := prog_1_method_33_code
def yX1_rangeOfJug : MethodName := ⟨RX1, "rangeOfJug", "(I)LNumberGoblets$Stretch;"⟩
def RX2 : String := "NumberGobletsModel"
def TX2 : u_T := fun k => match k with
  | _ => ("", "", "", false)
def tyX2 : Nat → FieldType := fun k => match k with
  | _ => .int
abbrev wsX20 : List Cond := u_ws RX2 TX2 0
theorem nmX2 : ∀ a, a < 0 → ∀ b, b < 0 → a ≠ b → (TX2 a).2.1 ≠ (TX2 b).2.1 := by decide +kernel
theorem tyX2_ok : ∀ k, k < 0 → parseFieldDescriptor (TX2 k).2.2.1 = some (tyX2 k) := by decide +kernel
def RJ9 : String := "java/lang/Math"
def TJ9 : u_T := fun k => match k with
  | _ => ("", "", "", false)
def tyJ9 : Nat → FieldType := fun k => match k with
  | _ => .int
abbrev wsJ90 : List Cond := u_ws RJ9 TJ9 0
theorem nmJ9 : ∀ a, a < 0 → ∀ b, b < 0 → a ≠ b → (TJ9 a).2.1 ≠ (TJ9 b).2.1 := by decide +kernel
theorem tyJ9_ok : ∀ k, k < 0 → parseFieldDescriptor (TJ9 k).2.2.1 = some (tyJ9 k) := by decide +kernel
abbrev cJ9_max_7cf53 : ByteArray := prog_9_method_65_code
def yJ9_max_7cf53 : MethodName := ⟨RJ9, "max", "(II)I"⟩
abbrev cJ9_min_7cf53 : ByteArray := prog_9_method_69_code
def yJ9_min_7cf53 : MethodName := ⟨RJ9, "min", "(II)I"⟩
def RJ0 : String := "java/lang/String"
def TJ0 : u_T := fun k => match k with
  | _ => ("", "", "", false)
def tyJ0 : Nat → FieldType := fun k => match k with
  | _ => .int
abbrev wsJ00 : List Cond := u_ws RJ0 TJ0 0
theorem nmJ0 : ∀ a, a < 0 → ∀ b, b < 0 → a ≠ b → (TJ0 a).2.1 ≠ (TJ0 b).2.1 := by decide +kernel
theorem tyJ0_ok : ∀ k, k < 0 → parseFieldDescriptor (TJ0 k).2.2.1 = some (tyJ0 k) := by decide +kernel
def RL : String := "NumberGobletsLaw"
abbrev cL_drawn : ByteArray := method_2_code
def yL_drawn : MethodName := ⟨RL, "drawn", "([III)I"⟩
abbrev cL_inGoblets : ByteArray := method_3_code
def yL_inGoblets : MethodName := ⟨RL, "inGoblets", "(LNumberGoblets;)I"⟩
abbrev cL_areRangesApart : ByteArray := method_4_code
def yL_areRangesApart : MethodName := ⟨RL, "areRangesApart", "(LNumberGoblets;)Z"⟩
abbrev cL_isAllSomewhere : ByteArray := method_5_code
def yL_isAllSomewhere : MethodName := ⟨RL, "isAllSomewhere", "(LNumberGoblets;)Z"⟩
abbrev cL_isThereAndBack : ByteArray := method_6_code
def yL_isThereAndBack : MethodName := ⟨RL, "isThereAndBack", "(LNumberGoblets;II)Z"⟩
abbrev cL_isTakenBack : ByteArray := method_7_code
def yL_isTakenBack : MethodName := ⟨RL, "isTakenBack", "(LNumberGoblets;I)Z"⟩
abbrev cL_isPassedRound : ByteArray := method_8_code
def yL_isPassedRound : MethodName := ⟨RL, "isPassedRound", "(LNumberGoblets;III)Z"⟩
abbrev cL_law : ByteArray := code
def yL_law : MethodName := ⟨RL, "law", "([I)Z"⟩
def wsX0_init : List Cond := .code yX0_init cX0_init 5 none :: ([.methodLink RX0 1 objectInit, .instanceMethod objectInit, .code objectInit ⟨#[0xb1]⟩ 1 none, .fieldLink RX0 7 "NumberGoblets$Stretch" "first" "I", .fieldLink RX0 13 "NumberGoblets$Stretch" "last" "I", .fieldLink RX0 16 "NumberGoblets$Stretch" "place" "I", .fieldLink RX0 19 "NumberGoblets$Stretch" "next" "LNumberGoblets$Stretch;"] ++ wsX00)
def wsX0_length : List Cond := .code yX0_length cX0_length 1 (some .int) :: ([.fieldLink RX0 13 "NumberGoblets$Stretch" "last" "I", .fieldLink RX0 7 "NumberGoblets$Stretch" "first" "I"] ++ wsX00)
def wsX0_shortenTo : List Cond := .code yX0_shortenTo cX0_shortenTo 3 none :: ([.fieldLink RX0 7 "NumberGoblets$Stretch" "first" "I", .classLink RX0 8 RX0, .instantiable RX0 4, .initialized RX0, .fieldLink RX0 13 "NumberGoblets$Stretch" "last" "I", .fieldLink RX0 16 "NumberGoblets$Stretch" "place" "I", .fieldLink RX0 19 "NumberGoblets$Stretch" "next" "LNumberGoblets$Stretch;", .methodLink RX0 23 yX0_length, .instanceMethod yX0_length, .selects RX0 yX0_length yX0_length, .code yX0_length cX0_length 1 (some .int), .methodLink RX0 27 yX0_init, .instanceMethod yX0_init, .code yX0_init cX0_init 5 none, .methodLink RX0 1 objectInit, .instanceMethod objectInit, .code objectInit ⟨#[0xb1]⟩ 1 none] ++ wsX00)
def wsX0_absorbNextOnesOfSamePlace : List Cond := .code yX0_absorbNextOnesOfSamePlace cX0_absorbNextOnesOfSamePlace 2 none :: ([.fieldLink RX0 19 "NumberGoblets$Stretch" "next" "LNumberGoblets$Stretch;", .fieldLink RX0 16 "NumberGoblets$Stretch" "place" "I", .fieldLink RX0 13 "NumberGoblets$Stretch" "last" "I"] ++ wsX00)
def wsX1_init : List Cond := .code yX1_init cX1_init 2 none :: ([.methodLink RX1 1 objectInit, .instanceMethod objectInit, .code objectInit ⟨#[0xb1]⟩ 1 none, .classLink RX1 7 RX0, .instantiable RX0 4, .initialized RX0, .fieldLink RX1 14 "NumberGoblets" "lowest" "LNumberGoblets$Stretch;", .fieldLink RX1 18 "NumberGoblets" "size" "I", .fieldLink RX1 22 "NumberGoblets" "round" "I", .instanceMethod yX0_init, .code yX0_init cX0_init 5 none, .methodLink RX0 1 objectInit, .fieldLink RX0 7 "NumberGoblets$Stretch" "first" "I", .fieldLink RX0 13 "NumberGoblets$Stretch" "last" "I", .fieldLink RX0 16 "NumberGoblets$Stretch" "place" "I", .fieldLink RX0 19 "NumberGoblets$Stretch" "next" "LNumberGoblets$Stretch;"] ++ wsX00 ++ wsX10)
def wsX1_joinNeighbours : List Cond := .code yX1_joinNeighbours cX1_joinNeighbours 2 none :: ([.fieldLink RX1 14 "NumberGoblets" "lowest" "LNumberGoblets$Stretch;", .instanceMethod yX0_absorbNextOnesOfSamePlace, .initialized RX0, .selects RX0 yX0_absorbNextOnesOfSamePlace yX0_absorbNextOnesOfSamePlace, .code yX0_absorbNextOnesOfSamePlace cX0_absorbNextOnesOfSamePlace 2 none, .fieldLink RX0 19 "NumberGoblets$Stretch" "next" "LNumberGoblets$Stretch;", .fieldLink RX0 16 "NumberGoblets$Stretch" "place" "I", .fieldLink RX0 13 "NumberGoblets$Stretch" "last" "I"] ++ wsX10 ++ wsX00)
def wsX1_move_r1 : List Cond := [Cond.fieldLink RX1 14 "NumberGoblets" "lowest" "LNumberGoblets$Stretch;", Cond.instanceMethod yX0_shortenTo, Cond.initialized RX0, Cond.selects RX0 yX0_shortenTo yX0_shortenTo, Cond.code yX0_shortenTo cX0_shortenTo 3 none, Cond.fieldLink RX0 7 "NumberGoblets$Stretch" "first" "I", Cond.classLink RX0 8 RX0, Cond.instantiable RX0 4, Cond.fieldLink RX0 13 "NumberGoblets$Stretch" "last" "I", Cond.fieldLink RX0 16 "NumberGoblets$Stretch" "place" "I", Cond.fieldLink RX0 19 "NumberGoblets$Stretch" "next" "LNumberGoblets$Stretch;", Cond.methodLink RX0 23 yX0_length, Cond.instanceMethod yX0_length, Cond.selects RX0 yX0_length yX0_length, Cond.code yX0_length cX0_length 1 (some .int), Cond.methodLink RX0 27 yX0_init, Cond.instanceMethod yX0_init, Cond.code yX0_init cX0_init 5 none, Cond.methodLink RX0 1 objectInit, Cond.instanceMethod objectInit, Cond.code objectInit ⟨#[0xb1]⟩ 1 none, Cond.methodLink RX1 113 yX1_joinNeighbours, Cond.instanceMethod yX1_joinNeighbours, Cond.selects RX1 yX1_joinNeighbours yX1_joinNeighbours]
def wsX1_move_r2 : List Cond := [Cond.initialized RX1, Cond.code yX1_joinNeighbours cX1_joinNeighbours 2 none, Cond.instanceMethod yX0_absorbNextOnesOfSamePlace, Cond.selects RX0 yX0_absorbNextOnesOfSamePlace yX0_absorbNextOnesOfSamePlace, Cond.code yX0_absorbNextOnesOfSamePlace cX0_absorbNextOnesOfSamePlace 2 none]
def wsX1_move : List Cond := .code yX1_move cX1_move 8 (some .int) :: ((wsX1_move_r1 ++ wsX1_move_r2) ++ wsX10 ++ wsX00)
def wsX1_numbersAtBelow : List Cond := .code yX1_numbersAtBelow cX1_numbersAtBelow 5 (some .int) :: ([.fieldLink RX1 14 "NumberGoblets" "lowest" "LNumberGoblets$Stretch;", .methodLink RX1 119 Lib.Math.min.name, .static Lib.Math.min.name, .initialized "java/lang/Math", .code Lib.Math.min.name Lib.Math.min.code 2 (some .int)] ++ wsX10 ++ wsX00)
def wsX1_numbersAt : List Cond := .code yX1_numbersAt cX1_numbersAt 2 (some .int) :: ([.methodLink RX1 73 yX1_numbersAtBelow, .instanceMethod yX1_numbersAtBelow, .selects RX1 yX1_numbersAtBelow yX1_numbersAtBelow, .initialized RX1, .code yX1_numbersAtBelow cX1_numbersAtBelow 5 (some .int), .fieldLink RX1 14 "NumberGoblets" "lowest" "LNumberGoblets$Stretch;", .methodLink RX1 119 Lib.Math.min.name, .static Lib.Math.min.name, .initialized "java/lang/Math", .code Lib.Math.min.name Lib.Math.min.code 2 (some .int)] ++ wsX10 ++ wsX00)
def wsX1_enlarge_r1 : List Cond := [Cond.classLink RX1 25 "java/lang/IllegalArgumentException", Cond.initialized "java/lang/IllegalArgumentException", Cond.fieldLink RX1 18 "NumberGoblets" "size" "I", Cond.methodLink RX1 32 yX1_move, Cond.instanceMethod yX1_move, Cond.selects RX1 yX1_move yX1_move, Cond.initialized RX1, Cond.code yX1_move cX1_move 8 (some .int), Cond.fieldLink RX1 14 "NumberGoblets" "lowest" "LNumberGoblets$Stretch;", Cond.instanceMethod yX0_shortenTo, Cond.initialized RX0, Cond.selects RX0 yX0_shortenTo yX0_shortenTo, Cond.code yX0_shortenTo cX0_shortenTo 3 none, Cond.fieldLink RX0 7 "NumberGoblets$Stretch" "first" "I", Cond.classLink RX0 8 RX0, Cond.instantiable RX0 4, Cond.fieldLink RX0 13 "NumberGoblets$Stretch" "last" "I", Cond.fieldLink RX0 16 "NumberGoblets$Stretch" "place" "I", Cond.fieldLink RX0 19 "NumberGoblets$Stretch" "next" "LNumberGoblets$Stretch;", Cond.methodLink RX0 23 yX0_length, Cond.instanceMethod yX0_length, Cond.selects RX0 yX0_length yX0_length, Cond.code yX0_length cX0_length 1 (some .int), Cond.methodLink RX0 27 yX0_init]
def wsX1_enlarge_r2 : List Cond := [Cond.instanceMethod yX0_init, Cond.code yX0_init cX0_init 5 none, Cond.methodLink RX0 1 objectInit, Cond.instanceMethod objectInit, Cond.code objectInit ⟨#[0xb1]⟩ 1 none, Cond.methodLink RX1 113 yX1_joinNeighbours, Cond.instanceMethod yX1_joinNeighbours, Cond.selects RX1 yX1_joinNeighbours yX1_joinNeighbours, Cond.code yX1_joinNeighbours cX1_joinNeighbours 2 none, Cond.instanceMethod yX0_absorbNextOnesOfSamePlace, Cond.selects RX0 yX0_absorbNextOnesOfSamePlace yX0_absorbNextOnesOfSamePlace, Cond.code yX0_absorbNextOnesOfSamePlace cX0_absorbNextOnesOfSamePlace 2 none, Cond.methodLink RX1 36 yX1_numbersAt, Cond.instanceMethod yX1_numbersAt, Cond.selects RX1 yX1_numbersAt yX1_numbersAt, Cond.code yX1_numbersAt cX1_numbersAt 2 (some .int), Cond.methodLink RX1 73 yX1_numbersAtBelow, Cond.instanceMethod yX1_numbersAtBelow, Cond.selects RX1 yX1_numbersAtBelow yX1_numbersAtBelow, Cond.code yX1_numbersAtBelow cX1_numbersAtBelow 5 (some .int), Cond.methodLink RX1 119 Lib.Math.min.name, Cond.static Lib.Math.min.name, Cond.initialized "java/lang/Math", Cond.code Lib.Math.min.name Lib.Math.min.code 2 (some .int)]
def wsX1_enlarge : List Cond := .code yX1_enlarge cX1_enlarge 2 (some .int) :: ((wsX1_enlarge_r1 ++ wsX1_enlarge_r2) ++ wsX10 ++ wsX00 ++ (vx_atS RX1 29 "java/lang/IllegalArgumentException" ["java/lang/RuntimeException", "java/lang/Exception"]).filter goodWord)
def wsX1_checkGoblet : List Cond := .code yX1_checkGoblet cX1_checkGoblet 1 none :: ([.classLink RX1 85 "java/lang/IndexOutOfBoundsException", .initialized "java/lang/IndexOutOfBoundsException"] ++ (vx_atS RX1 89 "java/lang/IndexOutOfBoundsException" ["java/lang/RuntimeException", "java/lang/Exception"]).filter goodWord)
def wsX1_checkCount : List Cond := .code yX1_checkCount cX1_checkCount 1 none :: ([.classLink RX1 25 "java/lang/IllegalArgumentException", .initialized "java/lang/IllegalArgumentException"] ++ (vx_atS RX1 29 "java/lang/IllegalArgumentException" ["java/lang/RuntimeException", "java/lang/Exception"]).filter goodWord)
def wsX1_lowestAt : List Cond := .code yX1_lowestAt cX1_lowestAt 3 (some .int) :: ([.fieldLink RX1 14 "NumberGoblets" "lowest" "LNumberGoblets$Stretch;"] ++ wsX10 ++ wsX00)
def wsX1_pour_r1 : List Cond := [Cond.classLink RX1 50 "java/lang/IllegalStateException", Cond.initialized "java/lang/IllegalStateException", Cond.methodLink RX1 40 yX1_checkGoblet, Cond.static yX1_checkGoblet, Cond.initialized RX1, Cond.code yX1_checkGoblet cX1_checkGoblet 1 none, Cond.classLink RX1 85 "java/lang/IndexOutOfBoundsException", Cond.initialized "java/lang/IndexOutOfBoundsException", Cond.methodLink RX1 44 yX1_checkCount, Cond.static yX1_checkCount, Cond.code yX1_checkCount cX1_checkCount 1 none, Cond.classLink RX1 25 "java/lang/IllegalArgumentException", Cond.initialized "java/lang/IllegalArgumentException", Cond.methodLink RX1 47 yX1_lowestAt, Cond.instanceMethod yX1_lowestAt, Cond.selects RX1 yX1_lowestAt yX1_lowestAt, Cond.code yX1_lowestAt cX1_lowestAt 3 (some .int), Cond.fieldLink RX1 14 "NumberGoblets" "lowest" "LNumberGoblets$Stretch;", Cond.methodLink RX1 32 yX1_move, Cond.instanceMethod yX1_move, Cond.selects RX1 yX1_move yX1_move, Cond.code yX1_move cX1_move 8 (some .int), Cond.instanceMethod yX0_shortenTo, Cond.initialized RX0]
def wsX1_pour_r2 : List Cond := [Cond.selects RX0 yX0_shortenTo yX0_shortenTo, Cond.code yX0_shortenTo cX0_shortenTo 3 none, Cond.fieldLink RX0 7 "NumberGoblets$Stretch" "first" "I", Cond.classLink RX0 8 RX0, Cond.instantiable RX0 4, Cond.fieldLink RX0 13 "NumberGoblets$Stretch" "last" "I", Cond.fieldLink RX0 16 "NumberGoblets$Stretch" "place" "I", Cond.fieldLink RX0 19 "NumberGoblets$Stretch" "next" "LNumberGoblets$Stretch;", Cond.methodLink RX0 23 yX0_length, Cond.instanceMethod yX0_length, Cond.selects RX0 yX0_length yX0_length, Cond.code yX0_length cX0_length 1 (some .int), Cond.methodLink RX0 27 yX0_init, Cond.instanceMethod yX0_init, Cond.code yX0_init cX0_init 5 none, Cond.methodLink RX0 1 objectInit, Cond.instanceMethod objectInit, Cond.code objectInit ⟨#[0xb1]⟩ 1 none, Cond.methodLink RX1 113 yX1_joinNeighbours, Cond.instanceMethod yX1_joinNeighbours, Cond.selects RX1 yX1_joinNeighbours yX1_joinNeighbours, Cond.code yX1_joinNeighbours cX1_joinNeighbours 2 none, Cond.instanceMethod yX0_absorbNextOnesOfSamePlace, Cond.selects RX0 yX0_absorbNextOnesOfSamePlace yX0_absorbNextOnesOfSamePlace]
def wsX1_pour_r3 : List Cond := [Cond.code yX0_absorbNextOnesOfSamePlace cX0_absorbNextOnesOfSamePlace 2 none]
def wsX1_pour : List Cond := .code yX1_pour cX1_pour 3 (some .int) :: ((wsX1_pour_r1 ++ (wsX1_pour_r2 ++ wsX1_pour_r3)) ++ wsX10 ++ wsX00 ++ (vx_atS RX1 54 "java/lang/IllegalStateException" ["java/lang/RuntimeException", "java/lang/Exception"]).filter goodWord ++ (vx_atS RX1 89 "java/lang/IndexOutOfBoundsException" ["java/lang/RuntimeException", "java/lang/Exception"]).filter goodWord ++ (vx_atS RX1 29 "java/lang/IllegalArgumentException" ["java/lang/RuntimeException", "java/lang/Exception"]).filter goodWord)
def wsX1_drink_r1 : List Cond := [Cond.classLink RX1 50 "java/lang/IllegalStateException", Cond.initialized "java/lang/IllegalStateException", Cond.methodLink RX1 40 yX1_checkGoblet, Cond.static yX1_checkGoblet, Cond.initialized RX1, Cond.code yX1_checkGoblet cX1_checkGoblet 1 none, Cond.classLink RX1 85 "java/lang/IndexOutOfBoundsException", Cond.initialized "java/lang/IndexOutOfBoundsException", Cond.methodLink RX1 47 yX1_lowestAt, Cond.instanceMethod yX1_lowestAt, Cond.selects RX1 yX1_lowestAt yX1_lowestAt, Cond.code yX1_lowestAt cX1_lowestAt 3 (some .int), Cond.fieldLink RX1 14 "NumberGoblets" "lowest" "LNumberGoblets$Stretch;", Cond.methodLink RX1 32 yX1_move, Cond.instanceMethod yX1_move, Cond.selects RX1 yX1_move yX1_move, Cond.code yX1_move cX1_move 8 (some .int), Cond.instanceMethod yX0_shortenTo, Cond.initialized RX0, Cond.selects RX0 yX0_shortenTo yX0_shortenTo, Cond.code yX0_shortenTo cX0_shortenTo 3 none, Cond.fieldLink RX0 7 "NumberGoblets$Stretch" "first" "I", Cond.classLink RX0 8 RX0, Cond.instantiable RX0 4]
def wsX1_drink_r2 : List Cond := [Cond.fieldLink RX0 13 "NumberGoblets$Stretch" "last" "I", Cond.fieldLink RX0 16 "NumberGoblets$Stretch" "place" "I", Cond.fieldLink RX0 19 "NumberGoblets$Stretch" "next" "LNumberGoblets$Stretch;", Cond.methodLink RX0 23 yX0_length, Cond.instanceMethod yX0_length, Cond.selects RX0 yX0_length yX0_length, Cond.code yX0_length cX0_length 1 (some .int), Cond.methodLink RX0 27 yX0_init, Cond.instanceMethod yX0_init, Cond.code yX0_init cX0_init 5 none, Cond.methodLink RX0 1 objectInit, Cond.instanceMethod objectInit, Cond.code objectInit ⟨#[0xb1]⟩ 1 none, Cond.methodLink RX1 113 yX1_joinNeighbours, Cond.instanceMethod yX1_joinNeighbours, Cond.selects RX1 yX1_joinNeighbours yX1_joinNeighbours, Cond.code yX1_joinNeighbours cX1_joinNeighbours 2 none, Cond.instanceMethod yX0_absorbNextOnesOfSamePlace, Cond.selects RX0 yX0_absorbNextOnesOfSamePlace yX0_absorbNextOnesOfSamePlace, Cond.code yX0_absorbNextOnesOfSamePlace cX0_absorbNextOnesOfSamePlace 2 none]
def wsX1_drink : List Cond := .code yX1_drink cX1_drink 3 (some .int) :: ((wsX1_drink_r1 ++ wsX1_drink_r2) ++ wsX10 ++ wsX00 ++ (vx_atS RX1 54 "java/lang/IllegalStateException" ["java/lang/RuntimeException", "java/lang/Exception"]).filter goodWord ++ (vx_atS RX1 89 "java/lang/IndexOutOfBoundsException" ["java/lang/RuntimeException", "java/lang/Exception"]).filter goodWord)
def wsX1_moveAll_r1 : List Cond := [Cond.methodLink RX1 32 yX1_move, Cond.instanceMethod yX1_move, Cond.selects RX1 yX1_move yX1_move, Cond.initialized RX1, Cond.code yX1_move cX1_move 8 (some .int), Cond.fieldLink RX1 14 "NumberGoblets" "lowest" "LNumberGoblets$Stretch;", Cond.instanceMethod yX0_shortenTo, Cond.initialized RX0, Cond.selects RX0 yX0_shortenTo yX0_shortenTo, Cond.code yX0_shortenTo cX0_shortenTo 3 none, Cond.fieldLink RX0 7 "NumberGoblets$Stretch" "first" "I", Cond.classLink RX0 8 RX0, Cond.instantiable RX0 4, Cond.fieldLink RX0 13 "NumberGoblets$Stretch" "last" "I", Cond.fieldLink RX0 16 "NumberGoblets$Stretch" "place" "I", Cond.fieldLink RX0 19 "NumberGoblets$Stretch" "next" "LNumberGoblets$Stretch;", Cond.methodLink RX0 23 yX0_length, Cond.instanceMethod yX0_length, Cond.selects RX0 yX0_length yX0_length, Cond.code yX0_length cX0_length 1 (some .int), Cond.methodLink RX0 27 yX0_init, Cond.instanceMethod yX0_init, Cond.code yX0_init cX0_init 5 none, Cond.methodLink RX0 1 objectInit]
def wsX1_moveAll_r2 : List Cond := [Cond.instanceMethod objectInit, Cond.code objectInit ⟨#[0xb1]⟩ 1 none, Cond.methodLink RX1 113 yX1_joinNeighbours, Cond.instanceMethod yX1_joinNeighbours, Cond.selects RX1 yX1_joinNeighbours yX1_joinNeighbours, Cond.code yX1_joinNeighbours cX1_joinNeighbours 2 none, Cond.instanceMethod yX0_absorbNextOnesOfSamePlace, Cond.selects RX0 yX0_absorbNextOnesOfSamePlace yX0_absorbNextOnesOfSamePlace, Cond.code yX0_absorbNextOnesOfSamePlace cX0_absorbNextOnesOfSamePlace 2 none]
def wsX1_moveAll : List Cond := .code yX1_moveAll cX1_moveAll 3 (some .int) :: ((wsX1_moveAll_r1 ++ wsX1_moveAll_r2) ++ wsX10 ++ wsX00)
def wsX1_pourBack_r1 : List Cond := [Cond.methodLink RX1 40 yX1_checkGoblet, Cond.static yX1_checkGoblet, Cond.initialized RX1, Cond.code yX1_checkGoblet cX1_checkGoblet 1 none, Cond.classLink RX1 85 "java/lang/IndexOutOfBoundsException", Cond.initialized "java/lang/IndexOutOfBoundsException", Cond.methodLink RX1 57 yX1_moveAll, Cond.instanceMethod yX1_moveAll, Cond.selects RX1 yX1_moveAll yX1_moveAll, Cond.code yX1_moveAll cX1_moveAll 3 (some .int), Cond.methodLink RX1 32 yX1_move, Cond.instanceMethod yX1_move, Cond.selects RX1 yX1_move yX1_move, Cond.code yX1_move cX1_move 8 (some .int), Cond.fieldLink RX1 14 "NumberGoblets" "lowest" "LNumberGoblets$Stretch;", Cond.instanceMethod yX0_shortenTo, Cond.initialized RX0, Cond.selects RX0 yX0_shortenTo yX0_shortenTo, Cond.code yX0_shortenTo cX0_shortenTo 3 none, Cond.fieldLink RX0 7 "NumberGoblets$Stretch" "first" "I", Cond.classLink RX0 8 RX0, Cond.instantiable RX0 4, Cond.fieldLink RX0 13 "NumberGoblets$Stretch" "last" "I", Cond.fieldLink RX0 16 "NumberGoblets$Stretch" "place" "I"]
def wsX1_pourBack_r2 : List Cond := [Cond.fieldLink RX0 19 "NumberGoblets$Stretch" "next" "LNumberGoblets$Stretch;", Cond.methodLink RX0 23 yX0_length, Cond.instanceMethod yX0_length, Cond.selects RX0 yX0_length yX0_length, Cond.code yX0_length cX0_length 1 (some .int), Cond.methodLink RX0 27 yX0_init, Cond.instanceMethod yX0_init, Cond.code yX0_init cX0_init 5 none, Cond.methodLink RX0 1 objectInit, Cond.instanceMethod objectInit, Cond.code objectInit ⟨#[0xb1]⟩ 1 none, Cond.methodLink RX1 113 yX1_joinNeighbours, Cond.instanceMethod yX1_joinNeighbours, Cond.selects RX1 yX1_joinNeighbours yX1_joinNeighbours, Cond.code yX1_joinNeighbours cX1_joinNeighbours 2 none, Cond.instanceMethod yX0_absorbNextOnesOfSamePlace, Cond.selects RX0 yX0_absorbNextOnesOfSamePlace yX0_absorbNextOnesOfSamePlace, Cond.code yX0_absorbNextOnesOfSamePlace cX0_absorbNextOnesOfSamePlace 2 none]
def wsX1_pourBack : List Cond := .code yX1_pourBack cX1_pourBack 2 (some .int) :: ((wsX1_pourBack_r1 ++ wsX1_pourBack_r2) ++ wsX10 ++ wsX00 ++ (vx_atS RX1 89 "java/lang/IndexOutOfBoundsException" ["java/lang/RuntimeException", "java/lang/Exception"]).filter goodWord)
def wsX1_share_r1 : List Cond := [Cond.classLink RX1 25 "java/lang/IllegalArgumentException", Cond.initialized "java/lang/IllegalArgumentException", Cond.methodLink RX1 63 Lib.Math.max.name, Cond.static Lib.Math.max.name, Cond.initialized "java/lang/Math", Cond.code Lib.Math.max.name Lib.Math.max.code 2 (some .int), Cond.methodLink RX1 40 yX1_checkGoblet, Cond.static yX1_checkGoblet, Cond.initialized RX1, Cond.code yX1_checkGoblet cX1_checkGoblet 1 none, Cond.classLink RX1 85 "java/lang/IndexOutOfBoundsException", Cond.initialized "java/lang/IndexOutOfBoundsException", Cond.methodLink RX1 44 yX1_checkCount, Cond.static yX1_checkCount, Cond.code yX1_checkCount cX1_checkCount 1 none, Cond.methodLink RX1 36 yX1_numbersAt, Cond.instanceMethod yX1_numbersAt, Cond.selects RX1 yX1_numbersAt yX1_numbersAt, Cond.code yX1_numbersAt cX1_numbersAt 2 (some .int), Cond.methodLink RX1 73 yX1_numbersAtBelow, Cond.instanceMethod yX1_numbersAtBelow, Cond.selects RX1 yX1_numbersAtBelow yX1_numbersAtBelow, Cond.code yX1_numbersAtBelow cX1_numbersAtBelow 5 (some .int), Cond.fieldLink RX1 14 "NumberGoblets" "lowest" "LNumberGoblets$Stretch;"]
def wsX1_share_r2 : List Cond := [Cond.methodLink RX1 119 Lib.Math.min.name, Cond.static Lib.Math.min.name, Cond.code Lib.Math.min.name Lib.Math.min.code 2 (some .int), Cond.methodLink RX1 32 yX1_move, Cond.instanceMethod yX1_move, Cond.selects RX1 yX1_move yX1_move, Cond.code yX1_move cX1_move 8 (some .int), Cond.instanceMethod yX0_shortenTo, Cond.initialized RX0, Cond.selects RX0 yX0_shortenTo yX0_shortenTo, Cond.code yX0_shortenTo cX0_shortenTo 3 none, Cond.fieldLink RX0 7 "NumberGoblets$Stretch" "first" "I", Cond.classLink RX0 8 RX0, Cond.instantiable RX0 4, Cond.fieldLink RX0 13 "NumberGoblets$Stretch" "last" "I", Cond.fieldLink RX0 16 "NumberGoblets$Stretch" "place" "I", Cond.fieldLink RX0 19 "NumberGoblets$Stretch" "next" "LNumberGoblets$Stretch;", Cond.methodLink RX0 23 yX0_length, Cond.instanceMethod yX0_length, Cond.selects RX0 yX0_length yX0_length, Cond.code yX0_length cX0_length 1 (some .int), Cond.methodLink RX0 27 yX0_init, Cond.instanceMethod yX0_init, Cond.code yX0_init cX0_init 5 none]
def wsX1_share_r3 : List Cond := [Cond.methodLink RX0 1 objectInit, Cond.instanceMethod objectInit, Cond.code objectInit ⟨#[0xb1]⟩ 1 none, Cond.methodLink RX1 113 yX1_joinNeighbours, Cond.instanceMethod yX1_joinNeighbours, Cond.selects RX1 yX1_joinNeighbours yX1_joinNeighbours, Cond.code yX1_joinNeighbours cX1_joinNeighbours 2 none, Cond.instanceMethod yX0_absorbNextOnesOfSamePlace, Cond.selects RX0 yX0_absorbNextOnesOfSamePlace yX0_absorbNextOnesOfSamePlace, Cond.code yX0_absorbNextOnesOfSamePlace cX0_absorbNextOnesOfSamePlace 2 none]
def wsX1_share : List Cond := .code yX1_share cX1_share 5 (some .int) :: ((wsX1_share_r1 ++ (wsX1_share_r2 ++ wsX1_share_r3)) ++ wsX10 ++ wsX00 ++ (vx_atS RX1 29 "java/lang/IllegalArgumentException" ["java/lang/RuntimeException", "java/lang/Exception"]).filter goodWord ++ (vx_atS RX1 89 "java/lang/IndexOutOfBoundsException" ["java/lang/RuntimeException", "java/lang/Exception"]).filter goodWord)
def wsX1_placeOf : List Cond := .code yX1_placeOf cX1_placeOf 3 (some .int) :: ([.fieldLink RX1 14 "NumberGoblets" "lowest" "LNumberGoblets$Stretch;"] ++ wsX10 ++ wsX00)
def wsX1_giveBack_r1 : List Cond := [Cond.classLink RX1 50 "java/lang/IllegalStateException", Cond.initialized "java/lang/IllegalStateException", Cond.methodLink RX1 68 yX1_placeOf, Cond.instanceMethod yX1_placeOf, Cond.selects RX1 yX1_placeOf yX1_placeOf, Cond.initialized RX1, Cond.code yX1_placeOf cX1_placeOf 3 (some .int), Cond.fieldLink RX1 14 "NumberGoblets" "lowest" "LNumberGoblets$Stretch;", Cond.methodLink RX1 73 yX1_numbersAtBelow, Cond.instanceMethod yX1_numbersAtBelow, Cond.selects RX1 yX1_numbersAtBelow yX1_numbersAtBelow, Cond.code yX1_numbersAtBelow cX1_numbersAtBelow 5 (some .int), Cond.methodLink RX1 119 Lib.Math.min.name, Cond.static Lib.Math.min.name, Cond.initialized "java/lang/Math", Cond.code Lib.Math.min.name Lib.Math.min.code 2 (some .int), Cond.methodLink RX1 32 yX1_move, Cond.instanceMethod yX1_move, Cond.selects RX1 yX1_move yX1_move, Cond.code yX1_move cX1_move 8 (some .int), Cond.instanceMethod yX0_shortenTo, Cond.initialized RX0, Cond.selects RX0 yX0_shortenTo yX0_shortenTo, Cond.code yX0_shortenTo cX0_shortenTo 3 none]
def wsX1_giveBack_r2 : List Cond := [Cond.fieldLink RX0 7 "NumberGoblets$Stretch" "first" "I", Cond.classLink RX0 8 RX0, Cond.instantiable RX0 4, Cond.fieldLink RX0 13 "NumberGoblets$Stretch" "last" "I", Cond.fieldLink RX0 16 "NumberGoblets$Stretch" "place" "I", Cond.fieldLink RX0 19 "NumberGoblets$Stretch" "next" "LNumberGoblets$Stretch;", Cond.methodLink RX0 23 yX0_length, Cond.instanceMethod yX0_length, Cond.selects RX0 yX0_length yX0_length, Cond.code yX0_length cX0_length 1 (some .int), Cond.methodLink RX0 27 yX0_init, Cond.instanceMethod yX0_init, Cond.code yX0_init cX0_init 5 none, Cond.methodLink RX0 1 objectInit, Cond.instanceMethod objectInit, Cond.code objectInit ⟨#[0xb1]⟩ 1 none, Cond.methodLink RX1 113 yX1_joinNeighbours, Cond.instanceMethod yX1_joinNeighbours, Cond.selects RX1 yX1_joinNeighbours yX1_joinNeighbours, Cond.code yX1_joinNeighbours cX1_joinNeighbours 2 none, Cond.instanceMethod yX0_absorbNextOnesOfSamePlace, Cond.selects RX0 yX0_absorbNextOnesOfSamePlace yX0_absorbNextOnesOfSamePlace, Cond.code yX0_absorbNextOnesOfSamePlace cX0_absorbNextOnesOfSamePlace 2 none, Cond.methodLink RX1 36 yX1_numbersAt]
def wsX1_giveBack_r3 : List Cond := [Cond.instanceMethod yX1_numbersAt, Cond.selects RX1 yX1_numbersAt yX1_numbersAt, Cond.code yX1_numbersAt cX1_numbersAt 2 (some .int)]
def wsX1_giveBack : List Cond := .code yX1_giveBack cX1_giveBack 2 (some .int) :: ((wsX1_giveBack_r1 ++ (wsX1_giveBack_r2 ++ wsX1_giveBack_r3)) ++ wsX10 ++ wsX00 ++ (vx_atS RX1 54 "java/lang/IllegalStateException" ["java/lang/RuntimeException", "java/lang/Exception"]).filter goodWord)
def wsX1_spill_r1 : List Cond := [Cond.methodLink RX1 40 yX1_checkGoblet, Cond.static yX1_checkGoblet, Cond.initialized RX1, Cond.code yX1_checkGoblet cX1_checkGoblet 1 none, Cond.classLink RX1 85 "java/lang/IndexOutOfBoundsException", Cond.initialized "java/lang/IndexOutOfBoundsException", Cond.methodLink RX1 57 yX1_moveAll, Cond.instanceMethod yX1_moveAll, Cond.selects RX1 yX1_moveAll yX1_moveAll, Cond.code yX1_moveAll cX1_moveAll 3 (some .int), Cond.methodLink RX1 32 yX1_move, Cond.instanceMethod yX1_move, Cond.selects RX1 yX1_move yX1_move, Cond.code yX1_move cX1_move 8 (some .int), Cond.fieldLink RX1 14 "NumberGoblets" "lowest" "LNumberGoblets$Stretch;", Cond.instanceMethod yX0_shortenTo, Cond.initialized RX0, Cond.selects RX0 yX0_shortenTo yX0_shortenTo, Cond.code yX0_shortenTo cX0_shortenTo 3 none, Cond.fieldLink RX0 7 "NumberGoblets$Stretch" "first" "I", Cond.classLink RX0 8 RX0, Cond.instantiable RX0 4, Cond.fieldLink RX0 13 "NumberGoblets$Stretch" "last" "I", Cond.fieldLink RX0 16 "NumberGoblets$Stretch" "place" "I"]
def wsX1_spill_r2 : List Cond := [Cond.fieldLink RX0 19 "NumberGoblets$Stretch" "next" "LNumberGoblets$Stretch;", Cond.methodLink RX0 23 yX0_length, Cond.instanceMethod yX0_length, Cond.selects RX0 yX0_length yX0_length, Cond.code yX0_length cX0_length 1 (some .int), Cond.methodLink RX0 27 yX0_init, Cond.instanceMethod yX0_init, Cond.code yX0_init cX0_init 5 none, Cond.methodLink RX0 1 objectInit, Cond.instanceMethod objectInit, Cond.code objectInit ⟨#[0xb1]⟩ 1 none, Cond.methodLink RX1 113 yX1_joinNeighbours, Cond.instanceMethod yX1_joinNeighbours, Cond.selects RX1 yX1_joinNeighbours yX1_joinNeighbours, Cond.code yX1_joinNeighbours cX1_joinNeighbours 2 none, Cond.instanceMethod yX0_absorbNextOnesOfSamePlace, Cond.selects RX0 yX0_absorbNextOnesOfSamePlace yX0_absorbNextOnesOfSamePlace, Cond.code yX0_absorbNextOnesOfSamePlace cX0_absorbNextOnesOfSamePlace 2 none]
def wsX1_spill : List Cond := .code yX1_spill cX1_spill 2 (some .int) :: ((wsX1_spill_r1 ++ wsX1_spill_r2) ++ wsX10 ++ wsX00 ++ (vx_atS RX1 89 "java/lang/IndexOutOfBoundsException" ["java/lang/RuntimeException", "java/lang/Exception"]).filter goodWord)
def wsX1_nextRound_r1 : List Cond := [Cond.classLink RX1 50 "java/lang/IllegalStateException", Cond.initialized "java/lang/IllegalStateException", Cond.fieldLink RX1 18 "NumberGoblets" "size" "I", Cond.fieldLink RX1 22 "NumberGoblets" "round" "I", Cond.methodLink RX1 36 yX1_numbersAt, Cond.instanceMethod yX1_numbersAt, Cond.selects RX1 yX1_numbersAt yX1_numbersAt, Cond.initialized RX1, Cond.code yX1_numbersAt cX1_numbersAt 2 (some .int), Cond.methodLink RX1 73 yX1_numbersAtBelow, Cond.instanceMethod yX1_numbersAtBelow, Cond.selects RX1 yX1_numbersAtBelow yX1_numbersAtBelow, Cond.code yX1_numbersAtBelow cX1_numbersAtBelow 5 (some .int), Cond.fieldLink RX1 14 "NumberGoblets" "lowest" "LNumberGoblets$Stretch;", Cond.methodLink RX1 119 Lib.Math.min.name, Cond.static Lib.Math.min.name, Cond.initialized "java/lang/Math", Cond.code Lib.Math.min.name Lib.Math.min.code 2 (some .int), Cond.methodLink RX1 57 yX1_moveAll, Cond.instanceMethod yX1_moveAll, Cond.selects RX1 yX1_moveAll yX1_moveAll, Cond.code yX1_moveAll cX1_moveAll 3 (some .int), Cond.methodLink RX1 32 yX1_move, Cond.instanceMethod yX1_move]
def wsX1_nextRound_r2 : List Cond := [Cond.selects RX1 yX1_move yX1_move, Cond.code yX1_move cX1_move 8 (some .int), Cond.instanceMethod yX0_shortenTo, Cond.initialized RX0, Cond.selects RX0 yX0_shortenTo yX0_shortenTo, Cond.code yX0_shortenTo cX0_shortenTo 3 none, Cond.fieldLink RX0 7 "NumberGoblets$Stretch" "first" "I", Cond.classLink RX0 8 RX0, Cond.instantiable RX0 4, Cond.fieldLink RX0 13 "NumberGoblets$Stretch" "last" "I", Cond.fieldLink RX0 16 "NumberGoblets$Stretch" "place" "I", Cond.fieldLink RX0 19 "NumberGoblets$Stretch" "next" "LNumberGoblets$Stretch;", Cond.methodLink RX0 23 yX0_length, Cond.instanceMethod yX0_length, Cond.selects RX0 yX0_length yX0_length, Cond.code yX0_length cX0_length 1 (some .int), Cond.methodLink RX0 27 yX0_init, Cond.instanceMethod yX0_init, Cond.code yX0_init cX0_init 5 none, Cond.methodLink RX0 1 objectInit, Cond.instanceMethod objectInit, Cond.code objectInit ⟨#[0xb1]⟩ 1 none, Cond.methodLink RX1 113 yX1_joinNeighbours, Cond.instanceMethod yX1_joinNeighbours]
def wsX1_nextRound_r3 : List Cond := [Cond.selects RX1 yX1_joinNeighbours yX1_joinNeighbours, Cond.code yX1_joinNeighbours cX1_joinNeighbours 2 none, Cond.instanceMethod yX0_absorbNextOnesOfSamePlace, Cond.selects RX0 yX0_absorbNextOnesOfSamePlace yX0_absorbNextOnesOfSamePlace, Cond.code yX0_absorbNextOnesOfSamePlace cX0_absorbNextOnesOfSamePlace 2 none]
def wsX1_nextRound : List Cond := .code yX1_nextRound cX1_nextRound 1 (some .int) :: ((wsX1_nextRound_r1 ++ (wsX1_nextRound_r2 ++ wsX1_nextRound_r3)) ++ wsX10 ++ wsX00 ++ (vx_atS RX1 54 "java/lang/IllegalStateException" ["java/lang/RuntimeException", "java/lang/Exception"]).filter goodWord)
def wsX1_size : List Cond := .code yX1_size cX1_size 1 (some .int) :: ([.fieldLink RX1 18 "NumberGoblets" "size" "I"] ++ wsX10)
def wsX1_round : List Cond := .code yX1_round cX1_round 1 (some .int) :: ([.fieldLink RX1 22 "NumberGoblets" "round" "I"] ++ wsX10)
def wsX1_inJug : List Cond := .code yX1_inJug cX1_inJug 1 (some .int) :: ([.methodLink RX1 36 yX1_numbersAt, .instanceMethod yX1_numbersAt, .selects RX1 yX1_numbersAt yX1_numbersAt, .initialized RX1, .code yX1_numbersAt cX1_numbersAt 2 (some .int), .methodLink RX1 73 yX1_numbersAtBelow, .instanceMethod yX1_numbersAtBelow, .selects RX1 yX1_numbersAtBelow yX1_numbersAtBelow, .code yX1_numbersAtBelow cX1_numbersAtBelow 5 (some .int), .fieldLink RX1 14 "NumberGoblets" "lowest" "LNumberGoblets$Stretch;", .methodLink RX1 119 Lib.Math.min.name, .static Lib.Math.min.name, .initialized "java/lang/Math", .code Lib.Math.min.name Lib.Math.min.code 2 (some .int)] ++ wsX10 ++ wsX00)
def wsX1_rangesAt : List Cond := .code yX1_rangesAt cX1_rangesAt 4 (some .int) :: ([.fieldLink RX1 14 "NumberGoblets" "lowest" "LNumberGoblets$Stretch;"] ++ wsX10 ++ wsX00)
def wsX1_ranges : List Cond := .code yX1_ranges cX1_ranges 1 (some .int) :: ([.methodLink RX1 78 yX1_rangesAt, .instanceMethod yX1_rangesAt, .selects RX1 yX1_rangesAt yX1_rangesAt, .initialized RX1, .code yX1_rangesAt cX1_rangesAt 4 (some .int), .fieldLink RX1 14 "NumberGoblets" "lowest" "LNumberGoblets$Stretch;"] ++ wsX10 ++ wsX00)
def wsX1_rangeOfJug : List Cond := .code yX1_rangeOfJug cX1_rangeOfJug 4 (some (.object "NumberGoblets$Stretch")) :: ([.fieldLink RX1 14 "NumberGoblets" "lowest" "LNumberGoblets$Stretch;"] ++ wsX10 ++ wsX00)
def wsX1_rangeFrom : List Cond := .code yX1_rangeFrom cX1_rangeFrom 3 (some .int) :: ([.classLink RX1 85 "java/lang/IndexOutOfBoundsException", .initialized "java/lang/IndexOutOfBoundsException", .methodLink RX1 81 yX1_rangeOfJug, .instanceMethod yX1_rangeOfJug, .selects RX1 yX1_rangeOfJug yX1_rangeOfJug, .initialized RX1, .code yX1_rangeOfJug cX1_rangeOfJug 4 (some (.object "NumberGoblets$Stretch")), .fieldLink RX1 14 "NumberGoblets" "lowest" "LNumberGoblets$Stretch;"] ++ wsX00 ++ wsX10 ++ (vx_atS RX1 89 "java/lang/IndexOutOfBoundsException" ["java/lang/RuntimeException", "java/lang/Exception"]).filter goodWord)
def wsX1_rangeTo : List Cond := .code yX1_rangeTo cX1_rangeTo 3 (some .int) :: ([.classLink RX1 85 "java/lang/IndexOutOfBoundsException", .initialized "java/lang/IndexOutOfBoundsException", .methodLink RX1 81 yX1_rangeOfJug, .instanceMethod yX1_rangeOfJug, .selects RX1 yX1_rangeOfJug yX1_rangeOfJug, .initialized RX1, .code yX1_rangeOfJug cX1_rangeOfJug 4 (some (.object "NumberGoblets$Stretch")), .fieldLink RX1 14 "NumberGoblets" "lowest" "LNumberGoblets$Stretch;"] ++ wsX00 ++ wsX10 ++ (vx_atS RX1 89 "java/lang/IndexOutOfBoundsException" ["java/lang/RuntimeException", "java/lang/Exception"]).filter goodWord)
def wsX1_longestRange : List Cond := .code yX1_longestRange cX1_longestRange 5 (some .int) :: ([.fieldLink RX1 14 "NumberGoblets" "lowest" "LNumberGoblets$Stretch;", .instanceMethod yX0_length, .initialized RX0, .selects RX0 yX0_length yX0_length, .code yX0_length cX0_length 1 (some .int), .fieldLink RX0 13 "NumberGoblets$Stretch" "last" "I", .fieldLink RX0 7 "NumberGoblets$Stretch" "first" "I"] ++ wsX10 ++ wsX00)
def wsX1_inGoblet : List Cond := .code yX1_inGoblet cX1_inGoblet 2 (some .int) :: ([.methodLink RX1 40 yX1_checkGoblet, .static yX1_checkGoblet, .initialized RX1, .code yX1_checkGoblet cX1_checkGoblet 1 none, .classLink RX1 85 "java/lang/IndexOutOfBoundsException", .initialized "java/lang/IndexOutOfBoundsException", .methodLink RX1 36 yX1_numbersAt, .instanceMethod yX1_numbersAt, .selects RX1 yX1_numbersAt yX1_numbersAt, .code yX1_numbersAt cX1_numbersAt 2 (some .int), .methodLink RX1 73 yX1_numbersAtBelow, .instanceMethod yX1_numbersAtBelow, .selects RX1 yX1_numbersAtBelow yX1_numbersAtBelow, .code yX1_numbersAtBelow cX1_numbersAtBelow 5 (some .int), .fieldLink RX1 14 "NumberGoblets" "lowest" "LNumberGoblets$Stretch;", .methodLink RX1 119 Lib.Math.min.name, .static Lib.Math.min.name, .initialized "java/lang/Math", .code Lib.Math.min.name Lib.Math.min.code 2 (some .int)] ++ wsX10 ++ wsX00 ++ (vx_atS RX1 89 "java/lang/IndexOutOfBoundsException" ["java/lang/RuntimeException", "java/lang/Exception"]).filter goodWord)
def wsX1_rangesOf : List Cond := .code yX1_rangesOf cX1_rangesOf 2 (some .int) :: ([.methodLink RX1 40 yX1_checkGoblet, .static yX1_checkGoblet, .initialized RX1, .code yX1_checkGoblet cX1_checkGoblet 1 none, .classLink RX1 85 "java/lang/IndexOutOfBoundsException", .initialized "java/lang/IndexOutOfBoundsException", .methodLink RX1 78 yX1_rangesAt, .instanceMethod yX1_rangesAt, .selects RX1 yX1_rangesAt yX1_rangesAt, .code yX1_rangesAt cX1_rangesAt 4 (some .int), .fieldLink RX1 14 "NumberGoblets" "lowest" "LNumberGoblets$Stretch;"] ++ wsX10 ++ wsX00 ++ (vx_atS RX1 89 "java/lang/IndexOutOfBoundsException" ["java/lang/RuntimeException", "java/lang/Exception"]).filter goodWord)
def wsX1_nextOf : List Cond := .code yX1_nextOf cX1_nextOf 3 (some .int) :: ([.methodLink RX1 40 yX1_checkGoblet, .static yX1_checkGoblet, .initialized RX1, .code yX1_checkGoblet cX1_checkGoblet 1 none, .classLink RX1 85 "java/lang/IndexOutOfBoundsException", .initialized "java/lang/IndexOutOfBoundsException", .methodLink RX1 47 yX1_lowestAt, .instanceMethod yX1_lowestAt, .selects RX1 yX1_lowestAt yX1_lowestAt, .code yX1_lowestAt cX1_lowestAt 3 (some .int), .fieldLink RX1 14 "NumberGoblets" "lowest" "LNumberGoblets$Stretch;"] ++ wsX10 ++ wsX00 ++ (vx_atS RX1 89 "java/lang/IndexOutOfBoundsException" ["java/lang/RuntimeException", "java/lang/Exception"]).filter goodWord)
def wsX1_drunk : List Cond := .code yX1_drunk cX1_drunk 1 (some .int) :: ([.methodLink RX1 36 yX1_numbersAt, .instanceMethod yX1_numbersAt, .selects RX1 yX1_numbersAt yX1_numbersAt, .initialized RX1, .code yX1_numbersAt cX1_numbersAt 2 (some .int), .methodLink RX1 73 yX1_numbersAtBelow, .instanceMethod yX1_numbersAtBelow, .selects RX1 yX1_numbersAtBelow yX1_numbersAtBelow, .code yX1_numbersAtBelow cX1_numbersAtBelow 5 (some .int), .fieldLink RX1 14 "NumberGoblets" "lowest" "LNumberGoblets$Stretch;", .methodLink RX1 119 Lib.Math.min.name, .static Lib.Math.min.name, .initialized "java/lang/Math", .code Lib.Math.min.name Lib.Math.min.code 2 (some .int)] ++ wsX10 ++ wsX00)
def wsX1_spilt : List Cond := .code yX1_spilt cX1_spilt 1 (some .int) :: ([.methodLink RX1 36 yX1_numbersAt, .instanceMethod yX1_numbersAt, .selects RX1 yX1_numbersAt yX1_numbersAt, .initialized RX1, .code yX1_numbersAt cX1_numbersAt 2 (some .int), .methodLink RX1 73 yX1_numbersAtBelow, .instanceMethod yX1_numbersAtBelow, .selects RX1 yX1_numbersAtBelow yX1_numbersAtBelow, .code yX1_numbersAtBelow cX1_numbersAtBelow 5 (some .int), .fieldLink RX1 14 "NumberGoblets" "lowest" "LNumberGoblets$Stretch;", .methodLink RX1 119 Lib.Math.min.name, .static Lib.Math.min.name, .initialized "java/lang/Math", .code Lib.Math.min.name Lib.Math.min.code 2 (some .int)] ++ wsX10 ++ wsX00)
def wsX1_lowestLeft : List Cond := .code yX1_lowestLeft cX1_lowestLeft 2 (some .int) :: ([.fieldLink RX1 14 "NumberGoblets" "lowest" "LNumberGoblets$Stretch;"] ++ wsX10 ++ wsX00)
def wsJ9_max_7cf53 : List Cond := .code yJ9_max_7cf53 cJ9_max_7cf53 2 (some .int) :: ([])
def wsJ9_min_7cf53 : List Cond := .code yJ9_min_7cf53 cJ9_min_7cf53 2 (some .int) :: ([])
def wsL_drawn : List Cond := .code yL_drawn cL_drawn 4 (some .int) :: ([.constant RL 7 (44537)])
def wsL_inGoblets : List Cond := .code yL_inGoblets cL_inGoblets 3 (some .int) :: ([.methodLink RL 8 yX1_inGoblet, .instanceMethod yX1_inGoblet, .selects RX1 yX1_inGoblet yX1_inGoblet, .initialized RX1, .code yX1_inGoblet cX1_inGoblet 2 (some .int), .methodLink RX1 40 yX1_checkGoblet, .static yX1_checkGoblet, .code yX1_checkGoblet cX1_checkGoblet 1 none, .classLink RX1 85 "java/lang/IndexOutOfBoundsException", .initialized "java/lang/IndexOutOfBoundsException", .methodLink RX1 36 yX1_numbersAt, .instanceMethod yX1_numbersAt, .selects RX1 yX1_numbersAt yX1_numbersAt, .code yX1_numbersAt cX1_numbersAt 2 (some .int), .methodLink RX1 73 yX1_numbersAtBelow, .instanceMethod yX1_numbersAtBelow, .selects RX1 yX1_numbersAtBelow yX1_numbersAtBelow, .code yX1_numbersAtBelow cX1_numbersAtBelow 5 (some .int), .fieldLink RX1 14 "NumberGoblets" "lowest" "LNumberGoblets$Stretch;", .methodLink RX1 119 Lib.Math.min.name, .static Lib.Math.min.name, .initialized "java/lang/Math", .code Lib.Math.min.name Lib.Math.min.code 2 (some .int)] ++ wsX10 ++ wsX00 ++ (vx_atS RX1 89 "java/lang/IndexOutOfBoundsException" ["java/lang/RuntimeException", "java/lang/Exception"]).filter goodWord)
def wsL_areRangesApart_r1 : List Cond := [Cond.methodLink RL 14 yX1_longestRange, Cond.instanceMethod yX1_longestRange, Cond.selects RX1 yX1_longestRange yX1_longestRange, Cond.initialized RX1, Cond.code yX1_longestRange cX1_longestRange 5 (some .int), Cond.fieldLink RX1 14 "NumberGoblets" "lowest" "LNumberGoblets$Stretch;", Cond.instanceMethod yX0_length, Cond.initialized RX0, Cond.selects RX0 yX0_length yX0_length, Cond.code yX0_length cX0_length 1 (some .int), Cond.fieldLink RX0 13 "NumberGoblets$Stretch" "last" "I", Cond.fieldLink RX0 7 "NumberGoblets$Stretch" "first" "I", Cond.methodLink RL 18 yX1_rangeTo, Cond.instanceMethod yX1_rangeTo, Cond.selects RX1 yX1_rangeTo yX1_rangeTo, Cond.code yX1_rangeTo cX1_rangeTo 3 (some .int), Cond.classLink RX1 85 "java/lang/IndexOutOfBoundsException", Cond.initialized "java/lang/IndexOutOfBoundsException", Cond.methodLink RX1 81 yX1_rangeOfJug, Cond.instanceMethod yX1_rangeOfJug, Cond.selects RX1 yX1_rangeOfJug yX1_rangeOfJug, Cond.code yX1_rangeOfJug cX1_rangeOfJug 4 (some (.object "NumberGoblets$Stretch")), Cond.methodLink RL 21 yX1_rangeFrom, Cond.instanceMethod yX1_rangeFrom]
def wsL_areRangesApart_r2 : List Cond := [Cond.selects RX1 yX1_rangeFrom yX1_rangeFrom, Cond.code yX1_rangeFrom cX1_rangeFrom 3 (some .int), Cond.methodLink RL 24 yX1_ranges, Cond.instanceMethod yX1_ranges, Cond.selects RX1 yX1_ranges yX1_ranges, Cond.code yX1_ranges cX1_ranges 1 (some .int), Cond.methodLink RX1 78 yX1_rangesAt, Cond.instanceMethod yX1_rangesAt, Cond.selects RX1 yX1_rangesAt yX1_rangesAt, Cond.code yX1_rangesAt cX1_rangesAt 4 (some .int), Cond.methodLink RL 27 yX1_size, Cond.instanceMethod yX1_size, Cond.selects RX1 yX1_size yX1_size, Cond.code yX1_size cX1_size 1 (some .int), Cond.fieldLink RX1 18 "NumberGoblets" "size" "I", Cond.methodLink RL 30 yX1_placeOf, Cond.instanceMethod yX1_placeOf, Cond.selects RX1 yX1_placeOf yX1_placeOf, Cond.code yX1_placeOf cX1_placeOf 3 (some .int), Cond.methodLink RL 33 yX1_inJug, Cond.instanceMethod yX1_inJug, Cond.selects RX1 yX1_inJug yX1_inJug, Cond.code yX1_inJug cX1_inJug 1 (some .int), Cond.methodLink RX1 36 yX1_numbersAt]
def wsL_areRangesApart_r3 : List Cond := [Cond.instanceMethod yX1_numbersAt, Cond.selects RX1 yX1_numbersAt yX1_numbersAt, Cond.code yX1_numbersAt cX1_numbersAt 2 (some .int), Cond.methodLink RX1 73 yX1_numbersAtBelow, Cond.instanceMethod yX1_numbersAtBelow, Cond.selects RX1 yX1_numbersAtBelow yX1_numbersAtBelow, Cond.code yX1_numbersAtBelow cX1_numbersAtBelow 5 (some .int), Cond.methodLink RX1 119 Lib.Math.min.name, Cond.static Lib.Math.min.name, Cond.initialized "java/lang/Math", Cond.code Lib.Math.min.name Lib.Math.min.code 2 (some .int)]
def wsL_areRangesApart : List Cond := .code yL_areRangesApart cL_areRangesApart 10 (some .boolean) :: ((wsL_areRangesApart_r1 ++ (wsL_areRangesApart_r2 ++ wsL_areRangesApart_r3)) ++ wsX10 ++ wsX00 ++ (vx_atS RX1 89 "java/lang/IndexOutOfBoundsException" ["java/lang/RuntimeException", "java/lang/Exception"]).filter goodWord)
def wsL_isAllSomewhere_r1 : List Cond := [Cond.methodLink RL 36 yX1_lowestLeft, Cond.instanceMethod yX1_lowestLeft, Cond.selects RX1 yX1_lowestLeft yX1_lowestLeft, Cond.initialized RX1, Cond.code yX1_lowestLeft cX1_lowestLeft 2 (some .int), Cond.fieldLink RX1 14 "NumberGoblets" "lowest" "LNumberGoblets$Stretch;", Cond.methodLink RL 33 yX1_inJug, Cond.instanceMethod yX1_inJug, Cond.selects RX1 yX1_inJug yX1_inJug, Cond.code yX1_inJug cX1_inJug 1 (some .int), Cond.methodLink RX1 36 yX1_numbersAt, Cond.instanceMethod yX1_numbersAt, Cond.selects RX1 yX1_numbersAt yX1_numbersAt, Cond.code yX1_numbersAt cX1_numbersAt 2 (some .int), Cond.methodLink RX1 73 yX1_numbersAtBelow, Cond.instanceMethod yX1_numbersAtBelow, Cond.selects RX1 yX1_numbersAtBelow yX1_numbersAtBelow, Cond.code yX1_numbersAtBelow cX1_numbersAtBelow 5 (some .int), Cond.methodLink RX1 119 Lib.Math.min.name, Cond.static Lib.Math.min.name, Cond.initialized "java/lang/Math", Cond.code Lib.Math.min.name Lib.Math.min.code 2 (some .int), Cond.methodLink RL 39 yL_inGoblets, Cond.static yL_inGoblets]
def wsL_isAllSomewhere_r2 : List Cond := [Cond.initialized RL, Cond.code yL_inGoblets cL_inGoblets 3 (some .int), Cond.methodLink RL 8 yX1_inGoblet, Cond.instanceMethod yX1_inGoblet, Cond.selects RX1 yX1_inGoblet yX1_inGoblet, Cond.code yX1_inGoblet cX1_inGoblet 2 (some .int), Cond.methodLink RX1 40 yX1_checkGoblet, Cond.static yX1_checkGoblet, Cond.code yX1_checkGoblet cX1_checkGoblet 1 none, Cond.classLink RX1 85 "java/lang/IndexOutOfBoundsException", Cond.initialized "java/lang/IndexOutOfBoundsException", Cond.methodLink RL 45 yX1_drunk, Cond.instanceMethod yX1_drunk, Cond.selects RX1 yX1_drunk yX1_drunk, Cond.code yX1_drunk cX1_drunk 1 (some .int), Cond.methodLink RL 48 yX1_spilt, Cond.instanceMethod yX1_spilt, Cond.selects RX1 yX1_spilt yX1_spilt, Cond.code yX1_spilt cX1_spilt 1 (some .int), Cond.methodLink RL 27 yX1_size, Cond.instanceMethod yX1_size, Cond.selects RX1 yX1_size yX1_size, Cond.code yX1_size cX1_size 1 (some .int), Cond.fieldLink RX1 18 "NumberGoblets" "size" "I"]
def wsL_isAllSomewhere_r3 : List Cond := [Cond.methodLink RL 30 yX1_placeOf, Cond.instanceMethod yX1_placeOf, Cond.selects RX1 yX1_placeOf yX1_placeOf, Cond.code yX1_placeOf cX1_placeOf 3 (some .int), Cond.methodLink RL 51 yX1_nextOf, Cond.instanceMethod yX1_nextOf, Cond.selects RX1 yX1_nextOf yX1_nextOf, Cond.code yX1_nextOf cX1_nextOf 3 (some .int), Cond.methodLink RX1 47 yX1_lowestAt, Cond.instanceMethod yX1_lowestAt, Cond.selects RX1 yX1_lowestAt yX1_lowestAt, Cond.code yX1_lowestAt cX1_lowestAt 3 (some .int), Cond.methodLink RL 54 yX1_rangesOf, Cond.instanceMethod yX1_rangesOf, Cond.selects RX1 yX1_rangesOf yX1_rangesOf, Cond.code yX1_rangesOf cX1_rangesOf 2 (some .int), Cond.methodLink RX1 78 yX1_rangesAt, Cond.instanceMethod yX1_rangesAt, Cond.selects RX1 yX1_rangesAt yX1_rangesAt, Cond.code yX1_rangesAt cX1_rangesAt 4 (some .int)]
def wsL_isAllSomewhere : List Cond := .code yL_isAllSomewhere cL_isAllSomewhere 5 (some .boolean) :: ((wsL_isAllSomewhere_r1 ++ (wsL_isAllSomewhere_r2 ++ wsL_isAllSomewhere_r3)) ++ wsX10 ++ wsX00 ++ (vx_atS RX1 89 "java/lang/IndexOutOfBoundsException" ["java/lang/RuntimeException", "java/lang/Exception"]).filter goodWord)
def wsL_isThereAndBack_r1 : List Cond := [Cond.methodLink RL 8 yX1_inGoblet, Cond.instanceMethod yX1_inGoblet, Cond.selects RX1 yX1_inGoblet yX1_inGoblet, Cond.initialized RX1, Cond.code yX1_inGoblet cX1_inGoblet 2 (some .int), Cond.methodLink RX1 40 yX1_checkGoblet, Cond.static yX1_checkGoblet, Cond.code yX1_checkGoblet cX1_checkGoblet 1 none, Cond.classLink RX1 85 "java/lang/IndexOutOfBoundsException", Cond.initialized "java/lang/IndexOutOfBoundsException", Cond.methodLink RX1 36 yX1_numbersAt, Cond.instanceMethod yX1_numbersAt, Cond.selects RX1 yX1_numbersAt yX1_numbersAt, Cond.code yX1_numbersAt cX1_numbersAt 2 (some .int), Cond.methodLink RX1 73 yX1_numbersAtBelow, Cond.instanceMethod yX1_numbersAtBelow, Cond.selects RX1 yX1_numbersAtBelow yX1_numbersAtBelow, Cond.code yX1_numbersAtBelow cX1_numbersAtBelow 5 (some .int), Cond.fieldLink RX1 14 "NumberGoblets" "lowest" "LNumberGoblets$Stretch;", Cond.methodLink RX1 119 Lib.Math.min.name, Cond.static Lib.Math.min.name, Cond.initialized "java/lang/Math", Cond.code Lib.Math.min.name Lib.Math.min.code 2 (some .int), Cond.methodLink RL 33 yX1_inJug]
def wsL_isThereAndBack_r2 : List Cond := [Cond.instanceMethod yX1_inJug, Cond.selects RX1 yX1_inJug yX1_inJug, Cond.code yX1_inJug cX1_inJug 1 (some .int), Cond.methodLink RL 24 yX1_ranges, Cond.instanceMethod yX1_ranges, Cond.selects RX1 yX1_ranges yX1_ranges, Cond.code yX1_ranges cX1_ranges 1 (some .int), Cond.methodLink RX1 78 yX1_rangesAt, Cond.instanceMethod yX1_rangesAt, Cond.selects RX1 yX1_rangesAt yX1_rangesAt, Cond.code yX1_rangesAt cX1_rangesAt 4 (some .int), Cond.methodLink RL 21 yX1_rangeFrom, Cond.instanceMethod yX1_rangeFrom, Cond.selects RX1 yX1_rangeFrom yX1_rangeFrom, Cond.code yX1_rangeFrom cX1_rangeFrom 3 (some .int), Cond.methodLink RX1 81 yX1_rangeOfJug, Cond.instanceMethod yX1_rangeOfJug, Cond.selects RX1 yX1_rangeOfJug yX1_rangeOfJug, Cond.code yX1_rangeOfJug cX1_rangeOfJug 4 (some (.object "NumberGoblets$Stretch")), Cond.methodLink RL 14 yX1_longestRange, Cond.instanceMethod yX1_longestRange, Cond.selects RX1 yX1_longestRange yX1_longestRange, Cond.code yX1_longestRange cX1_longestRange 5 (some .int), Cond.instanceMethod yX0_length]
def wsL_isThereAndBack_r3 : List Cond := [Cond.initialized RX0, Cond.selects RX0 yX0_length yX0_length, Cond.code yX0_length cX0_length 1 (some .int), Cond.fieldLink RX0 13 "NumberGoblets$Stretch" "last" "I", Cond.fieldLink RX0 7 "NumberGoblets$Stretch" "first" "I", Cond.methodLink RL 57 yX1_pour, Cond.instanceMethod yX1_pour, Cond.selects RX1 yX1_pour yX1_pour, Cond.code yX1_pour cX1_pour 3 (some .int), Cond.classLink RX1 50 "java/lang/IllegalStateException", Cond.initialized "java/lang/IllegalStateException", Cond.methodLink RX1 44 yX1_checkCount, Cond.static yX1_checkCount, Cond.code yX1_checkCount cX1_checkCount 1 none, Cond.classLink RX1 25 "java/lang/IllegalArgumentException", Cond.initialized "java/lang/IllegalArgumentException", Cond.methodLink RX1 47 yX1_lowestAt, Cond.instanceMethod yX1_lowestAt, Cond.selects RX1 yX1_lowestAt yX1_lowestAt, Cond.code yX1_lowestAt cX1_lowestAt 3 (some .int), Cond.methodLink RX1 32 yX1_move, Cond.instanceMethod yX1_move, Cond.selects RX1 yX1_move yX1_move, Cond.code yX1_move cX1_move 8 (some .int)]
def wsL_isThereAndBack_r4 : List Cond := [Cond.instanceMethod yX0_shortenTo, Cond.selects RX0 yX0_shortenTo yX0_shortenTo, Cond.code yX0_shortenTo cX0_shortenTo 3 none, Cond.classLink RX0 8 RX0, Cond.instantiable RX0 4, Cond.fieldLink RX0 16 "NumberGoblets$Stretch" "place" "I", Cond.fieldLink RX0 19 "NumberGoblets$Stretch" "next" "LNumberGoblets$Stretch;", Cond.methodLink RX0 23 yX0_length, Cond.methodLink RX0 27 yX0_init, Cond.instanceMethod yX0_init, Cond.code yX0_init cX0_init 5 none, Cond.methodLink RX0 1 objectInit, Cond.instanceMethod objectInit, Cond.code objectInit ⟨#[0xb1]⟩ 1 none, Cond.methodLink RX1 113 yX1_joinNeighbours, Cond.instanceMethod yX1_joinNeighbours, Cond.selects RX1 yX1_joinNeighbours yX1_joinNeighbours, Cond.code yX1_joinNeighbours cX1_joinNeighbours 2 none, Cond.instanceMethod yX0_absorbNextOnesOfSamePlace, Cond.selects RX0 yX0_absorbNextOnesOfSamePlace yX0_absorbNextOnesOfSamePlace, Cond.code yX0_absorbNextOnesOfSamePlace cX0_absorbNextOnesOfSamePlace 2 none, Cond.methodLink RL 51 yX1_nextOf, Cond.instanceMethod yX1_nextOf, Cond.selects RX1 yX1_nextOf yX1_nextOf]
def wsL_isThereAndBack_r5 : List Cond := [Cond.code yX1_nextOf cX1_nextOf 3 (some .int), Cond.methodLink RL 54 yX1_rangesOf, Cond.instanceMethod yX1_rangesOf, Cond.selects RX1 yX1_rangesOf yX1_rangesOf, Cond.code yX1_rangesOf cX1_rangesOf 2 (some .int), Cond.methodLink RL 61 yX1_pourBack, Cond.instanceMethod yX1_pourBack, Cond.selects RX1 yX1_pourBack yX1_pourBack, Cond.code yX1_pourBack cX1_pourBack 2 (some .int), Cond.methodLink RX1 57 yX1_moveAll, Cond.instanceMethod yX1_moveAll, Cond.selects RX1 yX1_moveAll yX1_moveAll, Cond.code yX1_moveAll cX1_moveAll 3 (some .int)]
def wsL_isThereAndBack : List Cond := .code yL_isThereAndBack cL_isThereAndBack 9 (some .boolean) :: ((wsL_isThereAndBack_r1 ++ (wsL_isThereAndBack_r2 ++ (wsL_isThereAndBack_r3 ++ (wsL_isThereAndBack_r4 ++ wsL_isThereAndBack_r5)))) ++ wsX10 ++ wsX00 ++ (vx_atS RX1 89 "java/lang/IndexOutOfBoundsException" ["java/lang/RuntimeException", "java/lang/Exception"]).filter goodWord ++ (vx_atS RX1 54 "java/lang/IllegalStateException" ["java/lang/RuntimeException", "java/lang/Exception"]).filter goodWord ++ (vx_atS RX1 29 "java/lang/IllegalArgumentException" ["java/lang/RuntimeException", "java/lang/Exception"]).filter goodWord)
def wsL_isTakenBack_r1 : List Cond := [Cond.methodLink RL 51 yX1_nextOf, Cond.instanceMethod yX1_nextOf, Cond.selects RX1 yX1_nextOf yX1_nextOf, Cond.initialized RX1, Cond.code yX1_nextOf cX1_nextOf 3 (some .int), Cond.methodLink RX1 40 yX1_checkGoblet, Cond.static yX1_checkGoblet, Cond.code yX1_checkGoblet cX1_checkGoblet 1 none, Cond.classLink RX1 85 "java/lang/IndexOutOfBoundsException", Cond.initialized "java/lang/IndexOutOfBoundsException", Cond.methodLink RX1 47 yX1_lowestAt, Cond.instanceMethod yX1_lowestAt, Cond.selects RX1 yX1_lowestAt yX1_lowestAt, Cond.code yX1_lowestAt cX1_lowestAt 3 (some .int), Cond.fieldLink RX1 14 "NumberGoblets" "lowest" "LNumberGoblets$Stretch;", Cond.methodLink RL 30 yX1_placeOf, Cond.instanceMethod yX1_placeOf, Cond.selects RX1 yX1_placeOf yX1_placeOf, Cond.code yX1_placeOf cX1_placeOf 3 (some .int), Cond.methodLink RL 33 yX1_inJug, Cond.instanceMethod yX1_inJug, Cond.selects RX1 yX1_inJug yX1_inJug, Cond.code yX1_inJug cX1_inJug 1 (some .int), Cond.methodLink RX1 36 yX1_numbersAt]
def wsL_isTakenBack_r2 : List Cond := [Cond.instanceMethod yX1_numbersAt, Cond.selects RX1 yX1_numbersAt yX1_numbersAt, Cond.code yX1_numbersAt cX1_numbersAt 2 (some .int), Cond.methodLink RX1 73 yX1_numbersAtBelow, Cond.instanceMethod yX1_numbersAtBelow, Cond.selects RX1 yX1_numbersAtBelow yX1_numbersAtBelow, Cond.code yX1_numbersAtBelow cX1_numbersAtBelow 5 (some .int), Cond.methodLink RX1 119 Lib.Math.min.name, Cond.static Lib.Math.min.name, Cond.initialized "java/lang/Math", Cond.code Lib.Math.min.name Lib.Math.min.code 2 (some .int), Cond.methodLink RL 45 yX1_drunk, Cond.instanceMethod yX1_drunk, Cond.selects RX1 yX1_drunk yX1_drunk, Cond.code yX1_drunk cX1_drunk 1 (some .int), Cond.methodLink RL 64 yX1_drink, Cond.instanceMethod yX1_drink, Cond.selects RX1 yX1_drink yX1_drink, Cond.code yX1_drink cX1_drink 3 (some .int), Cond.classLink RX1 50 "java/lang/IllegalStateException", Cond.initialized "java/lang/IllegalStateException", Cond.methodLink RX1 32 yX1_move, Cond.instanceMethod yX1_move, Cond.selects RX1 yX1_move yX1_move]
def wsL_isTakenBack_r3 : List Cond := [Cond.code yX1_move cX1_move 8 (some .int), Cond.instanceMethod yX0_shortenTo, Cond.initialized RX0, Cond.selects RX0 yX0_shortenTo yX0_shortenTo, Cond.code yX0_shortenTo cX0_shortenTo 3 none, Cond.fieldLink RX0 7 "NumberGoblets$Stretch" "first" "I", Cond.classLink RX0 8 RX0, Cond.instantiable RX0 4, Cond.fieldLink RX0 13 "NumberGoblets$Stretch" "last" "I", Cond.fieldLink RX0 16 "NumberGoblets$Stretch" "place" "I", Cond.fieldLink RX0 19 "NumberGoblets$Stretch" "next" "LNumberGoblets$Stretch;", Cond.methodLink RX0 23 yX0_length, Cond.instanceMethod yX0_length, Cond.selects RX0 yX0_length yX0_length, Cond.code yX0_length cX0_length 1 (some .int), Cond.methodLink RX0 27 yX0_init, Cond.instanceMethod yX0_init, Cond.code yX0_init cX0_init 5 none, Cond.methodLink RX0 1 objectInit, Cond.instanceMethod objectInit, Cond.code objectInit ⟨#[0xb1]⟩ 1 none, Cond.methodLink RX1 113 yX1_joinNeighbours, Cond.instanceMethod yX1_joinNeighbours, Cond.selects RX1 yX1_joinNeighbours yX1_joinNeighbours]
def wsL_isTakenBack_r4 : List Cond := [Cond.code yX1_joinNeighbours cX1_joinNeighbours 2 none, Cond.instanceMethod yX0_absorbNextOnesOfSamePlace, Cond.selects RX0 yX0_absorbNextOnesOfSamePlace yX0_absorbNextOnesOfSamePlace, Cond.code yX0_absorbNextOnesOfSamePlace cX0_absorbNextOnesOfSamePlace 2 none, Cond.methodLink RL 67 yX1_giveBack, Cond.instanceMethod yX1_giveBack, Cond.selects RX1 yX1_giveBack yX1_giveBack, Cond.code yX1_giveBack cX1_giveBack 2 (some .int), Cond.methodLink RX1 68 yX1_placeOf]
def wsL_isTakenBack : List Cond := .code yL_isTakenBack cL_isTakenBack 7 (some .boolean) :: ((wsL_isTakenBack_r1 ++ (wsL_isTakenBack_r2 ++ (wsL_isTakenBack_r3 ++ wsL_isTakenBack_r4))) ++ wsX10 ++ wsX00 ++ (vx_atS RX1 89 "java/lang/IndexOutOfBoundsException" ["java/lang/RuntimeException", "java/lang/Exception"]).filter goodWord ++ (vx_atS RX1 54 "java/lang/IllegalStateException" ["java/lang/RuntimeException", "java/lang/Exception"]).filter goodWord)
def wsL_isPassedRound_r1 : List Cond := [Cond.methodLink RL 8 yX1_inGoblet, Cond.instanceMethod yX1_inGoblet, Cond.selects RX1 yX1_inGoblet yX1_inGoblet, Cond.initialized RX1, Cond.code yX1_inGoblet cX1_inGoblet 2 (some .int), Cond.methodLink RX1 40 yX1_checkGoblet, Cond.static yX1_checkGoblet, Cond.code yX1_checkGoblet cX1_checkGoblet 1 none, Cond.classLink RX1 85 "java/lang/IndexOutOfBoundsException", Cond.initialized "java/lang/IndexOutOfBoundsException", Cond.methodLink RX1 36 yX1_numbersAt, Cond.instanceMethod yX1_numbersAt, Cond.selects RX1 yX1_numbersAt yX1_numbersAt, Cond.code yX1_numbersAt cX1_numbersAt 2 (some .int), Cond.methodLink RX1 73 yX1_numbersAtBelow, Cond.instanceMethod yX1_numbersAtBelow, Cond.selects RX1 yX1_numbersAtBelow yX1_numbersAtBelow, Cond.code yX1_numbersAtBelow cX1_numbersAtBelow 5 (some .int), Cond.fieldLink RX1 14 "NumberGoblets" "lowest" "LNumberGoblets$Stretch;", Cond.methodLink RX1 119 Lib.Math.min.name, Cond.static Lib.Math.min.name, Cond.initialized "java/lang/Math", Cond.code Lib.Math.min.name Lib.Math.min.code 2 (some .int), Cond.methodLink RL 33 yX1_inJug]
def wsL_isPassedRound_r2 : List Cond := [Cond.instanceMethod yX1_inJug, Cond.selects RX1 yX1_inJug yX1_inJug, Cond.code yX1_inJug cX1_inJug 1 (some .int), Cond.methodLink RL 70 yX1_share, Cond.instanceMethod yX1_share, Cond.selects RX1 yX1_share yX1_share, Cond.code yX1_share cX1_share 5 (some .int), Cond.classLink RX1 25 "java/lang/IllegalArgumentException", Cond.initialized "java/lang/IllegalArgumentException", Cond.methodLink RX1 63 Lib.Math.max.name, Cond.static Lib.Math.max.name, Cond.code Lib.Math.max.name Lib.Math.max.code 2 (some .int), Cond.methodLink RX1 44 yX1_checkCount, Cond.static yX1_checkCount, Cond.code yX1_checkCount cX1_checkCount 1 none, Cond.methodLink RX1 32 yX1_move, Cond.instanceMethod yX1_move, Cond.selects RX1 yX1_move yX1_move, Cond.code yX1_move cX1_move 8 (some .int), Cond.instanceMethod yX0_shortenTo, Cond.initialized RX0, Cond.selects RX0 yX0_shortenTo yX0_shortenTo, Cond.code yX0_shortenTo cX0_shortenTo 3 none, Cond.fieldLink RX0 7 "NumberGoblets$Stretch" "first" "I"]
def wsL_isPassedRound_r3 : List Cond := [Cond.classLink RX0 8 RX0, Cond.instantiable RX0 4, Cond.fieldLink RX0 13 "NumberGoblets$Stretch" "last" "I", Cond.fieldLink RX0 16 "NumberGoblets$Stretch" "place" "I", Cond.fieldLink RX0 19 "NumberGoblets$Stretch" "next" "LNumberGoblets$Stretch;", Cond.methodLink RX0 23 yX0_length, Cond.instanceMethod yX0_length, Cond.selects RX0 yX0_length yX0_length, Cond.code yX0_length cX0_length 1 (some .int), Cond.methodLink RX0 27 yX0_init, Cond.instanceMethod yX0_init, Cond.code yX0_init cX0_init 5 none, Cond.methodLink RX0 1 objectInit, Cond.instanceMethod objectInit, Cond.code objectInit ⟨#[0xb1]⟩ 1 none, Cond.methodLink RX1 113 yX1_joinNeighbours, Cond.instanceMethod yX1_joinNeighbours, Cond.selects RX1 yX1_joinNeighbours yX1_joinNeighbours, Cond.code yX1_joinNeighbours cX1_joinNeighbours 2 none, Cond.instanceMethod yX0_absorbNextOnesOfSamePlace, Cond.selects RX0 yX0_absorbNextOnesOfSamePlace yX0_absorbNextOnesOfSamePlace, Cond.code yX0_absorbNextOnesOfSamePlace cX0_absorbNextOnesOfSamePlace 2 none]
def wsL_isPassedRound : List Cond := .code yL_isPassedRound cL_isPassedRound 9 (some .boolean) :: ((wsL_isPassedRound_r1 ++ (wsL_isPassedRound_r2 ++ wsL_isPassedRound_r3)) ++ wsX10 ++ wsX00 ++ (vx_atS RX1 89 "java/lang/IndexOutOfBoundsException" ["java/lang/RuntimeException", "java/lang/Exception"]).filter goodWord ++ (vx_atS RX1 29 "java/lang/IllegalArgumentException" ["java/lang/RuntimeException", "java/lang/Exception"]).filter goodWord)
def wsL_law0_r1 : List Cond := [Cond.classLink RL 9 RX1, Cond.instantiable RX1 3, Cond.initialized RX1, Cond.methodLink RL 74 yX1_init, Cond.instanceMethod yX1_init, Cond.code yX1_init cX1_init 2 none, Cond.methodLink RX1 1 objectInit, Cond.instanceMethod objectInit, Cond.code objectInit ⟨#[0xb1]⟩ 1 none, Cond.classLink RX1 7 RX0, Cond.instantiable RX0 4, Cond.initialized RX0, Cond.fieldLink RX1 14 "NumberGoblets" "lowest" "LNumberGoblets$Stretch;", Cond.fieldLink RX1 18 "NumberGoblets" "size" "I", Cond.fieldLink RX1 22 "NumberGoblets" "round" "I", Cond.instanceMethod yX0_init, Cond.code yX0_init cX0_init 5 none, Cond.methodLink RX0 1 objectInit, Cond.fieldLink RX0 7 "NumberGoblets$Stretch" "first" "I", Cond.fieldLink RX0 13 "NumberGoblets$Stretch" "last" "I", Cond.fieldLink RX0 16 "NumberGoblets$Stretch" "place" "I", Cond.fieldLink RX0 19 "NumberGoblets$Stretch" "next" "LNumberGoblets$Stretch;", Cond.methodLink RL 75 yL_drawn, Cond.static yL_drawn]
def wsL_law0_r2 : List Cond := [Cond.initialized RL, Cond.code yL_drawn cL_drawn 4 (some .int), Cond.constant RL 7 (44537), Cond.methodLink RL 33 yX1_inJug, Cond.instanceMethod yX1_inJug, Cond.selects RX1 yX1_inJug yX1_inJug, Cond.code yX1_inJug cX1_inJug 1 (some .int), Cond.methodLink RX1 36 yX1_numbersAt, Cond.instanceMethod yX1_numbersAt, Cond.selects RX1 yX1_numbersAt yX1_numbersAt, Cond.code yX1_numbersAt cX1_numbersAt 2 (some .int), Cond.methodLink RX1 73 yX1_numbersAtBelow, Cond.instanceMethod yX1_numbersAtBelow, Cond.selects RX1 yX1_numbersAtBelow yX1_numbersAtBelow, Cond.code yX1_numbersAtBelow cX1_numbersAtBelow 5 (some .int), Cond.methodLink RX1 119 Lib.Math.min.name, Cond.static Lib.Math.min.name, Cond.initialized "java/lang/Math", Cond.code Lib.Math.min.name Lib.Math.min.code 2 (some .int), Cond.methodLink RL 57 yX1_pour, Cond.instanceMethod yX1_pour, Cond.selects RX1 yX1_pour yX1_pour, Cond.code yX1_pour cX1_pour 3 (some .int), Cond.classLink RX1 50 "java/lang/IllegalStateException"]
def wsL_law0_r3 : List Cond := [Cond.initialized "java/lang/IllegalStateException", Cond.methodLink RX1 40 yX1_checkGoblet, Cond.static yX1_checkGoblet, Cond.code yX1_checkGoblet cX1_checkGoblet 1 none, Cond.classLink RX1 85 "java/lang/IndexOutOfBoundsException", Cond.initialized "java/lang/IndexOutOfBoundsException", Cond.methodLink RX1 44 yX1_checkCount, Cond.static yX1_checkCount, Cond.code yX1_checkCount cX1_checkCount 1 none, Cond.classLink RX1 25 "java/lang/IllegalArgumentException", Cond.initialized "java/lang/IllegalArgumentException", Cond.methodLink RX1 47 yX1_lowestAt, Cond.instanceMethod yX1_lowestAt, Cond.selects RX1 yX1_lowestAt yX1_lowestAt, Cond.code yX1_lowestAt cX1_lowestAt 3 (some .int), Cond.methodLink RX1 32 yX1_move, Cond.instanceMethod yX1_move, Cond.selects RX1 yX1_move yX1_move, Cond.code yX1_move cX1_move 8 (some .int), Cond.instanceMethod yX0_shortenTo, Cond.selects RX0 yX0_shortenTo yX0_shortenTo, Cond.code yX0_shortenTo cX0_shortenTo 3 none, Cond.classLink RX0 8 RX0, Cond.methodLink RX0 23 yX0_length]
def wsL_law0_r4 : List Cond := [Cond.instanceMethod yX0_length, Cond.selects RX0 yX0_length yX0_length, Cond.code yX0_length cX0_length 1 (some .int), Cond.methodLink RX0 27 yX0_init, Cond.methodLink RX1 113 yX1_joinNeighbours, Cond.instanceMethod yX1_joinNeighbours, Cond.selects RX1 yX1_joinNeighbours yX1_joinNeighbours, Cond.code yX1_joinNeighbours cX1_joinNeighbours 2 none, Cond.instanceMethod yX0_absorbNextOnesOfSamePlace, Cond.selects RX0 yX0_absorbNextOnesOfSamePlace yX0_absorbNextOnesOfSamePlace, Cond.code yX0_absorbNextOnesOfSamePlace cX0_absorbNextOnesOfSamePlace 2 none, Cond.methodLink RL 51 yX1_nextOf, Cond.instanceMethod yX1_nextOf, Cond.selects RX1 yX1_nextOf yX1_nextOf, Cond.code yX1_nextOf cX1_nextOf 3 (some .int), Cond.methodLink RL 64 yX1_drink, Cond.instanceMethod yX1_drink, Cond.selects RX1 yX1_drink yX1_drink, Cond.code yX1_drink cX1_drink 3 (some .int), Cond.methodLink RL 8 yX1_inGoblet, Cond.instanceMethod yX1_inGoblet, Cond.selects RX1 yX1_inGoblet yX1_inGoblet, Cond.code yX1_inGoblet cX1_inGoblet 2 (some .int), Cond.methodLink RL 48 yX1_spilt]
def wsL_law0_r5 : List Cond := [Cond.instanceMethod yX1_spilt, Cond.selects RX1 yX1_spilt yX1_spilt, Cond.code yX1_spilt cX1_spilt 1 (some .int), Cond.methodLink RL 79 yX1_spill, Cond.instanceMethod yX1_spill, Cond.selects RX1 yX1_spill yX1_spill, Cond.code yX1_spill cX1_spill 2 (some .int), Cond.methodLink RX1 57 yX1_moveAll, Cond.instanceMethod yX1_moveAll, Cond.selects RX1 yX1_moveAll yX1_moveAll, Cond.code yX1_moveAll cX1_moveAll 3 (some .int), Cond.methodLink RL 27 yX1_size, Cond.instanceMethod yX1_size, Cond.selects RX1 yX1_size yX1_size, Cond.code yX1_size cX1_size 1 (some .int), Cond.methodLink RL 82 yX1_enlarge, Cond.instanceMethod yX1_enlarge, Cond.selects RX1 yX1_enlarge yX1_enlarge, Cond.code yX1_enlarge cX1_enlarge 2 (some .int), Cond.methodLink RL 24 yX1_ranges, Cond.instanceMethod yX1_ranges, Cond.selects RX1 yX1_ranges yX1_ranges, Cond.code yX1_ranges cX1_ranges 1 (some .int), Cond.methodLink RX1 78 yX1_rangesAt]
def wsL_law0_r6 : List Cond := [Cond.instanceMethod yX1_rangesAt, Cond.selects RX1 yX1_rangesAt yX1_rangesAt, Cond.code yX1_rangesAt cX1_rangesAt 4 (some .int), Cond.methodLink RL 18 yX1_rangeTo, Cond.instanceMethod yX1_rangeTo, Cond.selects RX1 yX1_rangeTo yX1_rangeTo, Cond.code yX1_rangeTo cX1_rangeTo 3 (some .int), Cond.methodLink RX1 81 yX1_rangeOfJug, Cond.instanceMethod yX1_rangeOfJug, Cond.selects RX1 yX1_rangeOfJug yX1_rangeOfJug, Cond.code yX1_rangeOfJug cX1_rangeOfJug 4 (some (.object "NumberGoblets$Stretch")), Cond.methodLink RL 85 yL_isThereAndBack, Cond.static yL_isThereAndBack, Cond.code yL_isThereAndBack cL_isThereAndBack 9 (some .boolean), Cond.methodLink RL 21 yX1_rangeFrom, Cond.instanceMethod yX1_rangeFrom, Cond.selects RX1 yX1_rangeFrom yX1_rangeFrom, Cond.code yX1_rangeFrom cX1_rangeFrom 3 (some .int), Cond.methodLink RL 14 yX1_longestRange, Cond.instanceMethod yX1_longestRange, Cond.selects RX1 yX1_longestRange yX1_longestRange, Cond.code yX1_longestRange cX1_longestRange 5 (some .int), Cond.methodLink RL 54 yX1_rangesOf, Cond.instanceMethod yX1_rangesOf]
def wsL_law0_r7 : List Cond := [Cond.selects RX1 yX1_rangesOf yX1_rangesOf, Cond.code yX1_rangesOf cX1_rangesOf 2 (some .int), Cond.methodLink RL 61 yX1_pourBack, Cond.instanceMethod yX1_pourBack, Cond.selects RX1 yX1_pourBack yX1_pourBack, Cond.code yX1_pourBack cX1_pourBack 2 (some .int), Cond.methodLink RL 89 yL_isTakenBack, Cond.static yL_isTakenBack, Cond.code yL_isTakenBack cL_isTakenBack 7 (some .boolean), Cond.methodLink RL 30 yX1_placeOf, Cond.instanceMethod yX1_placeOf, Cond.selects RX1 yX1_placeOf yX1_placeOf, Cond.code yX1_placeOf cX1_placeOf 3 (some .int), Cond.methodLink RL 45 yX1_drunk, Cond.instanceMethod yX1_drunk, Cond.selects RX1 yX1_drunk yX1_drunk, Cond.code yX1_drunk cX1_drunk 1 (some .int), Cond.methodLink RL 67 yX1_giveBack, Cond.instanceMethod yX1_giveBack, Cond.selects RX1 yX1_giveBack yX1_giveBack, Cond.code yX1_giveBack cX1_giveBack 2 (some .int), Cond.methodLink RX1 68 yX1_placeOf, Cond.methodLink RL 93 yL_isPassedRound, Cond.static yL_isPassedRound]
def wsL_law0_r8 : List Cond := [Cond.code yL_isPassedRound cL_isPassedRound 9 (some .boolean), Cond.methodLink RL 70 yX1_share, Cond.instanceMethod yX1_share, Cond.selects RX1 yX1_share yX1_share, Cond.code yX1_share cX1_share 5 (some .int), Cond.methodLink RX1 63 Lib.Math.max.name, Cond.static Lib.Math.max.name, Cond.code Lib.Math.max.name Lib.Math.max.code 2 (some .int), Cond.methodLink RL 97 yL_isAllSomewhere, Cond.static yL_isAllSomewhere, Cond.code yL_isAllSomewhere cL_isAllSomewhere 5 (some .boolean), Cond.methodLink RL 36 yX1_lowestLeft, Cond.instanceMethod yX1_lowestLeft, Cond.selects RX1 yX1_lowestLeft yX1_lowestLeft, Cond.code yX1_lowestLeft cX1_lowestLeft 2 (some .int), Cond.methodLink RL 39 yL_inGoblets, Cond.static yL_inGoblets, Cond.code yL_inGoblets cL_inGoblets 3 (some .int), Cond.methodLink RL 101 yL_areRangesApart, Cond.static yL_areRangesApart, Cond.code yL_areRangesApart cL_areRangesApart 10 (some .boolean), Cond.methodLink RL 104 yX1_round, Cond.instanceMethod yX1_round, Cond.selects RX1 yX1_round yX1_round]
def wsL_law0_r9 : List Cond := [Cond.code yX1_round cX1_round 1 (some .int), Cond.methodLink RL 107 yX1_nextRound, Cond.instanceMethod yX1_nextRound, Cond.selects RX1 yX1_nextRound yX1_nextRound, Cond.code yX1_nextRound cX1_nextRound 1 (some .int)]
def wsL_law0 : List Cond := (wsL_law0_r1 ++ (wsL_law0_r2 ++ (wsL_law0_r3 ++ (wsL_law0_r4 ++ (wsL_law0_r5 ++ (wsL_law0_r6 ++ (wsL_law0_r7 ++ (wsL_law0_r8 ++ wsL_law0_r9)))))))) ++ wsX10 ++ wsX00 ++ ([] : List Cond)
def wsL_law : List Cond := wsL_law0 ++ (vx_atS RX1 54 "java/lang/IllegalStateException" ["java/lang/RuntimeException", "java/lang/Exception"]).filter goodWord ++ (vx_atS RX1 89 "java/lang/IndexOutOfBoundsException" ["java/lang/RuntimeException", "java/lang/Exception"]).filter goodWord ++ (vx_atS RX1 29 "java/lang/IllegalArgumentException" ["java/lang/RuntimeException", "java/lang/Exception"]).filter goodWord
set_option maxRecDepth 20000 in
theorem wsL_law_in0 : ∀ w ∈ wsL_law0, w ∈ lw_tbl := fun w h => (goodIn_p wsL_law0 [26, 29, 34, 289, 245, 161, 165, 168, 172, 175, 194, 199, 138, 142, 146, 153, 157, 274, 219, 270, 282, 224, 228, 237, 66, 249, 253, 266, 261, 314, 257, 297, 311, 318, 321, 301, 278, 325, 330, 334, 338, 304, 286, 307, 293, 241, 232] (by decide +kernel) (by decide +kernel) w h).1
theorem wsL_law_x0 : ∀ w ∈ (vx_atS RX1 54 "java/lang/IllegalStateException" ["java/lang/RuntimeException", "java/lang/Exception"]).filter goodWord, w ∈ lw_tbl := by decide +kernel
theorem wsL_law_x1 : ∀ w ∈ (vx_atS RX1 89 "java/lang/IndexOutOfBoundsException" ["java/lang/RuntimeException", "java/lang/Exception"]).filter goodWord, w ∈ lw_tbl := by decide +kernel
theorem wsL_law_x2 : ∀ w ∈ (vx_atS RX1 29 "java/lang/IllegalArgumentException" ["java/lang/RuntimeException", "java/lang/Exception"]).filter goodWord, w ∈ lw_tbl := by decide +kernel
theorem wsL_law_in : ∀ w ∈ wsL_law, w ∈ lw_tbl := fun w h => (List.mem_append.mp h).elim (fun h => (List.mem_append.mp h).elim (fun h => (List.mem_append.mp h).elim (fun h => wsL_law_in0 w h) (fun h => wsL_law_x0 w h)) (fun h => wsL_law_x1 w h)) (fun h => wsL_law_x2 w h)
theorem inlX0 : ∀ w ∈ wsX00, w ∈ wsL_law := fun _ h => List.mem_append_left _ (List.mem_append_left _ (List.mem_append_left _ (List.mem_append_left _ (List.mem_append_right _ h))))
theorem inX0 : ∀ w ∈ wsX00, w ∈ lw_tbl := fun w h => wsL_law_in w (inlX0 w h)
theorem inlX1 : ∀ w ∈ wsX10, w ∈ wsL_law := fun _ h => List.mem_append_left _ (List.mem_append_left _ (List.mem_append_left _ (List.mem_append_left _ (List.mem_append_left _ (List.mem_append_right _ h)))))
theorem inX1 : ∀ w ∈ wsX10, w ∈ lw_tbl := fun w h => wsL_law_in w (inlX1 w h)
theorem inX2 : ∀ w ∈ wsX20, w ∈ lw_tbl := by decide +kernel
theorem inJ9 : ∀ w ∈ wsJ90, w ∈ lw_tbl := by decide +kernel
theorem inJ0 : ∀ w ∈ wsJ00, w ∈ lw_tbl := by decide +kernel
abbrev vwCl : List vw_C := [(RX0, TX0, 4), (RX1, TX1, 3)]
end
section
theorem dX0_init_0 : decode cX0_init 0 = .ok (.aload_n 0, 1) := by decide +kernel
theorem dX0_init_1 : decode cX0_init 1 = .ok (.invokespecial 1, 3) := by decide +kernel
theorem dX0_init_4 : decode cX0_init 4 = .ok (.aload_n 0, 1) := by decide +kernel
theorem dX0_init_5 : decode cX0_init 5 = .ok (.iload_n 1, 1) := by decide +kernel
theorem dX0_init_6 : decode cX0_init 6 = .ok (.putfield 7, 3) := by decide +kernel
theorem dX0_init_9 : decode cX0_init 9 = .ok (.aload_n 0, 1) := by decide +kernel
theorem dX0_init_10 : decode cX0_init 10 = .ok (.iload_n 2, 1) := by decide +kernel
theorem dX0_init_11 : decode cX0_init 11 = .ok (.putfield 13, 3) := by decide +kernel
theorem dX0_init_14 : decode cX0_init 14 = .ok (.aload_n 0, 1) := by decide +kernel
theorem dX0_init_15 : decode cX0_init 15 = .ok (.iload_n 3, 1) := by decide +kernel
theorem dX0_init_16 : decode cX0_init 16 = .ok (.putfield 16, 3) := by decide +kernel
theorem dX0_init_19 : decode cX0_init 19 = .ok (.aload_n 0, 1) := by decide +kernel
theorem dX0_init_20 : decode cX0_init 20 = .ok (.aload 4, 2) := by decide +kernel
theorem dX0_init_22 : decode cX0_init 22 = .ok (.putfield 19, 3) := by decide +kernel
theorem dX0_init_25 : decode cX0_init 25 = .ok (.return_, 1) := by decide +kernel
theorem dX0_length_0 : decode cX0_length 0 = .ok (.aload_n 0, 1) := by decide +kernel
theorem dX0_length_1 : decode cX0_length 1 = .ok (.getfield 13, 3) := by decide +kernel
theorem dX0_length_4 : decode cX0_length 4 = .ok (.aload_n 0, 1) := by decide +kernel
theorem dX0_length_5 : decode cX0_length 5 = .ok (.getfield 7, 3) := by decide +kernel
theorem dX0_length_8 : decode cX0_length 8 = .ok (.isub, 1) := by decide +kernel
theorem dX0_length_9 : decode cX0_length 9 = .ok (.iconst 1, 1) := by decide +kernel
theorem dX0_length_10 : decode cX0_length 10 = .ok (.iadd, 1) := by decide +kernel
theorem dX0_length_11 : decode cX0_length 11 = .ok (.ireturn, 1) := by decide +kernel
set_option maxRecDepth 20000 in
theorem ggX0_shortenTo_X0_length : GoodIn wsX0_shortenTo wsX0_length := goodIn_r _ [11, 5, 1, 18, 19, 20, 21] (by decide +kernel) (by decide +kernel)
set_option maxRecDepth 20000 in
theorem gX0_shortenTo_X0_length : GoodIn wsX0_shortenTo (wsV RX0 23 RX0 yX0_length wsX0_length) := goodIn_app (goodIn_of _ (by decide +kernel)) ggX0_shortenTo_X0_length
set_option maxRecDepth 20000 in
theorem ggX0_shortenTo_X0_init : GoodIn wsX0_shortenTo wsX0_init := goodIn_r _ [14, 15, 16, 17, 1, 5, 6, 7, 18, 19, 20, 21] (by decide +kernel) (by decide +kernel)
set_option maxRecDepth 20000 in
theorem gX0_shortenTo_X0_init : GoodIn wsX0_shortenTo (wsX0_init) := ggX0_shortenTo_X0_init
theorem dX0_shortenTo_0 : decode cX0_shortenTo 0 = .ok (.aload_n 0, 1) := by decide +kernel
theorem dX0_shortenTo_1 : decode cX0_shortenTo 1 = .ok (.invokevirtual 23, 3) := by decide +kernel
theorem dX0_shortenTo_4 : decode cX0_shortenTo 4 = .ok (.iload_n 1, 1) := by decide +kernel
theorem dX0_shortenTo_5 : decode cX0_shortenTo 5 = .ok (.if_icmp .le 43, 3) := by decide +kernel
theorem dX0_shortenTo_8 : decode cX0_shortenTo 8 = .ok (.aload_n 0, 1) := by decide +kernel
theorem dX0_shortenTo_9 : decode cX0_shortenTo 9 = .ok (.getfield 7, 3) := by decide +kernel
theorem dX0_shortenTo_12 : decode cX0_shortenTo 12 = .ok (.iload_n 1, 1) := by decide +kernel
theorem dX0_shortenTo_13 : decode cX0_shortenTo 13 = .ok (.iadd, 1) := by decide +kernel
theorem dX0_shortenTo_14 : decode cX0_shortenTo 14 = .ok (.iconst 1, 1) := by decide +kernel
theorem dX0_shortenTo_15 : decode cX0_shortenTo 15 = .ok (.isub, 1) := by decide +kernel
theorem dX0_shortenTo_16 : decode cX0_shortenTo 16 = .ok (.istore_n 2, 1) := by decide +kernel
theorem dX0_shortenTo_17 : decode cX0_shortenTo 17 = .ok (.aload_n 0, 1) := by decide +kernel
theorem dX0_shortenTo_18 : decode cX0_shortenTo 18 = .ok (.new 8, 3) := by decide +kernel
theorem dX0_shortenTo_21 : decode cX0_shortenTo 21 = .ok (.dup, 1) := by decide +kernel
theorem dX0_shortenTo_22 : decode cX0_shortenTo 22 = .ok (.iload_n 2, 1) := by decide +kernel
theorem dX0_shortenTo_23 : decode cX0_shortenTo 23 = .ok (.iconst 1, 1) := by decide +kernel
theorem dX0_shortenTo_24 : decode cX0_shortenTo 24 = .ok (.iadd, 1) := by decide +kernel
theorem dX0_shortenTo_25 : decode cX0_shortenTo 25 = .ok (.aload_n 0, 1) := by decide +kernel
theorem dX0_shortenTo_26 : decode cX0_shortenTo 26 = .ok (.getfield 13, 3) := by decide +kernel
theorem dX0_shortenTo_29 : decode cX0_shortenTo 29 = .ok (.aload_n 0, 1) := by decide +kernel
theorem dX0_shortenTo_30 : decode cX0_shortenTo 30 = .ok (.getfield 16, 3) := by decide +kernel
theorem dX0_shortenTo_33 : decode cX0_shortenTo 33 = .ok (.aload_n 0, 1) := by decide +kernel
theorem dX0_shortenTo_34 : decode cX0_shortenTo 34 = .ok (.getfield 19, 3) := by decide +kernel
theorem dX0_shortenTo_37 : decode cX0_shortenTo 37 = .ok (.invokespecial 27, 3) := by decide +kernel
theorem dX0_shortenTo_40 : decode cX0_shortenTo 40 = .ok (.putfield 19, 3) := by decide +kernel
theorem dX0_shortenTo_43 : decode cX0_shortenTo 43 = .ok (.aload_n 0, 1) := by decide +kernel
theorem dX0_shortenTo_44 : decode cX0_shortenTo 44 = .ok (.iload_n 2, 1) := by decide +kernel
theorem dX0_shortenTo_45 : decode cX0_shortenTo 45 = .ok (.putfield 13, 3) := by decide +kernel
theorem dX0_shortenTo_48 : decode cX0_shortenTo 48 = .ok (.return_, 1) := by decide +kernel
theorem dX0_absorbNextOnesOfSamePlace_0 : decode cX0_absorbNextOnesOfSamePlace 0 = .ok (.aload_n 0, 1) := by decide +kernel
theorem dX0_absorbNextOnesOfSamePlace_1 : decode cX0_absorbNextOnesOfSamePlace 1 = .ok (.getfield 19, 3) := by decide +kernel
theorem dX0_absorbNextOnesOfSamePlace_4 : decode cX0_absorbNextOnesOfSamePlace 4 = .ok (.astore_n 1, 1) := by decide +kernel
theorem dX0_absorbNextOnesOfSamePlace_5 : decode cX0_absorbNextOnesOfSamePlace 5 = .ok (.aload_n 1, 1) := by decide +kernel
theorem dX0_absorbNextOnesOfSamePlace_6 : decode cX0_absorbNextOnesOfSamePlace 6 = .ok (.ifnull 30, 3) := by decide +kernel
theorem dX0_absorbNextOnesOfSamePlace_9 : decode cX0_absorbNextOnesOfSamePlace 9 = .ok (.aload_n 1, 1) := by decide +kernel
theorem dX0_absorbNextOnesOfSamePlace_10 : decode cX0_absorbNextOnesOfSamePlace 10 = .ok (.getfield 16, 3) := by decide +kernel
theorem dX0_absorbNextOnesOfSamePlace_13 : decode cX0_absorbNextOnesOfSamePlace 13 = .ok (.aload_n 0, 1) := by decide +kernel
theorem dX0_absorbNextOnesOfSamePlace_14 : decode cX0_absorbNextOnesOfSamePlace 14 = .ok (.getfield 16, 3) := by decide +kernel
theorem dX0_absorbNextOnesOfSamePlace_17 : decode cX0_absorbNextOnesOfSamePlace 17 = .ok (.if_icmp .ne 19, 3) := by decide +kernel
theorem dX0_absorbNextOnesOfSamePlace_20 : decode cX0_absorbNextOnesOfSamePlace 20 = .ok (.aload_n 0, 1) := by decide +kernel
theorem dX0_absorbNextOnesOfSamePlace_21 : decode cX0_absorbNextOnesOfSamePlace 21 = .ok (.aload_n 1, 1) := by decide +kernel
theorem dX0_absorbNextOnesOfSamePlace_22 : decode cX0_absorbNextOnesOfSamePlace 22 = .ok (.getfield 13, 3) := by decide +kernel
theorem dX0_absorbNextOnesOfSamePlace_25 : decode cX0_absorbNextOnesOfSamePlace 25 = .ok (.putfield 13, 3) := by decide +kernel
theorem dX0_absorbNextOnesOfSamePlace_28 : decode cX0_absorbNextOnesOfSamePlace 28 = .ok (.aload_n 1, 1) := by decide +kernel
theorem dX0_absorbNextOnesOfSamePlace_29 : decode cX0_absorbNextOnesOfSamePlace 29 = .ok (.getfield 19, 3) := by decide +kernel
theorem dX0_absorbNextOnesOfSamePlace_32 : decode cX0_absorbNextOnesOfSamePlace 32 = .ok (.astore_n 1, 1) := by decide +kernel
theorem dX0_absorbNextOnesOfSamePlace_33 : decode cX0_absorbNextOnesOfSamePlace 33 = .ok (.goto (-28), 3) := by decide +kernel
theorem dX0_absorbNextOnesOfSamePlace_36 : decode cX0_absorbNextOnesOfSamePlace 36 = .ok (.aload_n 0, 1) := by decide +kernel
theorem dX0_absorbNextOnesOfSamePlace_37 : decode cX0_absorbNextOnesOfSamePlace 37 = .ok (.aload_n 1, 1) := by decide +kernel
theorem dX0_absorbNextOnesOfSamePlace_38 : decode cX0_absorbNextOnesOfSamePlace 38 = .ok (.putfield 19, 3) := by decide +kernel
theorem dX0_absorbNextOnesOfSamePlace_41 : decode cX0_absorbNextOnesOfSamePlace 41 = .ok (.return_, 1) := by decide +kernel
set_option maxRecDepth 20000 in
theorem ggX1_init_X0_init : GoodIn wsX1_init wsX0_init := goodIn_r _ [11, 12, 2, 3, 13, 14, 15, 16, 17, 18, 19, 20] (by decide +kernel) (by decide +kernel)
set_option maxRecDepth 20000 in
theorem gX1_init_X0_init_n11 : GoodIn wsX1_init (wsX0_init) := ggX1_init_X0_init
theorem dX1_init_0 : decode cX1_init 0 = .ok (.aload_n 0, 1) := by decide +kernel
theorem dX1_init_1 : decode cX1_init 1 = .ok (.invokespecial 1, 3) := by decide +kernel
theorem dX1_init_4 : decode cX1_init 4 = .ok (.new 7, 3) := by decide +kernel
theorem dX1_init_7 : decode cX1_init 7 = .ok (.dup, 1) := by decide +kernel
theorem dX1_init_8 : decode cX1_init 8 = .ok (.bipush 101, 2) := by decide +kernel
theorem dX1_init_10 : decode cX1_init 10 = .ok (.sipush 5000, 3) := by decide +kernel
theorem dX1_init_13 : decode cX1_init 13 = .ok (.iconst (-1), 1) := by decide +kernel
theorem dX1_init_14 : decode cX1_init 14 = .ok (.aconst_null, 1) := by decide +kernel
theorem dX1_init_15 : decode cX1_init 15 = .ok (.invokespecial 11, 3) := by decide +kernel
theorem dX1_init_18 : decode cX1_init 18 = .ok (.astore_n 1, 1) := by decide +kernel
theorem dX1_init_19 : decode cX1_init 19 = .ok (.aload_n 0, 1) := by decide +kernel
theorem dX1_init_20 : decode cX1_init 20 = .ok (.new 7, 3) := by decide +kernel
theorem dX1_init_23 : decode cX1_init 23 = .ok (.dup, 1) := by decide +kernel
theorem dX1_init_24 : decode cX1_init 24 = .ok (.iconst 1, 1) := by decide +kernel
theorem dX1_init_25 : decode cX1_init 25 = .ok (.bipush 100, 2) := by decide +kernel
theorem dX1_init_27 : decode cX1_init 27 = .ok (.bipush 8, 2) := by decide +kernel
theorem dX1_init_29 : decode cX1_init 29 = .ok (.aload_n 1, 1) := by decide +kernel
theorem dX1_init_30 : decode cX1_init 30 = .ok (.invokespecial 11, 3) := by decide +kernel
theorem dX1_init_33 : decode cX1_init 33 = .ok (.putfield 14, 3) := by decide +kernel
theorem dX1_init_36 : decode cX1_init 36 = .ok (.aload_n 0, 1) := by decide +kernel
theorem dX1_init_37 : decode cX1_init 37 = .ok (.bipush 100, 2) := by decide +kernel
theorem dX1_init_39 : decode cX1_init 39 = .ok (.putfield 18, 3) := by decide +kernel
theorem dX1_init_42 : decode cX1_init 42 = .ok (.aload_n 0, 1) := by decide +kernel
theorem dX1_init_43 : decode cX1_init 43 = .ok (.iconst 1, 1) := by decide +kernel
theorem dX1_init_44 : decode cX1_init 44 = .ok (.putfield 22, 3) := by decide +kernel
theorem dX1_init_47 : decode cX1_init 47 = .ok (.return_, 1) := by decide +kernel
set_option maxRecDepth 20000 in
theorem ggX1_enlarge_X1_move : GoodIn wsX1_enlarge wsX1_move := goodIn_r _ [8, 9, 10, 11, 12, 13, 14, 15, 16, 17, 18, 19, 20, 21, 22, 23, 24, 25, 26, 27, 28, 29, 30, 31, 32, 7, 33, 34, 35, 36, 49, 50, 51, 52, 53, 54, 55] (by decide +kernel) (by decide +kernel)
set_option maxRecDepth 20000 in
theorem gX1_enlarge_X1_move : GoodIn wsX1_enlarge (wsV RX1 32 RX1 yX1_move wsX1_move) := goodIn_app (goodIn_of _ (by decide +kernel)) ggX1_enlarge_X1_move
set_option maxRecDepth 20000 in
theorem ggX1_enlarge_X1_numbersAt : GoodIn wsX1_enlarge wsX1_numbersAt := goodIn_r _ [40, 41, 42, 43, 7, 44, 9, 45, 46, 47, 48, 49, 50, 51, 52, 53, 54, 55] (by decide +kernel) (by decide +kernel)
set_option maxRecDepth 20000 in
theorem gX1_enlarge_X1_numbersAt : GoodIn wsX1_enlarge (wsV RX1 36 RX1 yX1_numbersAt wsX1_numbersAt) := goodIn_app (goodIn_of _ (by decide +kernel)) ggX1_enlarge_X1_numbersAt
theorem dX1_enlarge_0 : decode cX1_enlarge 0 = .ok (.iload_n 1, 1) := by decide +kernel
theorem dX1_enlarge_1 : decode cX1_enlarge 1 = .ok (.aload_n 0, 1) := by decide +kernel
theorem dX1_enlarge_2 : decode cX1_enlarge 2 = .ok (.getfield 18, 3) := by decide +kernel
theorem dX1_enlarge_5 : decode cX1_enlarge 5 = .ok (.if_icmp .le 10, 3) := by decide +kernel
theorem dX1_enlarge_8 : decode cX1_enlarge 8 = .ok (.iload_n 1, 1) := by decide +kernel
theorem dX1_enlarge_9 : decode cX1_enlarge 9 = .ok (.sipush 5000, 3) := by decide +kernel
theorem dX1_enlarge_12 : decode cX1_enlarge 12 = .ok (.if_icmp .le 13, 3) := by decide +kernel
theorem dX1_enlarge_15 : decode cX1_enlarge 15 = .ok (.new 25, 3) := by decide +kernel
theorem dX1_enlarge_18 : decode cX1_enlarge 18 = .ok (.dup, 1) := by decide +kernel
theorem dX1_enlarge_19 : decode cX1_enlarge 19 = .ok (.ldc 27, 2) := by decide +kernel
theorem dX1_enlarge_21 : decode cX1_enlarge 21 = .ok (.invokespecial 29, 3) := by decide +kernel
theorem dX1_enlarge_24 : decode cX1_enlarge 24 = .ok (.athrow, 1) := by decide +kernel
theorem dX1_enlarge_25 : decode cX1_enlarge 25 = .ok (.aload_n 0, 1) := by decide +kernel
theorem dX1_enlarge_26 : decode cX1_enlarge 26 = .ok (.iconst (-1), 1) := by decide +kernel
theorem dX1_enlarge_27 : decode cX1_enlarge 27 = .ok (.bipush 8, 2) := by decide +kernel
theorem dX1_enlarge_29 : decode cX1_enlarge 29 = .ok (.iconst 0, 1) := by decide +kernel
theorem dX1_enlarge_30 : decode cX1_enlarge 30 = .ok (.iload_n 1, 1) := by decide +kernel
theorem dX1_enlarge_31 : decode cX1_enlarge 31 = .ok (.aload_n 0, 1) := by decide +kernel
theorem dX1_enlarge_32 : decode cX1_enlarge 32 = .ok (.getfield 18, 3) := by decide +kernel
theorem dX1_enlarge_35 : decode cX1_enlarge 35 = .ok (.isub, 1) := by decide +kernel
theorem dX1_enlarge_36 : decode cX1_enlarge 36 = .ok (.invokevirtual 32, 3) := by decide +kernel
theorem dX1_enlarge_39 : decode cX1_enlarge 39 = .ok (.pop, 1) := by decide +kernel
theorem dX1_enlarge_40 : decode cX1_enlarge 40 = .ok (.aload_n 0, 1) := by decide +kernel
theorem dX1_enlarge_41 : decode cX1_enlarge 41 = .ok (.iload_n 1, 1) := by decide +kernel
theorem dX1_enlarge_42 : decode cX1_enlarge 42 = .ok (.putfield 18, 3) := by decide +kernel
theorem dX1_enlarge_45 : decode cX1_enlarge 45 = .ok (.aload_n 0, 1) := by decide +kernel
theorem dX1_enlarge_46 : decode cX1_enlarge 46 = .ok (.bipush 8, 2) := by decide +kernel
theorem dX1_enlarge_48 : decode cX1_enlarge 48 = .ok (.invokevirtual 36, 3) := by decide +kernel
theorem dX1_enlarge_51 : decode cX1_enlarge 51 = .ok (.ireturn, 1) := by decide +kernel
set_option maxRecDepth 20000 in
theorem ggX1_pour_X1_checkGoblet : GoodIn wsX1_pour wsX1_checkGoblet := goodIn_ca (goodIn_r _ [6, 7, 8] (by decide +kernel) (by decide +kernel)) (goodIn_sub (fun _ h => List.mem_cons_of_mem _ (List.mem_append_left _ (List.mem_append_right _ h))) (by decide +kernel))
set_option maxRecDepth 20000 in
theorem gX1_pour_X1_checkGoblet : GoodIn wsX1_pour (va_wsS RX1 40 yX1_checkGoblet wsX1_checkGoblet) := goodIn_app (goodIn_of _ (by decide +kernel)) ggX1_pour_X1_checkGoblet
set_option maxRecDepth 20000 in
theorem ggX1_pour_X1_checkCount : GoodIn wsX1_pour wsX1_checkCount := goodIn_ca (goodIn_r _ [11, 12, 13] (by decide +kernel) (by decide +kernel)) (goodIn_sub (fun _ h => List.mem_cons_of_mem _ (List.mem_append_right _ h)) (by decide +kernel))
set_option maxRecDepth 20000 in
theorem gX1_pour_X1_checkCount : GoodIn wsX1_pour (va_wsS RX1 44 yX1_checkCount wsX1_checkCount) := goodIn_app (goodIn_of _ (by decide +kernel)) ggX1_pour_X1_checkCount
set_option maxRecDepth 20000 in
theorem ggX1_pour_X1_lowestAt : GoodIn wsX1_pour wsX1_lowestAt := goodIn_r _ [17, 18, 50, 51, 52, 53, 54, 55, 56] (by decide +kernel) (by decide +kernel)
set_option maxRecDepth 20000 in
theorem gX1_pour_X1_lowestAt : GoodIn wsX1_pour (wsV RX1 47 RX1 yX1_lowestAt wsX1_lowestAt) := goodIn_app (goodIn_of _ (by decide +kernel)) ggX1_pour_X1_lowestAt
set_option maxRecDepth 20000 in
theorem ggX1_pour_X1_move : GoodIn wsX1_pour wsX1_move := goodIn_r _ [22, 18, 23, 24, 25, 26, 27, 28, 29, 30, 31, 32, 33, 34, 35, 36, 37, 38, 39, 40, 41, 42, 43, 44, 45, 5, 46, 47, 48, 49, 50, 51, 52, 53, 54, 55, 56] (by decide +kernel) (by decide +kernel)
set_option maxRecDepth 20000 in
theorem gX1_pour_X1_move : GoodIn wsX1_pour (wsV RX1 32 RX1 yX1_move wsX1_move) := goodIn_app (goodIn_of _ (by decide +kernel)) ggX1_pour_X1_move
theorem dX1_pour_0 : decode cX1_pour 0 = .ok (.iload_n 1, 1) := by decide +kernel
theorem dX1_pour_1 : decode cX1_pour 1 = .ok (.invokestatic 40, 3) := by decide +kernel
theorem dX1_pour_4 : decode cX1_pour 4 = .ok (.iload_n 2, 1) := by decide +kernel
theorem dX1_pour_5 : decode cX1_pour 5 = .ok (.invokestatic 44, 3) := by decide +kernel
theorem dX1_pour_8 : decode cX1_pour 8 = .ok (.aload_n 0, 1) := by decide +kernel
theorem dX1_pour_9 : decode cX1_pour 9 = .ok (.bipush 8, 2) := by decide +kernel
theorem dX1_pour_11 : decode cX1_pour 11 = .ok (.invokevirtual 47, 3) := by decide +kernel
theorem dX1_pour_14 : decode cX1_pour 14 = .ok (.ifCond .ne 13, 3) := by decide +kernel
theorem dX1_pour_17 : decode cX1_pour 17 = .ok (.new 50, 3) := by decide +kernel
theorem dX1_pour_20 : decode cX1_pour 20 = .ok (.dup, 1) := by decide +kernel
theorem dX1_pour_21 : decode cX1_pour 21 = .ok (.ldc 52, 2) := by decide +kernel
theorem dX1_pour_23 : decode cX1_pour 23 = .ok (.invokespecial 54, 3) := by decide +kernel
theorem dX1_pour_26 : decode cX1_pour 26 = .ok (.athrow, 1) := by decide +kernel
theorem dX1_pour_27 : decode cX1_pour 27 = .ok (.aload_n 0, 1) := by decide +kernel
theorem dX1_pour_28 : decode cX1_pour 28 = .ok (.bipush 8, 2) := by decide +kernel
theorem dX1_pour_30 : decode cX1_pour 30 = .ok (.iload_n 1, 1) := by decide +kernel
theorem dX1_pour_31 : decode cX1_pour 31 = .ok (.iconst 0, 1) := by decide +kernel
theorem dX1_pour_32 : decode cX1_pour 32 = .ok (.iload_n 2, 1) := by decide +kernel
theorem dX1_pour_33 : decode cX1_pour 33 = .ok (.invokevirtual 32, 3) := by decide +kernel
theorem dX1_pour_36 : decode cX1_pour 36 = .ok (.ireturn, 1) := by decide +kernel
set_option maxRecDepth 20000 in
theorem ggX1_drink_X1_checkGoblet : GoodIn wsX1_drink wsX1_checkGoblet := goodIn_ca (goodIn_r _ [6, 7, 8] (by decide +kernel) (by decide +kernel)) (goodIn_sub (fun _ h => List.mem_cons_of_mem _ (List.mem_append_right _ h)) (by decide +kernel))
set_option maxRecDepth 20000 in
theorem gX1_drink_X1_checkGoblet : GoodIn wsX1_drink (va_wsS RX1 40 yX1_checkGoblet wsX1_checkGoblet) := goodIn_app (goodIn_of _ (by decide +kernel)) ggX1_drink_X1_checkGoblet
set_option maxRecDepth 20000 in
theorem ggX1_drink_X1_lowestAt : GoodIn wsX1_drink wsX1_lowestAt := goodIn_r _ [12, 13, 45, 46, 47, 48, 49, 50, 51] (by decide +kernel) (by decide +kernel)
set_option maxRecDepth 20000 in
theorem gX1_drink_X1_lowestAt : GoodIn wsX1_drink (wsV RX1 47 RX1 yX1_lowestAt wsX1_lowestAt) := goodIn_app (goodIn_of _ (by decide +kernel)) ggX1_drink_X1_lowestAt
set_option maxRecDepth 20000 in
theorem ggX1_drink_X1_move : GoodIn wsX1_drink wsX1_move := goodIn_r _ [17, 13, 18, 19, 20, 21, 22, 23, 24, 25, 26, 27, 28, 29, 30, 31, 32, 33, 34, 35, 36, 37, 38, 39, 40, 5, 41, 42, 43, 44, 45, 46, 47, 48, 49, 50, 51] (by decide +kernel) (by decide +kernel)
set_option maxRecDepth 20000 in
theorem gX1_drink_X1_move : GoodIn wsX1_drink (wsV RX1 32 RX1 yX1_move wsX1_move) := goodIn_app (goodIn_of _ (by decide +kernel)) ggX1_drink_X1_move
theorem dX1_drink_0 : decode cX1_drink 0 = .ok (.iload_n 1, 1) := by decide +kernel
theorem dX1_drink_1 : decode cX1_drink 1 = .ok (.invokestatic 40, 3) := by decide +kernel
theorem dX1_drink_4 : decode cX1_drink 4 = .ok (.aload_n 0, 1) := by decide +kernel
theorem dX1_drink_5 : decode cX1_drink 5 = .ok (.iload_n 1, 1) := by decide +kernel
theorem dX1_drink_6 : decode cX1_drink 6 = .ok (.invokevirtual 47, 3) := by decide +kernel
theorem dX1_drink_9 : decode cX1_drink 9 = .ok (.ifCond .ne 13, 3) := by decide +kernel
theorem dX1_drink_12 : decode cX1_drink 12 = .ok (.aload_n 0, 1) := by decide +kernel
theorem dX1_drink_13 : decode cX1_drink 13 = .ok (.bipush 8, 2) := by decide +kernel
theorem dX1_drink_15 : decode cX1_drink 15 = .ok (.iload_n 1, 1) := by decide +kernel
theorem dX1_drink_16 : decode cX1_drink 16 = .ok (.iconst 0, 1) := by decide +kernel
theorem dX1_drink_17 : decode cX1_drink 17 = .ok (.iconst 1, 1) := by decide +kernel
theorem dX1_drink_18 : decode cX1_drink 18 = .ok (.invokevirtual 32, 3) := by decide +kernel
theorem dX1_drink_21 : decode cX1_drink 21 = .ok (.pop, 1) := by decide +kernel
theorem dX1_drink_22 : decode cX1_drink 22 = .ok (.aload_n 0, 1) := by decide +kernel
theorem dX1_drink_23 : decode cX1_drink 23 = .ok (.iload_n 1, 1) := by decide +kernel
theorem dX1_drink_24 : decode cX1_drink 24 = .ok (.invokevirtual 47, 3) := by decide +kernel
theorem dX1_drink_27 : decode cX1_drink 27 = .ok (.istore_n 2, 1) := by decide +kernel
theorem dX1_drink_28 : decode cX1_drink 28 = .ok (.iload_n 2, 1) := by decide +kernel
theorem dX1_drink_29 : decode cX1_drink 29 = .ok (.ifCond .ne 13, 3) := by decide +kernel
theorem dX1_drink_32 : decode cX1_drink 32 = .ok (.new 50, 3) := by decide +kernel
theorem dX1_drink_35 : decode cX1_drink 35 = .ok (.dup, 1) := by decide +kernel
theorem dX1_drink_36 : decode cX1_drink 36 = .ok (.ldc 55, 2) := by decide +kernel
theorem dX1_drink_38 : decode cX1_drink 38 = .ok (.invokespecial 54, 3) := by decide +kernel
theorem dX1_drink_41 : decode cX1_drink 41 = .ok (.athrow, 1) := by decide +kernel
theorem dX1_drink_42 : decode cX1_drink 42 = .ok (.aload_n 0, 1) := by decide +kernel
theorem dX1_drink_43 : decode cX1_drink 43 = .ok (.iload_n 1, 1) := by decide +kernel
theorem dX1_drink_44 : decode cX1_drink 44 = .ok (.bipush 9, 2) := by decide +kernel
theorem dX1_drink_46 : decode cX1_drink 46 = .ok (.iconst 0, 1) := by decide +kernel
theorem dX1_drink_47 : decode cX1_drink 47 = .ok (.iconst 1, 1) := by decide +kernel
theorem dX1_drink_48 : decode cX1_drink 48 = .ok (.invokevirtual 32, 3) := by decide +kernel
theorem dX1_drink_51 : decode cX1_drink 51 = .ok (.pop, 1) := by decide +kernel
theorem dX1_drink_52 : decode cX1_drink 52 = .ok (.iload_n 2, 1) := by decide +kernel
theorem dX1_drink_53 : decode cX1_drink 53 = .ok (.ireturn, 1) := by decide +kernel
set_option maxRecDepth 20000 in
theorem ggX1_pourBack_X1_checkGoblet : GoodIn wsX1_pourBack wsX1_checkGoblet := goodIn_ca (goodIn_r _ [4, 5, 6] (by decide +kernel) (by decide +kernel)) (goodIn_sub (fun _ h => List.mem_cons_of_mem _ (List.mem_append_right _ h)) (by decide +kernel))
set_option maxRecDepth 20000 in
theorem gX1_pourBack_X1_checkGoblet : GoodIn wsX1_pourBack (va_wsS RX1 40 yX1_checkGoblet wsX1_checkGoblet) := goodIn_app (goodIn_of _ (by decide +kernel)) ggX1_pourBack_X1_checkGoblet
set_option maxRecDepth 20000 in
theorem ggX1_pourBack_X1_moveAll : GoodIn wsX1_pourBack wsX1_moveAll := goodIn_r _ [10, 11, 12, 13, 3, 14, 15, 16, 17, 18, 19, 20, 21, 22, 23, 24, 25, 26, 27, 28, 29, 30, 31, 32, 33, 34, 35, 36, 37, 38, 39, 40, 41, 42, 43, 44, 45, 46, 47, 48, 49] (by decide +kernel) (by decide +kernel)
set_option maxRecDepth 20000 in
theorem gX1_pourBack_X1_moveAll : GoodIn wsX1_pourBack (wsV RX1 57 RX1 yX1_moveAll wsX1_moveAll) := goodIn_app (goodIn_of _ (by decide +kernel)) ggX1_pourBack_X1_moveAll
theorem dX1_pourBack_0 : decode cX1_pourBack 0 = .ok (.iload_n 1, 1) := by decide +kernel
theorem dX1_pourBack_1 : decode cX1_pourBack 1 = .ok (.invokestatic 40, 3) := by decide +kernel
theorem dX1_pourBack_4 : decode cX1_pourBack 4 = .ok (.aload_n 0, 1) := by decide +kernel
theorem dX1_pourBack_5 : decode cX1_pourBack 5 = .ok (.iload_n 1, 1) := by decide +kernel
theorem dX1_pourBack_6 : decode cX1_pourBack 6 = .ok (.bipush 8, 2) := by decide +kernel
theorem dX1_pourBack_8 : decode cX1_pourBack 8 = .ok (.invokevirtual 57, 3) := by decide +kernel
theorem dX1_pourBack_11 : decode cX1_pourBack 11 = .ok (.ireturn, 1) := by decide +kernel
set_option maxRecDepth 20000 in
theorem ggX1_share_X1_checkGoblet : GoodIn wsX1_share wsX1_checkGoblet := goodIn_ca (goodIn_r _ [10, 11, 12] (by decide +kernel) (by decide +kernel)) (goodIn_sub (fun _ h => List.mem_cons_of_mem _ (List.mem_append_right _ h)) (by decide +kernel))
set_option maxRecDepth 20000 in
theorem gX1_share_X1_checkGoblet : GoodIn wsX1_share (va_wsS RX1 40 yX1_checkGoblet wsX1_checkGoblet) := goodIn_app (goodIn_of _ (by decide +kernel)) ggX1_share_X1_checkGoblet
set_option maxRecDepth 20000 in
theorem ggX1_share_X1_checkCount : GoodIn wsX1_share wsX1_checkCount := goodIn_ca (goodIn_r _ [15, 1, 2] (by decide +kernel) (by decide +kernel)) (goodIn_sub (fun _ h => List.mem_cons_of_mem _ (List.mem_append_left _ (List.mem_append_right _ h))) (by decide +kernel))
set_option maxRecDepth 20000 in
theorem gX1_share_X1_checkCount : GoodIn wsX1_share (va_wsS RX1 44 yX1_checkCount wsX1_checkCount) := goodIn_app (goodIn_of _ (by decide +kernel)) ggX1_share_X1_checkCount
set_option maxRecDepth 20000 in
theorem ggX1_share_X1_numbersAt : GoodIn wsX1_share wsX1_numbersAt := goodIn_r _ [19, 20, 21, 22, 9, 23, 24, 25, 26, 5, 27, 59, 60, 61, 62, 63, 64, 65] (by decide +kernel) (by decide +kernel)
set_option maxRecDepth 20000 in
theorem gX1_share_X1_numbersAt : GoodIn wsX1_share (wsV RX1 36 RX1 yX1_numbersAt wsX1_numbersAt) := goodIn_app (goodIn_of _ (by decide +kernel)) ggX1_share_X1_numbersAt
set_option maxRecDepth 20000 in
theorem ggX1_share_X1_move : GoodIn wsX1_share wsX1_move := goodIn_r _ [31, 24, 32, 33, 34, 35, 36, 37, 38, 39, 40, 41, 42, 43, 44, 45, 46, 47, 48, 49, 50, 51, 52, 53, 54, 9, 55, 56, 57, 58, 59, 60, 61, 62, 63, 64, 65] (by decide +kernel) (by decide +kernel)
set_option maxRecDepth 20000 in
theorem gX1_share_X1_move : GoodIn wsX1_share (wsV RX1 32 RX1 yX1_move wsX1_move) := goodIn_app (goodIn_of _ (by decide +kernel)) ggX1_share_X1_move
theorem dX1_share_0 : decode cX1_share 0 = .ok (.iload_n 1, 1) := by decide +kernel
theorem dX1_share_1 : decode cX1_share 1 = .ok (.invokestatic 40, 3) := by decide +kernel
theorem dX1_share_4 : decode cX1_share 4 = .ok (.iload_n 2, 1) := by decide +kernel
theorem dX1_share_5 : decode cX1_share 5 = .ok (.invokestatic 40, 3) := by decide +kernel
theorem dX1_share_8 : decode cX1_share 8 = .ok (.iload_n 1, 1) := by decide +kernel
theorem dX1_share_9 : decode cX1_share 9 = .ok (.iload_n 2, 1) := by decide +kernel
theorem dX1_share_10 : decode cX1_share 10 = .ok (.if_icmp .ne 13, 3) := by decide +kernel
theorem dX1_share_13 : decode cX1_share 13 = .ok (.new 25, 3) := by decide +kernel
theorem dX1_share_16 : decode cX1_share 16 = .ok (.dup, 1) := by decide +kernel
theorem dX1_share_17 : decode cX1_share 17 = .ok (.ldc 61, 2) := by decide +kernel
theorem dX1_share_19 : decode cX1_share 19 = .ok (.invokespecial 29, 3) := by decide +kernel
theorem dX1_share_22 : decode cX1_share 22 = .ok (.athrow, 1) := by decide +kernel
theorem dX1_share_23 : decode cX1_share 23 = .ok (.iload_n 3, 1) := by decide +kernel
theorem dX1_share_24 : decode cX1_share 24 = .ok (.invokestatic 44, 3) := by decide +kernel
theorem dX1_share_27 : decode cX1_share 27 = .ok (.iconst 0, 1) := by decide +kernel
theorem dX1_share_28 : decode cX1_share 28 = .ok (.aload_n 0, 1) := by decide +kernel
theorem dX1_share_29 : decode cX1_share 29 = .ok (.iload_n 1, 1) := by decide +kernel
theorem dX1_share_30 : decode cX1_share 30 = .ok (.invokevirtual 36, 3) := by decide +kernel
theorem dX1_share_33 : decode cX1_share 33 = .ok (.iload_n 3, 1) := by decide +kernel
theorem dX1_share_34 : decode cX1_share 34 = .ok (.isub, 1) := by decide +kernel
theorem dX1_share_35 : decode cX1_share 35 = .ok (.invokestatic 63, 3) := by decide +kernel
theorem dX1_share_38 : decode cX1_share 38 = .ok (.istore 4, 2) := by decide +kernel
theorem dX1_share_40 : decode cX1_share 40 = .ok (.aload_n 0, 1) := by decide +kernel
theorem dX1_share_41 : decode cX1_share 41 = .ok (.iload_n 1, 1) := by decide +kernel
theorem dX1_share_42 : decode cX1_share 42 = .ok (.iload_n 2, 1) := by decide +kernel
theorem dX1_share_43 : decode cX1_share 43 = .ok (.iload 4, 2) := by decide +kernel
theorem dX1_share_45 : decode cX1_share 45 = .ok (.iload_n 3, 1) := by decide +kernel
theorem dX1_share_46 : decode cX1_share 46 = .ok (.invokevirtual 32, 3) := by decide +kernel
theorem dX1_share_49 : decode cX1_share 49 = .ok (.ireturn, 1) := by decide +kernel
set_option maxRecDepth 20000 in
theorem ggX1_giveBack_X1_placeOf : GoodIn wsX1_giveBack wsX1_placeOf := goodIn_r _ [7, 8, 52, 53, 54, 55, 56, 57, 58] (by decide +kernel) (by decide +kernel)
set_option maxRecDepth 20000 in
theorem gX1_giveBack_X1_placeOf : GoodIn wsX1_giveBack (wsV RX1 68 RX1 yX1_placeOf wsX1_placeOf) := goodIn_app (goodIn_of _ (by decide +kernel)) ggX1_giveBack_X1_placeOf
set_option maxRecDepth 20000 in
theorem ggX1_giveBack_X1_numbersAtBelow : GoodIn wsX1_giveBack wsX1_numbersAtBelow := goodIn_r _ [12, 8, 13, 14, 15, 16, 52, 53, 54, 55, 56, 57, 58] (by decide +kernel) (by decide +kernel)
set_option maxRecDepth 20000 in
theorem gX1_giveBack_X1_numbersAtBelow : GoodIn wsX1_giveBack (wsV RX1 73 RX1 yX1_numbersAtBelow wsX1_numbersAtBelow) := goodIn_app (goodIn_of _ (by decide +kernel)) ggX1_giveBack_X1_numbersAtBelow
set_option maxRecDepth 20000 in
theorem ggX1_giveBack_X1_move : GoodIn wsX1_giveBack wsX1_move := goodIn_r _ [20, 8, 21, 22, 23, 24, 25, 26, 27, 28, 29, 30, 31, 32, 33, 34, 35, 36, 37, 38, 39, 40, 41, 42, 43, 6, 44, 45, 46, 47, 52, 53, 54, 55, 56, 57, 58] (by decide +kernel) (by decide +kernel)
set_option maxRecDepth 20000 in
theorem gX1_giveBack_X1_move : GoodIn wsX1_giveBack (wsV RX1 32 RX1 yX1_move wsX1_move) := goodIn_app (goodIn_of _ (by decide +kernel)) ggX1_giveBack_X1_move
set_option maxRecDepth 20000 in
theorem ggX1_giveBack_X1_numbersAt : GoodIn wsX1_giveBack wsX1_numbersAt := goodIn_r _ [51, 9, 10, 11, 6, 12, 8, 13, 14, 15, 16, 52, 53, 54, 55, 56, 57, 58] (by decide +kernel) (by decide +kernel)
set_option maxRecDepth 20000 in
theorem gX1_giveBack_X1_numbersAt : GoodIn wsX1_giveBack (wsV RX1 36 RX1 yX1_numbersAt wsX1_numbersAt) := goodIn_app (goodIn_of _ (by decide +kernel)) ggX1_giveBack_X1_numbersAt
theorem dX1_giveBack_0 : decode cX1_giveBack 0 = .ok (.aload_n 0, 1) := by decide +kernel
theorem dX1_giveBack_1 : decode cX1_giveBack 1 = .ok (.iload_n 1, 1) := by decide +kernel
theorem dX1_giveBack_2 : decode cX1_giveBack 2 = .ok (.invokevirtual 68, 3) := by decide +kernel
theorem dX1_giveBack_5 : decode cX1_giveBack 5 = .ok (.bipush 9, 2) := by decide +kernel
theorem dX1_giveBack_7 : decode cX1_giveBack 7 = .ok (.if_icmp .eq 13, 3) := by decide +kernel
theorem dX1_giveBack_10 : decode cX1_giveBack 10 = .ok (.new 50, 3) := by decide +kernel
theorem dX1_giveBack_13 : decode cX1_giveBack 13 = .ok (.dup, 1) := by decide +kernel
theorem dX1_giveBack_14 : decode cX1_giveBack 14 = .ok (.ldc 71, 2) := by decide +kernel
theorem dX1_giveBack_16 : decode cX1_giveBack 16 = .ok (.invokespecial 54, 3) := by decide +kernel
theorem dX1_giveBack_19 : decode cX1_giveBack 19 = .ok (.athrow, 1) := by decide +kernel
theorem dX1_giveBack_20 : decode cX1_giveBack 20 = .ok (.aload_n 0, 1) := by decide +kernel
theorem dX1_giveBack_21 : decode cX1_giveBack 21 = .ok (.bipush 9, 2) := by decide +kernel
theorem dX1_giveBack_23 : decode cX1_giveBack 23 = .ok (.bipush 8, 2) := by decide +kernel
theorem dX1_giveBack_25 : decode cX1_giveBack 25 = .ok (.aload_n 0, 1) := by decide +kernel
theorem dX1_giveBack_26 : decode cX1_giveBack 26 = .ok (.bipush 9, 2) := by decide +kernel
theorem dX1_giveBack_28 : decode cX1_giveBack 28 = .ok (.iload_n 1, 1) := by decide +kernel
theorem dX1_giveBack_29 : decode cX1_giveBack 29 = .ok (.invokevirtual 73, 3) := by decide +kernel
theorem dX1_giveBack_32 : decode cX1_giveBack 32 = .ok (.iconst 1, 1) := by decide +kernel
theorem dX1_giveBack_33 : decode cX1_giveBack 33 = .ok (.invokevirtual 32, 3) := by decide +kernel
theorem dX1_giveBack_36 : decode cX1_giveBack 36 = .ok (.pop, 1) := by decide +kernel
theorem dX1_giveBack_37 : decode cX1_giveBack 37 = .ok (.aload_n 0, 1) := by decide +kernel
theorem dX1_giveBack_38 : decode cX1_giveBack 38 = .ok (.bipush 8, 2) := by decide +kernel
theorem dX1_giveBack_40 : decode cX1_giveBack 40 = .ok (.invokevirtual 36, 3) := by decide +kernel
theorem dX1_giveBack_43 : decode cX1_giveBack 43 = .ok (.ireturn, 1) := by decide +kernel
set_option maxRecDepth 20000 in
theorem ggX1_spill_X1_checkGoblet : GoodIn wsX1_spill wsX1_checkGoblet := goodIn_ca (goodIn_r _ [4, 5, 6] (by decide +kernel) (by decide +kernel)) (goodIn_sub (fun _ h => List.mem_cons_of_mem _ (List.mem_append_right _ h)) (by decide +kernel))
set_option maxRecDepth 20000 in
theorem gX1_spill_X1_checkGoblet : GoodIn wsX1_spill (va_wsS RX1 40 yX1_checkGoblet wsX1_checkGoblet) := goodIn_app (goodIn_of _ (by decide +kernel)) ggX1_spill_X1_checkGoblet
set_option maxRecDepth 20000 in
theorem ggX1_spill_X1_moveAll : GoodIn wsX1_spill wsX1_moveAll := goodIn_r _ [10, 11, 12, 13, 3, 14, 15, 16, 17, 18, 19, 20, 21, 22, 23, 24, 25, 26, 27, 28, 29, 30, 31, 32, 33, 34, 35, 36, 37, 38, 39, 40, 41, 42, 43, 44, 45, 46, 47, 48, 49] (by decide +kernel) (by decide +kernel)
set_option maxRecDepth 20000 in
theorem gX1_spill_X1_moveAll : GoodIn wsX1_spill (wsV RX1 57 RX1 yX1_moveAll wsX1_moveAll) := goodIn_app (goodIn_of _ (by decide +kernel)) ggX1_spill_X1_moveAll
theorem dX1_spill_0 : decode cX1_spill 0 = .ok (.iload_n 1, 1) := by decide +kernel
theorem dX1_spill_1 : decode cX1_spill 1 = .ok (.invokestatic 40, 3) := by decide +kernel
theorem dX1_spill_4 : decode cX1_spill 4 = .ok (.aload_n 0, 1) := by decide +kernel
theorem dX1_spill_5 : decode cX1_spill 5 = .ok (.iload_n 1, 1) := by decide +kernel
theorem dX1_spill_6 : decode cX1_spill 6 = .ok (.bipush 10, 2) := by decide +kernel
theorem dX1_spill_8 : decode cX1_spill 8 = .ok (.invokevirtual 57, 3) := by decide +kernel
theorem dX1_spill_11 : decode cX1_spill 11 = .ok (.ireturn, 1) := by decide +kernel
set_option maxRecDepth 20000 in
theorem ggX1_nextRound_X1_numbersAt : GoodIn wsX1_nextRound wsX1_numbersAt := goodIn_r _ [9, 10, 11, 12, 8, 13, 14, 15, 16, 17, 18, 54, 55, 56, 57, 58, 59, 60] (by decide +kernel) (by decide +kernel)
set_option maxRecDepth 20000 in
theorem gX1_nextRound_X1_numbersAt : GoodIn wsX1_nextRound (wsV RX1 36 RX1 yX1_numbersAt wsX1_numbersAt) := goodIn_app (goodIn_of _ (by decide +kernel)) ggX1_nextRound_X1_numbersAt
set_option maxRecDepth 20000 in
theorem ggX1_nextRound_X1_moveAll : GoodIn wsX1_nextRound wsX1_moveAll := goodIn_r _ [22, 23, 24, 25, 8, 26, 14, 27, 28, 29, 30, 31, 32, 33, 34, 35, 36, 37, 38, 39, 40, 41, 42, 43, 44, 45, 46, 47, 48, 49, 50, 51, 52, 53, 54, 55, 56, 57, 58, 59, 60] (by decide +kernel) (by decide +kernel)
set_option maxRecDepth 20000 in
theorem gX1_nextRound_X1_moveAll : GoodIn wsX1_nextRound (wsV RX1 57 RX1 yX1_moveAll wsX1_moveAll) := goodIn_app (goodIn_of _ (by decide +kernel)) ggX1_nextRound_X1_moveAll
theorem dX1_nextRound_0 : decode cX1_nextRound 0 = .ok (.aload_n 0, 1) := by decide +kernel
theorem dX1_nextRound_1 : decode cX1_nextRound 1 = .ok (.bipush 9, 2) := by decide +kernel
theorem dX1_nextRound_3 : decode cX1_nextRound 3 = .ok (.invokevirtual 36, 3) := by decide +kernel
theorem dX1_nextRound_6 : decode cX1_nextRound 6 = .ok (.aload_n 0, 1) := by decide +kernel
theorem dX1_nextRound_7 : decode cX1_nextRound 7 = .ok (.bipush 10, 2) := by decide +kernel
theorem dX1_nextRound_9 : decode cX1_nextRound 9 = .ok (.invokevirtual 36, 3) := by decide +kernel
theorem dX1_nextRound_12 : decode cX1_nextRound 12 = .ok (.iadd, 1) := by decide +kernel
theorem dX1_nextRound_13 : decode cX1_nextRound 13 = .ok (.aload_n 0, 1) := by decide +kernel
theorem dX1_nextRound_14 : decode cX1_nextRound 14 = .ok (.getfield 18, 3) := by decide +kernel
theorem dX1_nextRound_17 : decode cX1_nextRound 17 = .ok (.if_icmp .eq 13, 3) := by decide +kernel
theorem dX1_nextRound_20 : decode cX1_nextRound 20 = .ok (.new 50, 3) := by decide +kernel
theorem dX1_nextRound_23 : decode cX1_nextRound 23 = .ok (.dup, 1) := by decide +kernel
theorem dX1_nextRound_24 : decode cX1_nextRound 24 = .ok (.ldc 76, 2) := by decide +kernel
theorem dX1_nextRound_26 : decode cX1_nextRound 26 = .ok (.invokespecial 54, 3) := by decide +kernel
theorem dX1_nextRound_29 : decode cX1_nextRound 29 = .ok (.athrow, 1) := by decide +kernel
theorem dX1_nextRound_30 : decode cX1_nextRound 30 = .ok (.aload_n 0, 1) := by decide +kernel
theorem dX1_nextRound_31 : decode cX1_nextRound 31 = .ok (.bipush 9, 2) := by decide +kernel
theorem dX1_nextRound_33 : decode cX1_nextRound 33 = .ok (.bipush 8, 2) := by decide +kernel
theorem dX1_nextRound_35 : decode cX1_nextRound 35 = .ok (.invokevirtual 57, 3) := by decide +kernel
theorem dX1_nextRound_38 : decode cX1_nextRound 38 = .ok (.pop, 1) := by decide +kernel
theorem dX1_nextRound_39 : decode cX1_nextRound 39 = .ok (.aload_n 0, 1) := by decide +kernel
theorem dX1_nextRound_40 : decode cX1_nextRound 40 = .ok (.bipush 10, 2) := by decide +kernel
theorem dX1_nextRound_42 : decode cX1_nextRound 42 = .ok (.bipush 8, 2) := by decide +kernel
theorem dX1_nextRound_44 : decode cX1_nextRound 44 = .ok (.invokevirtual 57, 3) := by decide +kernel
theorem dX1_nextRound_47 : decode cX1_nextRound 47 = .ok (.pop, 1) := by decide +kernel
theorem dX1_nextRound_48 : decode cX1_nextRound 48 = .ok (.aload_n 0, 1) := by decide +kernel
theorem dX1_nextRound_49 : decode cX1_nextRound 49 = .ok (.dup, 1) := by decide +kernel
theorem dX1_nextRound_50 : decode cX1_nextRound 50 = .ok (.getfield 22, 3) := by decide +kernel
theorem dX1_nextRound_53 : decode cX1_nextRound 53 = .ok (.iconst 1, 1) := by decide +kernel
theorem dX1_nextRound_54 : decode cX1_nextRound 54 = .ok (.iadd, 1) := by decide +kernel
theorem dX1_nextRound_55 : decode cX1_nextRound 55 = .ok (.putfield 22, 3) := by decide +kernel
theorem dX1_nextRound_58 : decode cX1_nextRound 58 = .ok (.aload_n 0, 1) := by decide +kernel
theorem dX1_nextRound_59 : decode cX1_nextRound 59 = .ok (.getfield 22, 3) := by decide +kernel
theorem dX1_nextRound_62 : decode cX1_nextRound 62 = .ok (.ireturn, 1) := by decide +kernel
theorem dX1_size_0 : decode cX1_size 0 = .ok (.aload_n 0, 1) := by decide +kernel
theorem dX1_size_1 : decode cX1_size 1 = .ok (.getfield 18, 3) := by decide +kernel
theorem dX1_size_4 : decode cX1_size 4 = .ok (.ireturn, 1) := by decide +kernel
theorem dX1_round_0 : decode cX1_round 0 = .ok (.aload_n 0, 1) := by decide +kernel
theorem dX1_round_1 : decode cX1_round 1 = .ok (.getfield 22, 3) := by decide +kernel
theorem dX1_round_4 : decode cX1_round 4 = .ok (.ireturn, 1) := by decide +kernel
set_option maxRecDepth 20000 in
theorem ggX1_inJug_X1_numbersAt : GoodIn wsX1_inJug wsX1_numbersAt := goodIn_r _ [5, 6, 7, 8, 4, 9, 10, 11, 12, 13, 14, 15, 16, 17, 18, 19, 20, 21] (by decide +kernel) (by decide +kernel)
set_option maxRecDepth 20000 in
theorem gX1_inJug_X1_numbersAt : GoodIn wsX1_inJug (wsV RX1 36 RX1 yX1_numbersAt wsX1_numbersAt) := goodIn_app (goodIn_of _ (by decide +kernel)) ggX1_inJug_X1_numbersAt
theorem dX1_inJug_0 : decode cX1_inJug 0 = .ok (.aload_n 0, 1) := by decide +kernel
theorem dX1_inJug_1 : decode cX1_inJug 1 = .ok (.bipush 8, 2) := by decide +kernel
theorem dX1_inJug_3 : decode cX1_inJug 3 = .ok (.invokevirtual 36, 3) := by decide +kernel
theorem dX1_inJug_6 : decode cX1_inJug 6 = .ok (.ireturn, 1) := by decide +kernel
set_option maxRecDepth 20000 in
theorem ggX1_ranges_X1_rangesAt : GoodIn wsX1_ranges wsX1_rangesAt := goodIn_r _ [5, 6, 7, 8, 9, 10, 11, 12, 13] (by decide +kernel) (by decide +kernel)
set_option maxRecDepth 20000 in
theorem gX1_ranges_X1_rangesAt : GoodIn wsX1_ranges (wsV RX1 78 RX1 yX1_rangesAt wsX1_rangesAt) := goodIn_app (goodIn_of _ (by decide +kernel)) ggX1_ranges_X1_rangesAt
theorem dX1_ranges_0 : decode cX1_ranges 0 = .ok (.aload_n 0, 1) := by decide +kernel
theorem dX1_ranges_1 : decode cX1_ranges 1 = .ok (.bipush 8, 2) := by decide +kernel
theorem dX1_ranges_3 : decode cX1_ranges 3 = .ok (.invokevirtual 78, 3) := by decide +kernel
theorem dX1_ranges_6 : decode cX1_ranges 6 = .ok (.ireturn, 1) := by decide +kernel
set_option maxRecDepth 20000 in
theorem ggX1_rangeFrom_X1_rangeOfJug : GoodIn wsX1_rangeFrom wsX1_rangeOfJug := goodIn_r _ [7, 8, 13, 14, 15, 9, 10, 11, 12] (by decide +kernel) (by decide +kernel)
set_option maxRecDepth 20000 in
theorem gX1_rangeFrom_X1_rangeOfJug : GoodIn wsX1_rangeFrom (wsV RX1 81 RX1 yX1_rangeOfJug wsX1_rangeOfJug) := goodIn_app (goodIn_of _ (by decide +kernel)) ggX1_rangeFrom_X1_rangeOfJug
theorem dX1_rangeFrom_0 : decode cX1_rangeFrom 0 = .ok (.aload_n 0, 1) := by decide +kernel
theorem dX1_rangeFrom_1 : decode cX1_rangeFrom 1 = .ok (.iload_n 1, 1) := by decide +kernel
theorem dX1_rangeFrom_2 : decode cX1_rangeFrom 2 = .ok (.invokevirtual 81, 3) := by decide +kernel
theorem dX1_rangeFrom_5 : decode cX1_rangeFrom 5 = .ok (.astore_n 2, 1) := by decide +kernel
theorem dX1_rangeFrom_6 : decode cX1_rangeFrom 6 = .ok (.aload_n 2, 1) := by decide +kernel
theorem dX1_rangeFrom_7 : decode cX1_rangeFrom 7 = .ok (.ifnonnull 13, 3) := by decide +kernel
theorem dX1_rangeFrom_10 : decode cX1_rangeFrom 10 = .ok (.new 85, 3) := by decide +kernel
theorem dX1_rangeFrom_13 : decode cX1_rangeFrom 13 = .ok (.dup, 1) := by decide +kernel
theorem dX1_rangeFrom_14 : decode cX1_rangeFrom 14 = .ok (.ldc 87, 2) := by decide +kernel
theorem dX1_rangeFrom_16 : decode cX1_rangeFrom 16 = .ok (.invokespecial 89, 3) := by decide +kernel
theorem dX1_rangeFrom_19 : decode cX1_rangeFrom 19 = .ok (.athrow, 1) := by decide +kernel
theorem dX1_rangeFrom_20 : decode cX1_rangeFrom 20 = .ok (.aload_n 2, 1) := by decide +kernel
theorem dX1_rangeFrom_21 : decode cX1_rangeFrom 21 = .ok (.getfield 90, 3) := by decide +kernel
theorem dX1_rangeFrom_24 : decode cX1_rangeFrom 24 = .ok (.ireturn, 1) := by decide +kernel
set_option maxRecDepth 20000 in
theorem ggX1_rangeTo_X1_rangeOfJug : GoodIn wsX1_rangeTo wsX1_rangeOfJug := goodIn_r _ [7, 8, 13, 14, 15, 9, 10, 11, 12] (by decide +kernel) (by decide +kernel)
set_option maxRecDepth 20000 in
theorem gX1_rangeTo_X1_rangeOfJug : GoodIn wsX1_rangeTo (wsV RX1 81 RX1 yX1_rangeOfJug wsX1_rangeOfJug) := goodIn_app (goodIn_of _ (by decide +kernel)) ggX1_rangeTo_X1_rangeOfJug
theorem dX1_rangeTo_0 : decode cX1_rangeTo 0 = .ok (.aload_n 0, 1) := by decide +kernel
theorem dX1_rangeTo_1 : decode cX1_rangeTo 1 = .ok (.iload_n 1, 1) := by decide +kernel
theorem dX1_rangeTo_2 : decode cX1_rangeTo 2 = .ok (.invokevirtual 81, 3) := by decide +kernel
theorem dX1_rangeTo_5 : decode cX1_rangeTo 5 = .ok (.astore_n 2, 1) := by decide +kernel
theorem dX1_rangeTo_6 : decode cX1_rangeTo 6 = .ok (.aload_n 2, 1) := by decide +kernel
theorem dX1_rangeTo_7 : decode cX1_rangeTo 7 = .ok (.ifnonnull 13, 3) := by decide +kernel
theorem dX1_rangeTo_10 : decode cX1_rangeTo 10 = .ok (.new 85, 3) := by decide +kernel
theorem dX1_rangeTo_13 : decode cX1_rangeTo 13 = .ok (.dup, 1) := by decide +kernel
theorem dX1_rangeTo_14 : decode cX1_rangeTo 14 = .ok (.ldc 87, 2) := by decide +kernel
theorem dX1_rangeTo_16 : decode cX1_rangeTo 16 = .ok (.invokespecial 89, 3) := by decide +kernel
theorem dX1_rangeTo_19 : decode cX1_rangeTo 19 = .ok (.athrow, 1) := by decide +kernel
theorem dX1_rangeTo_20 : decode cX1_rangeTo 20 = .ok (.aload_n 2, 1) := by decide +kernel
theorem dX1_rangeTo_21 : decode cX1_rangeTo 21 = .ok (.getfield 93, 3) := by decide +kernel
theorem dX1_rangeTo_24 : decode cX1_rangeTo 24 = .ok (.ireturn, 1) := by decide +kernel
set_option maxRecDepth 20000 in
theorem ggX1_longestRange_X0_length : GoodIn wsX1_longestRange wsX0_length := goodIn_r _ [5, 6, 7, 11, 12, 13, 14] (by decide +kernel) (by decide +kernel)
set_option maxRecDepth 20000 in
theorem gX1_longestRange_X0_length_n99 : GoodIn wsX1_longestRange (wsX0_length) := ggX1_longestRange_X0_length
theorem dX1_longestRange_0 : decode cX1_longestRange 0 = .ok (.iconst (-1), 1) := by decide +kernel
theorem dX1_longestRange_1 : decode cX1_longestRange 1 = .ok (.istore_n 1, 1) := by decide +kernel
theorem dX1_longestRange_2 : decode cX1_longestRange 2 = .ok (.iconst 0, 1) := by decide +kernel
theorem dX1_longestRange_3 : decode cX1_longestRange 3 = .ok (.istore_n 2, 1) := by decide +kernel
theorem dX1_longestRange_4 : decode cX1_longestRange 4 = .ok (.iconst 0, 1) := by decide +kernel
theorem dX1_longestRange_5 : decode cX1_longestRange 5 = .ok (.istore_n 3, 1) := by decide +kernel
theorem dX1_longestRange_6 : decode cX1_longestRange 6 = .ok (.aload_n 0, 1) := by decide +kernel
theorem dX1_longestRange_7 : decode cX1_longestRange 7 = .ok (.getfield 14, 3) := by decide +kernel
theorem dX1_longestRange_10 : decode cX1_longestRange 10 = .ok (.astore 4, 2) := by decide +kernel
theorem dX1_longestRange_12 : decode cX1_longestRange 12 = .ok (.aload 4, 2) := by decide +kernel
theorem dX1_longestRange_14 : decode cX1_longestRange 14 = .ok (.ifnull 43, 3) := by decide +kernel
theorem dX1_longestRange_17 : decode cX1_longestRange 17 = .ok (.aload 4, 2) := by decide +kernel
theorem dX1_longestRange_19 : decode cX1_longestRange 19 = .ok (.getfield 96, 3) := by decide +kernel
theorem dX1_longestRange_22 : decode cX1_longestRange 22 = .ok (.bipush 8, 2) := by decide +kernel
theorem dX1_longestRange_24 : decode cX1_longestRange 24 = .ok (.if_icmp .ne 23, 3) := by decide +kernel
theorem dX1_longestRange_27 : decode cX1_longestRange 27 = .ok (.aload 4, 2) := by decide +kernel
theorem dX1_longestRange_29 : decode cX1_longestRange 29 = .ok (.invokevirtual 99, 3) := by decide +kernel
theorem dX1_longestRange_32 : decode cX1_longestRange 32 = .ok (.iload_n 2, 1) := by decide +kernel
theorem dX1_longestRange_33 : decode cX1_longestRange 33 = .ok (.if_icmp .le 11, 3) := by decide +kernel
theorem dX1_longestRange_36 : decode cX1_longestRange 36 = .ok (.aload 4, 2) := by decide +kernel
theorem dX1_longestRange_38 : decode cX1_longestRange 38 = .ok (.invokevirtual 99, 3) := by decide +kernel
theorem dX1_longestRange_41 : decode cX1_longestRange 41 = .ok (.istore_n 2, 1) := by decide +kernel
theorem dX1_longestRange_42 : decode cX1_longestRange 42 = .ok (.iload_n 3, 1) := by decide +kernel
theorem dX1_longestRange_43 : decode cX1_longestRange 43 = .ok (.istore_n 1, 1) := by decide +kernel
theorem dX1_longestRange_44 : decode cX1_longestRange 44 = .ok (.iinc 3 1, 3) := by decide +kernel
theorem dX1_longestRange_47 : decode cX1_longestRange 47 = .ok (.aload 4, 2) := by decide +kernel
theorem dX1_longestRange_49 : decode cX1_longestRange 49 = .ok (.getfield 103, 3) := by decide +kernel
theorem dX1_longestRange_52 : decode cX1_longestRange 52 = .ok (.astore 4, 2) := by decide +kernel
theorem dX1_longestRange_54 : decode cX1_longestRange 54 = .ok (.goto (-42), 3) := by decide +kernel
theorem dX1_longestRange_57 : decode cX1_longestRange 57 = .ok (.iload_n 1, 1) := by decide +kernel
theorem dX1_longestRange_58 : decode cX1_longestRange 58 = .ok (.ireturn, 1) := by decide +kernel
set_option maxRecDepth 20000 in
theorem ggX1_inGoblet_X1_checkGoblet : GoodIn wsX1_inGoblet wsX1_checkGoblet := goodIn_ca (goodIn_r _ [4, 5, 6] (by decide +kernel) (by decide +kernel)) (goodIn_sub (fun _ h => List.mem_cons_of_mem _ (List.mem_append_right _ h)) (by decide +kernel))
set_option maxRecDepth 20000 in
theorem gX1_inGoblet_X1_checkGoblet : GoodIn wsX1_inGoblet (va_wsS RX1 40 yX1_checkGoblet wsX1_checkGoblet) := goodIn_app (goodIn_of _ (by decide +kernel)) ggX1_inGoblet_X1_checkGoblet
set_option maxRecDepth 20000 in
theorem ggX1_inGoblet_X1_numbersAt : GoodIn wsX1_inGoblet wsX1_numbersAt := goodIn_r _ [10, 11, 12, 13, 3, 14, 15, 16, 17, 18, 19, 20, 21, 22, 23, 24, 25, 26] (by decide +kernel) (by decide +kernel)
set_option maxRecDepth 20000 in
theorem gX1_inGoblet_X1_numbersAt : GoodIn wsX1_inGoblet (wsV RX1 36 RX1 yX1_numbersAt wsX1_numbersAt) := goodIn_app (goodIn_of _ (by decide +kernel)) ggX1_inGoblet_X1_numbersAt
theorem dX1_inGoblet_0 : decode cX1_inGoblet 0 = .ok (.iload_n 1, 1) := by decide +kernel
theorem dX1_inGoblet_1 : decode cX1_inGoblet 1 = .ok (.invokestatic 40, 3) := by decide +kernel
theorem dX1_inGoblet_4 : decode cX1_inGoblet 4 = .ok (.aload_n 0, 1) := by decide +kernel
theorem dX1_inGoblet_5 : decode cX1_inGoblet 5 = .ok (.iload_n 1, 1) := by decide +kernel
theorem dX1_inGoblet_6 : decode cX1_inGoblet 6 = .ok (.invokevirtual 36, 3) := by decide +kernel
theorem dX1_inGoblet_9 : decode cX1_inGoblet 9 = .ok (.ireturn, 1) := by decide +kernel
set_option maxRecDepth 20000 in
theorem ggX1_rangesOf_X1_checkGoblet : GoodIn wsX1_rangesOf wsX1_checkGoblet := goodIn_ca (goodIn_r _ [4, 5, 6] (by decide +kernel) (by decide +kernel)) (goodIn_sub (fun _ h => List.mem_cons_of_mem _ (List.mem_append_right _ h)) (by decide +kernel))
set_option maxRecDepth 20000 in
theorem gX1_rangesOf_X1_checkGoblet : GoodIn wsX1_rangesOf (va_wsS RX1 40 yX1_checkGoblet wsX1_checkGoblet) := goodIn_app (goodIn_of _ (by decide +kernel)) ggX1_rangesOf_X1_checkGoblet
set_option maxRecDepth 20000 in
theorem ggX1_rangesOf_X1_rangesAt : GoodIn wsX1_rangesOf wsX1_rangesAt := goodIn_r _ [10, 11, 12, 13, 14, 15, 16, 17, 18] (by decide +kernel) (by decide +kernel)
set_option maxRecDepth 20000 in
theorem gX1_rangesOf_X1_rangesAt : GoodIn wsX1_rangesOf (wsV RX1 78 RX1 yX1_rangesAt wsX1_rangesAt) := goodIn_app (goodIn_of _ (by decide +kernel)) ggX1_rangesOf_X1_rangesAt
theorem dX1_rangesOf_0 : decode cX1_rangesOf 0 = .ok (.iload_n 1, 1) := by decide +kernel
theorem dX1_rangesOf_1 : decode cX1_rangesOf 1 = .ok (.invokestatic 40, 3) := by decide +kernel
theorem dX1_rangesOf_4 : decode cX1_rangesOf 4 = .ok (.aload_n 0, 1) := by decide +kernel
theorem dX1_rangesOf_5 : decode cX1_rangesOf 5 = .ok (.iload_n 1, 1) := by decide +kernel
theorem dX1_rangesOf_6 : decode cX1_rangesOf 6 = .ok (.invokevirtual 78, 3) := by decide +kernel
theorem dX1_rangesOf_9 : decode cX1_rangesOf 9 = .ok (.ireturn, 1) := by decide +kernel
set_option maxRecDepth 20000 in
theorem ggX1_nextOf_X1_checkGoblet : GoodIn wsX1_nextOf wsX1_checkGoblet := goodIn_ca (goodIn_r _ [4, 5, 6] (by decide +kernel) (by decide +kernel)) (goodIn_sub (fun _ h => List.mem_cons_of_mem _ (List.mem_append_right _ h)) (by decide +kernel))
set_option maxRecDepth 20000 in
theorem gX1_nextOf_X1_checkGoblet : GoodIn wsX1_nextOf (va_wsS RX1 40 yX1_checkGoblet wsX1_checkGoblet) := goodIn_app (goodIn_of _ (by decide +kernel)) ggX1_nextOf_X1_checkGoblet
set_option maxRecDepth 20000 in
theorem ggX1_nextOf_X1_lowestAt : GoodIn wsX1_nextOf wsX1_lowestAt := goodIn_r _ [10, 11, 12, 13, 14, 15, 16, 17, 18] (by decide +kernel) (by decide +kernel)
set_option maxRecDepth 20000 in
theorem gX1_nextOf_X1_lowestAt : GoodIn wsX1_nextOf (wsV RX1 47 RX1 yX1_lowestAt wsX1_lowestAt) := goodIn_app (goodIn_of _ (by decide +kernel)) ggX1_nextOf_X1_lowestAt
theorem dX1_nextOf_0 : decode cX1_nextOf 0 = .ok (.iload_n 1, 1) := by decide +kernel
theorem dX1_nextOf_1 : decode cX1_nextOf 1 = .ok (.invokestatic 40, 3) := by decide +kernel
theorem dX1_nextOf_4 : decode cX1_nextOf 4 = .ok (.aload_n 0, 1) := by decide +kernel
theorem dX1_nextOf_5 : decode cX1_nextOf 5 = .ok (.iload_n 1, 1) := by decide +kernel
theorem dX1_nextOf_6 : decode cX1_nextOf 6 = .ok (.invokevirtual 47, 3) := by decide +kernel
theorem dX1_nextOf_9 : decode cX1_nextOf 9 = .ok (.istore_n 2, 1) := by decide +kernel
theorem dX1_nextOf_10 : decode cX1_nextOf 10 = .ok (.iload_n 2, 1) := by decide +kernel
theorem dX1_nextOf_11 : decode cX1_nextOf 11 = .ok (.ifCond .eq 7, 3) := by decide +kernel
theorem dX1_nextOf_14 : decode cX1_nextOf 14 = .ok (.iload_n 2, 1) := by decide +kernel
theorem dX1_nextOf_15 : decode cX1_nextOf 15 = .ok (.goto 9, 3) := by decide +kernel
theorem dX1_nextOf_18 : decode cX1_nextOf 18 = .ok (.aload_n 0, 1) := by decide +kernel
theorem dX1_nextOf_19 : decode cX1_nextOf 19 = .ok (.bipush 8, 2) := by decide +kernel
theorem dX1_nextOf_21 : decode cX1_nextOf 21 = .ok (.invokevirtual 47, 3) := by decide +kernel
theorem dX1_nextOf_24 : decode cX1_nextOf 24 = .ok (.ireturn, 1) := by decide +kernel
theorem dX1_placeOf_0 : decode cX1_placeOf 0 = .ok (.aload_n 0, 1) := by decide +kernel
theorem dX1_placeOf_1 : decode cX1_placeOf 1 = .ok (.getfield 14, 3) := by decide +kernel
theorem dX1_placeOf_4 : decode cX1_placeOf 4 = .ok (.astore_n 2, 1) := by decide +kernel
theorem dX1_placeOf_5 : decode cX1_placeOf 5 = .ok (.aload_n 2, 1) := by decide +kernel
theorem dX1_placeOf_6 : decode cX1_placeOf 6 = .ok (.ifnull 32, 3) := by decide +kernel
theorem dX1_placeOf_9 : decode cX1_placeOf 9 = .ok (.iload_n 1, 1) := by decide +kernel
theorem dX1_placeOf_10 : decode cX1_placeOf 10 = .ok (.aload_n 2, 1) := by decide +kernel
theorem dX1_placeOf_11 : decode cX1_placeOf 11 = .ok (.getfield 90, 3) := by decide +kernel
theorem dX1_placeOf_14 : decode cX1_placeOf 14 = .ok (.if_icmp .lt 16, 3) := by decide +kernel
theorem dX1_placeOf_17 : decode cX1_placeOf 17 = .ok (.iload_n 1, 1) := by decide +kernel
theorem dX1_placeOf_18 : decode cX1_placeOf 18 = .ok (.aload_n 2, 1) := by decide +kernel
theorem dX1_placeOf_19 : decode cX1_placeOf 19 = .ok (.getfield 93, 3) := by decide +kernel
theorem dX1_placeOf_22 : decode cX1_placeOf 22 = .ok (.if_icmp .gt 8, 3) := by decide +kernel
theorem dX1_placeOf_25 : decode cX1_placeOf 25 = .ok (.aload_n 2, 1) := by decide +kernel
theorem dX1_placeOf_26 : decode cX1_placeOf 26 = .ok (.getfield 96, 3) := by decide +kernel
theorem dX1_placeOf_29 : decode cX1_placeOf 29 = .ok (.ireturn, 1) := by decide +kernel
theorem dX1_placeOf_30 : decode cX1_placeOf 30 = .ok (.aload_n 2, 1) := by decide +kernel
theorem dX1_placeOf_31 : decode cX1_placeOf 31 = .ok (.getfield 103, 3) := by decide +kernel
theorem dX1_placeOf_34 : decode cX1_placeOf 34 = .ok (.astore_n 2, 1) := by decide +kernel
theorem dX1_placeOf_35 : decode cX1_placeOf 35 = .ok (.goto (-30), 3) := by decide +kernel
theorem dX1_placeOf_38 : decode cX1_placeOf 38 = .ok (.iconst (-1), 1) := by decide +kernel
theorem dX1_placeOf_39 : decode cX1_placeOf 39 = .ok (.ireturn, 1) := by decide +kernel
set_option maxRecDepth 20000 in
theorem ggX1_drunk_X1_numbersAt : GoodIn wsX1_drunk wsX1_numbersAt := goodIn_r _ [5, 6, 7, 8, 4, 9, 10, 11, 12, 13, 14, 15, 16, 17, 18, 19, 20, 21] (by decide +kernel) (by decide +kernel)
set_option maxRecDepth 20000 in
theorem gX1_drunk_X1_numbersAt : GoodIn wsX1_drunk (wsV RX1 36 RX1 yX1_numbersAt wsX1_numbersAt) := goodIn_app (goodIn_of _ (by decide +kernel)) ggX1_drunk_X1_numbersAt
theorem dX1_drunk_0 : decode cX1_drunk 0 = .ok (.aload_n 0, 1) := by decide +kernel
theorem dX1_drunk_1 : decode cX1_drunk 1 = .ok (.bipush 9, 2) := by decide +kernel
theorem dX1_drunk_3 : decode cX1_drunk 3 = .ok (.invokevirtual 36, 3) := by decide +kernel
theorem dX1_drunk_6 : decode cX1_drunk 6 = .ok (.ireturn, 1) := by decide +kernel
set_option maxRecDepth 20000 in
theorem ggX1_spilt_X1_numbersAt : GoodIn wsX1_spilt wsX1_numbersAt := goodIn_r _ [5, 6, 7, 8, 4, 9, 10, 11, 12, 13, 14, 15, 16, 17, 18, 19, 20, 21] (by decide +kernel) (by decide +kernel)
set_option maxRecDepth 20000 in
theorem gX1_spilt_X1_numbersAt : GoodIn wsX1_spilt (wsV RX1 36 RX1 yX1_numbersAt wsX1_numbersAt) := goodIn_app (goodIn_of _ (by decide +kernel)) ggX1_spilt_X1_numbersAt
theorem dX1_spilt_0 : decode cX1_spilt 0 = .ok (.aload_n 0, 1) := by decide +kernel
theorem dX1_spilt_1 : decode cX1_spilt 1 = .ok (.bipush 10, 2) := by decide +kernel
theorem dX1_spilt_3 : decode cX1_spilt 3 = .ok (.invokevirtual 36, 3) := by decide +kernel
theorem dX1_spilt_6 : decode cX1_spilt 6 = .ok (.ireturn, 1) := by decide +kernel
theorem dX1_lowestLeft_0 : decode cX1_lowestLeft 0 = .ok (.aload_n 0, 1) := by decide +kernel
theorem dX1_lowestLeft_1 : decode cX1_lowestLeft 1 = .ok (.getfield 14, 3) := by decide +kernel
theorem dX1_lowestLeft_4 : decode cX1_lowestLeft 4 = .ok (.astore_n 1, 1) := by decide +kernel
theorem dX1_lowestLeft_5 : decode cX1_lowestLeft 5 = .ok (.aload_n 1, 1) := by decide +kernel
theorem dX1_lowestLeft_6 : decode cX1_lowestLeft 6 = .ok (.ifnull 33, 3) := by decide +kernel
theorem dX1_lowestLeft_9 : decode cX1_lowestLeft 9 = .ok (.aload_n 1, 1) := by decide +kernel
theorem dX1_lowestLeft_10 : decode cX1_lowestLeft 10 = .ok (.getfield 96, 3) := by decide +kernel
theorem dX1_lowestLeft_13 : decode cX1_lowestLeft 13 = .ok (.bipush 9, 2) := by decide +kernel
theorem dX1_lowestLeft_15 : decode cX1_lowestLeft 15 = .ok (.if_icmp .eq 16, 3) := by decide +kernel
theorem dX1_lowestLeft_18 : decode cX1_lowestLeft 18 = .ok (.aload_n 1, 1) := by decide +kernel
theorem dX1_lowestLeft_19 : decode cX1_lowestLeft 19 = .ok (.getfield 96, 3) := by decide +kernel
theorem dX1_lowestLeft_22 : decode cX1_lowestLeft 22 = .ok (.iconst (-1), 1) := by decide +kernel
theorem dX1_lowestLeft_23 : decode cX1_lowestLeft 23 = .ok (.if_icmp .eq 8, 3) := by decide +kernel
theorem dX1_lowestLeft_26 : decode cX1_lowestLeft 26 = .ok (.aload_n 1, 1) := by decide +kernel
theorem dX1_lowestLeft_27 : decode cX1_lowestLeft 27 = .ok (.getfield 90, 3) := by decide +kernel
theorem dX1_lowestLeft_30 : decode cX1_lowestLeft 30 = .ok (.ireturn, 1) := by decide +kernel
theorem dX1_lowestLeft_31 : decode cX1_lowestLeft 31 = .ok (.aload_n 1, 1) := by decide +kernel
theorem dX1_lowestLeft_32 : decode cX1_lowestLeft 32 = .ok (.getfield 103, 3) := by decide +kernel
theorem dX1_lowestLeft_35 : decode cX1_lowestLeft 35 = .ok (.astore_n 1, 1) := by decide +kernel
theorem dX1_lowestLeft_36 : decode cX1_lowestLeft 36 = .ok (.goto (-31), 3) := by decide +kernel
theorem dX1_lowestLeft_39 : decode cX1_lowestLeft 39 = .ok (.iconst 0, 1) := by decide +kernel
theorem dX1_lowestLeft_40 : decode cX1_lowestLeft 40 = .ok (.ireturn, 1) := by decide +kernel
theorem dX1_checkGoblet_0 : decode cX1_checkGoblet 0 = .ok (.iload_n 0, 1) := by decide +kernel
theorem dX1_checkGoblet_1 : decode cX1_checkGoblet 1 = .ok (.ifCond .lt 9, 3) := by decide +kernel
theorem dX1_checkGoblet_4 : decode cX1_checkGoblet 4 = .ok (.iload_n 0, 1) := by decide +kernel
theorem dX1_checkGoblet_5 : decode cX1_checkGoblet 5 = .ok (.bipush 8, 2) := by decide +kernel
theorem dX1_checkGoblet_7 : decode cX1_checkGoblet 7 = .ok (.if_icmp .lt 13, 3) := by decide +kernel
theorem dX1_checkGoblet_10 : decode cX1_checkGoblet 10 = .ok (.new 85, 3) := by decide +kernel
theorem dX1_checkGoblet_13 : decode cX1_checkGoblet 13 = .ok (.dup, 1) := by decide +kernel
theorem dX1_checkGoblet_14 : decode cX1_checkGoblet 14 = .ok (.ldc 106, 2) := by decide +kernel
theorem dX1_checkGoblet_16 : decode cX1_checkGoblet 16 = .ok (.invokespecial 89, 3) := by decide +kernel
theorem dX1_checkGoblet_19 : decode cX1_checkGoblet 19 = .ok (.athrow, 1) := by decide +kernel
theorem dX1_checkGoblet_20 : decode cX1_checkGoblet 20 = .ok (.return_, 1) := by decide +kernel
theorem dX1_checkCount_0 : decode cX1_checkCount 0 = .ok (.iload_n 0, 1) := by decide +kernel
theorem dX1_checkCount_1 : decode cX1_checkCount 1 = .ok (.iconst 1, 1) := by decide +kernel
theorem dX1_checkCount_2 : decode cX1_checkCount 2 = .ok (.if_icmp .lt 10, 3) := by decide +kernel
theorem dX1_checkCount_5 : decode cX1_checkCount 5 = .ok (.iload_n 0, 1) := by decide +kernel
theorem dX1_checkCount_6 : decode cX1_checkCount 6 = .ok (.sipush 200, 3) := by decide +kernel
theorem dX1_checkCount_9 : decode cX1_checkCount 9 = .ok (.if_icmp .le 13, 3) := by decide +kernel
theorem dX1_checkCount_12 : decode cX1_checkCount 12 = .ok (.new 25, 3) := by decide +kernel
theorem dX1_checkCount_15 : decode cX1_checkCount 15 = .ok (.dup, 1) := by decide +kernel
theorem dX1_checkCount_16 : decode cX1_checkCount 16 = .ok (.ldc 108, 2) := by decide +kernel
theorem dX1_checkCount_18 : decode cX1_checkCount 18 = .ok (.invokespecial 29, 3) := by decide +kernel
theorem dX1_checkCount_21 : decode cX1_checkCount 21 = .ok (.athrow, 1) := by decide +kernel
theorem dX1_checkCount_22 : decode cX1_checkCount 22 = .ok (.return_, 1) := by decide +kernel
set_option maxRecDepth 20000 in
theorem ggX1_move_X0_shortenTo : GoodIn wsX1_move wsX0_shortenTo := goodIn_r _ [5, 6, 7, 8, 3, 9, 10, 11, 12, 13, 14, 15, 16, 17, 18, 19, 20, 21, 33, 34, 35, 36] (by decide +kernel) (by decide +kernel)
set_option maxRecDepth 20000 in
theorem gX1_move_X0_shortenTo_n110 : GoodIn wsX1_move (wsX0_shortenTo) := ggX1_move_X0_shortenTo
set_option maxRecDepth 20000 in
theorem ggX1_move_X0_length : GoodIn wsX1_move wsX0_length := goodIn_r _ [15, 9, 6, 33, 34, 35, 36] (by decide +kernel) (by decide +kernel)
set_option maxRecDepth 20000 in
theorem gX1_move_X0_length_n99 : GoodIn wsX1_move (wsX0_length) := ggX1_move_X0_length
set_option maxRecDepth 20000 in
theorem ggX1_move_X1_joinNeighbours : GoodIn wsX1_move wsX1_joinNeighbours := goodIn_r _ [26, 1, 27, 3, 28, 29, 11, 10, 9, 30, 31, 32, 33, 34, 35, 36] (by decide +kernel) (by decide +kernel)
set_option maxRecDepth 20000 in
theorem gX1_move_X1_joinNeighbours : GoodIn wsX1_move (wsV RX1 113 RX1 yX1_joinNeighbours wsX1_joinNeighbours) := goodIn_app (goodIn_of _ (by decide +kernel)) ggX1_move_X1_joinNeighbours
theorem dX1_move_0 : decode cX1_move 0 = .ok (.iload_n 3, 1) := by decide +kernel
theorem dX1_move_1 : decode cX1_move 1 = .ok (.istore 5, 2) := by decide +kernel
theorem dX1_move_3 : decode cX1_move 3 = .ok (.iload 4, 2) := by decide +kernel
theorem dX1_move_5 : decode cX1_move 5 = .ok (.istore 6, 2) := by decide +kernel
theorem dX1_move_7 : decode cX1_move 7 = .ok (.aload_n 0, 1) := by decide +kernel
theorem dX1_move_8 : decode cX1_move 8 = .ok (.getfield 14, 3) := by decide +kernel
theorem dX1_move_11 : decode cX1_move 11 = .ok (.astore 7, 2) := by decide +kernel
theorem dX1_move_13 : decode cX1_move 13 = .ok (.aload 7, 2) := by decide +kernel
theorem dX1_move_15 : decode cX1_move 15 = .ok (.ifnull 84, 3) := by decide +kernel
theorem dX1_move_18 : decode cX1_move 18 = .ok (.iload 6, 2) := by decide +kernel
theorem dX1_move_20 : decode cX1_move 20 = .ok (.ifCond .le 79, 3) := by decide +kernel
theorem dX1_move_23 : decode cX1_move 23 = .ok (.aload 7, 2) := by decide +kernel
theorem dX1_move_25 : decode cX1_move 25 = .ok (.getfield 96, 3) := by decide +kernel
theorem dX1_move_28 : decode cX1_move 28 = .ok (.iload_n 1, 1) := by decide +kernel
theorem dX1_move_29 : decode cX1_move 29 = .ok (.if_icmp .ne 28, 3) := by decide +kernel
theorem dX1_move_32 : decode cX1_move 32 = .ok (.iload 5, 2) := by decide +kernel
theorem dX1_move_34 : decode cX1_move 34 = .ok (.ifCond .le 23, 3) := by decide +kernel
theorem dX1_move_37 : decode cX1_move 37 = .ok (.aload 7, 2) := by decide +kernel
theorem dX1_move_39 : decode cX1_move 39 = .ok (.iload 5, 2) := by decide +kernel
theorem dX1_move_41 : decode cX1_move 41 = .ok (.invokevirtual 110, 3) := by decide +kernel
theorem dX1_move_44 : decode cX1_move 44 = .ok (.iload 5, 2) := by decide +kernel
theorem dX1_move_46 : decode cX1_move 46 = .ok (.aload 7, 2) := by decide +kernel
theorem dX1_move_48 : decode cX1_move 48 = .ok (.invokevirtual 99, 3) := by decide +kernel
theorem dX1_move_51 : decode cX1_move 51 = .ok (.isub, 1) := by decide +kernel
theorem dX1_move_52 : decode cX1_move 52 = .ok (.istore 5, 2) := by decide +kernel
theorem dX1_move_54 : decode cX1_move 54 = .ok (.goto 35, 3) := by decide +kernel
theorem dX1_move_57 : decode cX1_move 57 = .ok (.aload 7, 2) := by decide +kernel
theorem dX1_move_59 : decode cX1_move 59 = .ok (.getfield 96, 3) := by decide +kernel
theorem dX1_move_62 : decode cX1_move 62 = .ok (.iload_n 1, 1) := by decide +kernel
theorem dX1_move_63 : decode cX1_move 63 = .ok (.if_icmp .ne 26, 3) := by decide +kernel
theorem dX1_move_66 : decode cX1_move 66 = .ok (.aload 7, 2) := by decide +kernel
theorem dX1_move_68 : decode cX1_move 68 = .ok (.iload 6, 2) := by decide +kernel
theorem dX1_move_70 : decode cX1_move 70 = .ok (.invokevirtual 110, 3) := by decide +kernel
theorem dX1_move_73 : decode cX1_move 73 = .ok (.iload 6, 2) := by decide +kernel
theorem dX1_move_75 : decode cX1_move 75 = .ok (.aload 7, 2) := by decide +kernel
theorem dX1_move_77 : decode cX1_move 77 = .ok (.invokevirtual 99, 3) := by decide +kernel
theorem dX1_move_80 : decode cX1_move 80 = .ok (.isub, 1) := by decide +kernel
theorem dX1_move_81 : decode cX1_move 81 = .ok (.istore 6, 2) := by decide +kernel
theorem dX1_move_83 : decode cX1_move 83 = .ok (.aload 7, 2) := by decide +kernel
theorem dX1_move_85 : decode cX1_move 85 = .ok (.iload_n 2, 1) := by decide +kernel
theorem dX1_move_86 : decode cX1_move 86 = .ok (.putfield 96, 3) := by decide +kernel
theorem dX1_move_89 : decode cX1_move 89 = .ok (.aload 7, 2) := by decide +kernel
theorem dX1_move_91 : decode cX1_move 91 = .ok (.getfield 103, 3) := by decide +kernel
theorem dX1_move_94 : decode cX1_move 94 = .ok (.astore 7, 2) := by decide +kernel
theorem dX1_move_96 : decode cX1_move 96 = .ok (.goto (-83), 3) := by decide +kernel
theorem dX1_move_99 : decode cX1_move 99 = .ok (.aload_n 0, 1) := by decide +kernel
theorem dX1_move_100 : decode cX1_move 100 = .ok (.invokevirtual 113, 3) := by decide +kernel
theorem dX1_move_103 : decode cX1_move 103 = .ok (.iload 4, 2) := by decide +kernel
theorem dX1_move_105 : decode cX1_move 105 = .ok (.iload 6, 2) := by decide +kernel
theorem dX1_move_107 : decode cX1_move 107 = .ok (.isub, 1) := by decide +kernel
theorem dX1_move_108 : decode cX1_move 108 = .ok (.ireturn, 1) := by decide +kernel
set_option maxRecDepth 20000 in
theorem ggX1_moveAll_X1_move : GoodIn wsX1_moveAll wsX1_move := goodIn_r _ [5, 6, 7, 8, 9, 10, 11, 12, 13, 14, 15, 16, 17, 18, 19, 20, 21, 22, 23, 24, 25, 26, 27, 28, 29, 4, 30, 31, 32, 33, 34, 35, 36, 37, 38, 39, 40] (by decide +kernel) (by decide +kernel)
set_option maxRecDepth 20000 in
theorem gX1_moveAll_X1_move : GoodIn wsX1_moveAll (wsV RX1 32 RX1 yX1_move wsX1_move) := goodIn_app (goodIn_of _ (by decide +kernel)) ggX1_moveAll_X1_move
theorem dX1_moveAll_0 : decode cX1_moveAll 0 = .ok (.aload_n 0, 1) := by decide +kernel
theorem dX1_moveAll_1 : decode cX1_moveAll 1 = .ok (.iload_n 1, 1) := by decide +kernel
theorem dX1_moveAll_2 : decode cX1_moveAll 2 = .ok (.iload_n 2, 1) := by decide +kernel
theorem dX1_moveAll_3 : decode cX1_moveAll 3 = .ok (.iconst 0, 1) := by decide +kernel
theorem dX1_moveAll_4 : decode cX1_moveAll 4 = .ok (.sipush 5000, 3) := by decide +kernel
theorem dX1_moveAll_7 : decode cX1_moveAll 7 = .ok (.invokevirtual 32, 3) := by decide +kernel
theorem dX1_moveAll_10 : decode cX1_moveAll 10 = .ok (.ireturn, 1) := by decide +kernel
set_option maxRecDepth 20000 in
theorem ggX1_joinNeighbours_X0_absorbNextOnesOfSamePlace : GoodIn wsX1_joinNeighbours wsX0_absorbNextOnesOfSamePlace := goodIn_r _ [5, 6, 7, 8, 12, 13, 14, 15] (by decide +kernel) (by decide +kernel)
set_option maxRecDepth 20000 in
theorem gX1_joinNeighbours_X0_absorbNextOnesOfSamePlace_n116 : GoodIn wsX1_joinNeighbours (wsX0_absorbNextOnesOfSamePlace) := ggX1_joinNeighbours_X0_absorbNextOnesOfSamePlace
theorem dX1_joinNeighbours_0 : decode cX1_joinNeighbours 0 = .ok (.aload_n 0, 1) := by decide +kernel
theorem dX1_joinNeighbours_1 : decode cX1_joinNeighbours 1 = .ok (.getfield 14, 3) := by decide +kernel
theorem dX1_joinNeighbours_4 : decode cX1_joinNeighbours 4 = .ok (.astore_n 1, 1) := by decide +kernel
theorem dX1_joinNeighbours_5 : decode cX1_joinNeighbours 5 = .ok (.aload_n 1, 1) := by decide +kernel
theorem dX1_joinNeighbours_6 : decode cX1_joinNeighbours 6 = .ok (.ifnull 15, 3) := by decide +kernel
theorem dX1_joinNeighbours_9 : decode cX1_joinNeighbours 9 = .ok (.aload_n 1, 1) := by decide +kernel
theorem dX1_joinNeighbours_10 : decode cX1_joinNeighbours 10 = .ok (.invokevirtual 116, 3) := by decide +kernel
theorem dX1_joinNeighbours_13 : decode cX1_joinNeighbours 13 = .ok (.aload_n 1, 1) := by decide +kernel
theorem dX1_joinNeighbours_14 : decode cX1_joinNeighbours 14 = .ok (.getfield 103, 3) := by decide +kernel
theorem dX1_joinNeighbours_17 : decode cX1_joinNeighbours 17 = .ok (.astore_n 1, 1) := by decide +kernel
theorem dX1_joinNeighbours_18 : decode cX1_joinNeighbours 18 = .ok (.goto (-13), 3) := by decide +kernel
theorem dX1_joinNeighbours_21 : decode cX1_joinNeighbours 21 = .ok (.return_, 1) := by decide +kernel
set_option maxRecDepth 20000 in
theorem ggX1_numbersAt_X1_numbersAtBelow : GoodIn wsX1_numbersAt wsX1_numbersAtBelow := goodIn_r _ [5, 6, 7, 8, 9, 10, 11, 12, 13, 14, 15, 16, 17] (by decide +kernel) (by decide +kernel)
set_option maxRecDepth 20000 in
theorem gX1_numbersAt_X1_numbersAtBelow : GoodIn wsX1_numbersAt (wsV RX1 73 RX1 yX1_numbersAtBelow wsX1_numbersAtBelow) := goodIn_app (goodIn_of _ (by decide +kernel)) ggX1_numbersAt_X1_numbersAtBelow
theorem dX1_numbersAt_0 : decode cX1_numbersAt 0 = .ok (.aload_n 0, 1) := by decide +kernel
theorem dX1_numbersAt_1 : decode cX1_numbersAt 1 = .ok (.iload_n 1, 1) := by decide +kernel
theorem dX1_numbersAt_2 : decode cX1_numbersAt 2 = .ok (.sipush 5001, 3) := by decide +kernel
theorem dX1_numbersAt_5 : decode cX1_numbersAt 5 = .ok (.invokevirtual 73, 3) := by decide +kernel
theorem dX1_numbersAt_8 : decode cX1_numbersAt 8 = .ok (.ireturn, 1) := by decide +kernel
theorem dX1_numbersAtBelow_0 : decode cX1_numbersAtBelow 0 = .ok (.iconst 0, 1) := by decide +kernel
theorem dX1_numbersAtBelow_1 : decode cX1_numbersAtBelow 1 = .ok (.istore_n 3, 1) := by decide +kernel
theorem dX1_numbersAtBelow_2 : decode cX1_numbersAtBelow 2 = .ok (.aload_n 0, 1) := by decide +kernel
theorem dX1_numbersAtBelow_3 : decode cX1_numbersAtBelow 3 = .ok (.getfield 14, 3) := by decide +kernel
theorem dX1_numbersAtBelow_6 : decode cX1_numbersAtBelow 6 = .ok (.astore 4, 2) := by decide +kernel
theorem dX1_numbersAtBelow_8 : decode cX1_numbersAtBelow 8 = .ok (.aload 4, 2) := by decide +kernel
theorem dX1_numbersAtBelow_10 : decode cX1_numbersAtBelow 10 = .ok (.ifnull 53, 3) := by decide +kernel
theorem dX1_numbersAtBelow_13 : decode cX1_numbersAtBelow 13 = .ok (.aload 4, 2) := by decide +kernel
theorem dX1_numbersAtBelow_15 : decode cX1_numbersAtBelow 15 = .ok (.getfield 90, 3) := by decide +kernel
theorem dX1_numbersAtBelow_18 : decode cX1_numbersAtBelow 18 = .ok (.iload_n 2, 1) := by decide +kernel
theorem dX1_numbersAtBelow_19 : decode cX1_numbersAtBelow 19 = .ok (.if_icmp .ge 44, 3) := by decide +kernel
theorem dX1_numbersAtBelow_22 : decode cX1_numbersAtBelow 22 = .ok (.aload 4, 2) := by decide +kernel
theorem dX1_numbersAtBelow_24 : decode cX1_numbersAtBelow 24 = .ok (.getfield 96, 3) := by decide +kernel
theorem dX1_numbersAtBelow_27 : decode cX1_numbersAtBelow 27 = .ok (.iload_n 1, 1) := by decide +kernel
theorem dX1_numbersAtBelow_28 : decode cX1_numbersAtBelow 28 = .ok (.if_icmp .ne 25, 3) := by decide +kernel
theorem dX1_numbersAtBelow_31 : decode cX1_numbersAtBelow 31 = .ok (.iload_n 3, 1) := by decide +kernel
theorem dX1_numbersAtBelow_32 : decode cX1_numbersAtBelow 32 = .ok (.aload 4, 2) := by decide +kernel
theorem dX1_numbersAtBelow_34 : decode cX1_numbersAtBelow 34 = .ok (.getfield 93, 3) := by decide +kernel
theorem dX1_numbersAtBelow_37 : decode cX1_numbersAtBelow 37 = .ok (.iload_n 2, 1) := by decide +kernel
theorem dX1_numbersAtBelow_38 : decode cX1_numbersAtBelow 38 = .ok (.iconst 1, 1) := by decide +kernel
theorem dX1_numbersAtBelow_39 : decode cX1_numbersAtBelow 39 = .ok (.isub, 1) := by decide +kernel
theorem dX1_numbersAtBelow_40 : decode cX1_numbersAtBelow 40 = .ok (.invokestatic 119, 3) := by decide +kernel
theorem dX1_numbersAtBelow_43 : decode cX1_numbersAtBelow 43 = .ok (.aload 4, 2) := by decide +kernel
theorem dX1_numbersAtBelow_45 : decode cX1_numbersAtBelow 45 = .ok (.getfield 90, 3) := by decide +kernel
theorem dX1_numbersAtBelow_48 : decode cX1_numbersAtBelow 48 = .ok (.isub, 1) := by decide +kernel
theorem dX1_numbersAtBelow_49 : decode cX1_numbersAtBelow 49 = .ok (.iconst 1, 1) := by decide +kernel
theorem dX1_numbersAtBelow_50 : decode cX1_numbersAtBelow 50 = .ok (.iadd, 1) := by decide +kernel
theorem dX1_numbersAtBelow_51 : decode cX1_numbersAtBelow 51 = .ok (.iadd, 1) := by decide +kernel
theorem dX1_numbersAtBelow_52 : decode cX1_numbersAtBelow 52 = .ok (.istore_n 3, 1) := by decide +kernel
theorem dX1_numbersAtBelow_53 : decode cX1_numbersAtBelow 53 = .ok (.aload 4, 2) := by decide +kernel
theorem dX1_numbersAtBelow_55 : decode cX1_numbersAtBelow 55 = .ok (.getfield 103, 3) := by decide +kernel
theorem dX1_numbersAtBelow_58 : decode cX1_numbersAtBelow 58 = .ok (.astore 4, 2) := by decide +kernel
theorem dX1_numbersAtBelow_60 : decode cX1_numbersAtBelow 60 = .ok (.goto (-52), 3) := by decide +kernel
theorem dX1_numbersAtBelow_63 : decode cX1_numbersAtBelow 63 = .ok (.iload_n 3, 1) := by decide +kernel
theorem dX1_numbersAtBelow_64 : decode cX1_numbersAtBelow 64 = .ok (.ireturn, 1) := by decide +kernel
theorem dX1_rangesAt_0 : decode cX1_rangesAt 0 = .ok (.iconst 0, 1) := by decide +kernel
theorem dX1_rangesAt_1 : decode cX1_rangesAt 1 = .ok (.istore_n 2, 1) := by decide +kernel
theorem dX1_rangesAt_2 : decode cX1_rangesAt 2 = .ok (.aload_n 0, 1) := by decide +kernel
theorem dX1_rangesAt_3 : decode cX1_rangesAt 3 = .ok (.getfield 14, 3) := by decide +kernel
theorem dX1_rangesAt_6 : decode cX1_rangesAt 6 = .ok (.astore_n 3, 1) := by decide +kernel
theorem dX1_rangesAt_7 : decode cX1_rangesAt 7 = .ok (.aload_n 3, 1) := by decide +kernel
theorem dX1_rangesAt_8 : decode cX1_rangesAt 8 = .ok (.ifnull 22, 3) := by decide +kernel
theorem dX1_rangesAt_11 : decode cX1_rangesAt 11 = .ok (.aload_n 3, 1) := by decide +kernel
theorem dX1_rangesAt_12 : decode cX1_rangesAt 12 = .ok (.getfield 96, 3) := by decide +kernel
theorem dX1_rangesAt_15 : decode cX1_rangesAt 15 = .ok (.iload_n 1, 1) := by decide +kernel
theorem dX1_rangesAt_16 : decode cX1_rangesAt 16 = .ok (.if_icmp .ne 6, 3) := by decide +kernel
theorem dX1_rangesAt_19 : decode cX1_rangesAt 19 = .ok (.iinc 2 1, 3) := by decide +kernel
theorem dX1_rangesAt_22 : decode cX1_rangesAt 22 = .ok (.aload_n 3, 1) := by decide +kernel
theorem dX1_rangesAt_23 : decode cX1_rangesAt 23 = .ok (.getfield 103, 3) := by decide +kernel
theorem dX1_rangesAt_26 : decode cX1_rangesAt 26 = .ok (.astore_n 3, 1) := by decide +kernel
theorem dX1_rangesAt_27 : decode cX1_rangesAt 27 = .ok (.goto (-20), 3) := by decide +kernel
theorem dX1_rangesAt_30 : decode cX1_rangesAt 30 = .ok (.iload_n 2, 1) := by decide +kernel
theorem dX1_rangesAt_31 : decode cX1_rangesAt 31 = .ok (.ireturn, 1) := by decide +kernel
theorem dX1_lowestAt_0 : decode cX1_lowestAt 0 = .ok (.aload_n 0, 1) := by decide +kernel
theorem dX1_lowestAt_1 : decode cX1_lowestAt 1 = .ok (.getfield 14, 3) := by decide +kernel
theorem dX1_lowestAt_4 : decode cX1_lowestAt 4 = .ok (.astore_n 2, 1) := by decide +kernel
theorem dX1_lowestAt_5 : decode cX1_lowestAt 5 = .ok (.aload_n 2, 1) := by decide +kernel
theorem dX1_lowestAt_6 : decode cX1_lowestAt 6 = .ok (.ifnull 24, 3) := by decide +kernel
theorem dX1_lowestAt_9 : decode cX1_lowestAt 9 = .ok (.aload_n 2, 1) := by decide +kernel
theorem dX1_lowestAt_10 : decode cX1_lowestAt 10 = .ok (.getfield 96, 3) := by decide +kernel
theorem dX1_lowestAt_13 : decode cX1_lowestAt 13 = .ok (.iload_n 1, 1) := by decide +kernel
theorem dX1_lowestAt_14 : decode cX1_lowestAt 14 = .ok (.if_icmp .ne 8, 3) := by decide +kernel
theorem dX1_lowestAt_17 : decode cX1_lowestAt 17 = .ok (.aload_n 2, 1) := by decide +kernel
theorem dX1_lowestAt_18 : decode cX1_lowestAt 18 = .ok (.getfield 90, 3) := by decide +kernel
theorem dX1_lowestAt_21 : decode cX1_lowestAt 21 = .ok (.ireturn, 1) := by decide +kernel
theorem dX1_lowestAt_22 : decode cX1_lowestAt 22 = .ok (.aload_n 2, 1) := by decide +kernel
theorem dX1_lowestAt_23 : decode cX1_lowestAt 23 = .ok (.getfield 103, 3) := by decide +kernel
theorem dX1_lowestAt_26 : decode cX1_lowestAt 26 = .ok (.astore_n 2, 1) := by decide +kernel
theorem dX1_lowestAt_27 : decode cX1_lowestAt 27 = .ok (.goto (-22), 3) := by decide +kernel
theorem dX1_lowestAt_30 : decode cX1_lowestAt 30 = .ok (.iconst 0, 1) := by decide +kernel
theorem dX1_lowestAt_31 : decode cX1_lowestAt 31 = .ok (.ireturn, 1) := by decide +kernel
theorem dX1_rangeOfJug_0 : decode cX1_rangeOfJug 0 = .ok (.iconst 0, 1) := by decide +kernel
theorem dX1_rangeOfJug_1 : decode cX1_rangeOfJug 1 = .ok (.istore_n 2, 1) := by decide +kernel
theorem dX1_rangeOfJug_2 : decode cX1_rangeOfJug 2 = .ok (.aload_n 0, 1) := by decide +kernel
theorem dX1_rangeOfJug_3 : decode cX1_rangeOfJug 3 = .ok (.getfield 14, 3) := by decide +kernel
theorem dX1_rangeOfJug_6 : decode cX1_rangeOfJug 6 = .ok (.astore_n 3, 1) := by decide +kernel
theorem dX1_rangeOfJug_7 : decode cX1_rangeOfJug 7 = .ok (.aload_n 3, 1) := by decide +kernel
theorem dX1_rangeOfJug_8 : decode cX1_rangeOfJug 8 = .ok (.ifnull 30, 3) := by decide +kernel
theorem dX1_rangeOfJug_11 : decode cX1_rangeOfJug 11 = .ok (.aload_n 3, 1) := by decide +kernel
theorem dX1_rangeOfJug_12 : decode cX1_rangeOfJug 12 = .ok (.getfield 96, 3) := by decide +kernel
theorem dX1_rangeOfJug_15 : decode cX1_rangeOfJug 15 = .ok (.bipush 8, 2) := by decide +kernel
theorem dX1_rangeOfJug_17 : decode cX1_rangeOfJug 17 = .ok (.if_icmp .ne 13, 3) := by decide +kernel
theorem dX1_rangeOfJug_20 : decode cX1_rangeOfJug 20 = .ok (.iload_n 2, 1) := by decide +kernel
theorem dX1_rangeOfJug_21 : decode cX1_rangeOfJug 21 = .ok (.iload_n 1, 1) := by decide +kernel
theorem dX1_rangeOfJug_22 : decode cX1_rangeOfJug 22 = .ok (.if_icmp .ne 5, 3) := by decide +kernel
theorem dX1_rangeOfJug_25 : decode cX1_rangeOfJug 25 = .ok (.aload_n 3, 1) := by decide +kernel
theorem dX1_rangeOfJug_26 : decode cX1_rangeOfJug 26 = .ok (.areturn, 1) := by decide +kernel
theorem dX1_rangeOfJug_27 : decode cX1_rangeOfJug 27 = .ok (.iinc 2 1, 3) := by decide +kernel
theorem dX1_rangeOfJug_30 : decode cX1_rangeOfJug 30 = .ok (.aload_n 3, 1) := by decide +kernel
theorem dX1_rangeOfJug_31 : decode cX1_rangeOfJug 31 = .ok (.getfield 103, 3) := by decide +kernel
theorem dX1_rangeOfJug_34 : decode cX1_rangeOfJug 34 = .ok (.astore_n 3, 1) := by decide +kernel
theorem dX1_rangeOfJug_35 : decode cX1_rangeOfJug 35 = .ok (.goto (-28), 3) := by decide +kernel
theorem dX1_rangeOfJug_38 : decode cX1_rangeOfJug 38 = .ok (.aconst_null, 1) := by decide +kernel
theorem dX1_rangeOfJug_39 : decode cX1_rangeOfJug 39 = .ok (.areturn, 1) := by decide +kernel
end
section
theorem dJ9_max_7cf53_0 : decode cJ9_max_7cf53 0 = .ok (.iload_n 0, 1) := by decide +kernel
theorem dJ9_max_7cf53_1 : decode cJ9_max_7cf53 1 = .ok (.iload_n 1, 1) := by decide +kernel
theorem dJ9_max_7cf53_2 : decode cJ9_max_7cf53 2 = .ok (.if_icmp .lt 7, 3) := by decide +kernel
theorem dJ9_max_7cf53_5 : decode cJ9_max_7cf53 5 = .ok (.iload_n 0, 1) := by decide +kernel
theorem dJ9_max_7cf53_6 : decode cJ9_max_7cf53 6 = .ok (.goto 4, 3) := by decide +kernel
theorem dJ9_max_7cf53_9 : decode cJ9_max_7cf53 9 = .ok (.iload_n 1, 1) := by decide +kernel
theorem dJ9_max_7cf53_10 : decode cJ9_max_7cf53 10 = .ok (.ireturn, 1) := by decide +kernel
theorem dJ9_min_7cf53_0 : decode cJ9_min_7cf53 0 = .ok (.iload_n 0, 1) := by decide +kernel
theorem dJ9_min_7cf53_1 : decode cJ9_min_7cf53 1 = .ok (.iload_n 1, 1) := by decide +kernel
theorem dJ9_min_7cf53_2 : decode cJ9_min_7cf53 2 = .ok (.if_icmp .gt 7, 3) := by decide +kernel
theorem dJ9_min_7cf53_5 : decode cJ9_min_7cf53 5 = .ok (.iload_n 0, 1) := by decide +kernel
theorem dJ9_min_7cf53_6 : decode cJ9_min_7cf53 6 = .ok (.goto 4, 3) := by decide +kernel
theorem dJ9_min_7cf53_9 : decode cJ9_min_7cf53 9 = .ok (.iload_n 1, 1) := by decide +kernel
theorem dJ9_min_7cf53_10 : decode cJ9_min_7cf53 10 = .ok (.ireturn, 1) := by decide +kernel
theorem dL_drawn_0 : decode cL_drawn 0 = .ok (.iload_n 1, 1) := by decide +kernel
theorem dL_drawn_1 : decode cL_drawn 1 = .ok (.aload_n 0, 1) := by decide +kernel
theorem dL_drawn_2 : decode cL_drawn 2 = .ok (.arraylength, 1) := by decide +kernel
theorem dL_drawn_3 : decode cL_drawn 3 = .ok (.if_icmp .ge 9, 3) := by decide +kernel
theorem dL_drawn_6 : decode cL_drawn 6 = .ok (.aload_n 0, 1) := by decide +kernel
theorem dL_drawn_7 : decode cL_drawn 7 = .ok (.iload_n 1, 1) := by decide +kernel
theorem dL_drawn_8 : decode cL_drawn 8 = .ok (.iaload, 1) := by decide +kernel
theorem dL_drawn_9 : decode cL_drawn 9 = .ok (.goto 11, 3) := by decide +kernel
theorem dL_drawn_12 : decode cL_drawn 12 = .ok (.ldc 7, 2) := by decide +kernel
theorem dL_drawn_14 : decode cL_drawn 14 = .ok (.iload_n 1, 1) := by decide +kernel
theorem dL_drawn_15 : decode cL_drawn 15 = .ok (.imul, 1) := by decide +kernel
theorem dL_drawn_16 : decode cL_drawn 16 = .ok (.sipush 7001, 3) := by decide +kernel
theorem dL_drawn_19 : decode cL_drawn 19 = .ok (.iadd, 1) := by decide +kernel
theorem dL_drawn_20 : decode cL_drawn 20 = .ok (.istore_n 3, 1) := by decide +kernel
theorem dL_drawn_21 : decode cL_drawn 21 = .ok (.iload_n 3, 1) := by decide +kernel
theorem dL_drawn_22 : decode cL_drawn 22 = .ok (.iconst 1, 1) := by decide +kernel
theorem dL_drawn_23 : decode cL_drawn 23 = .ok (.iushr, 1) := by decide +kernel
theorem dL_drawn_24 : decode cL_drawn 24 = .ok (.iload_n 2, 1) := by decide +kernel
theorem dL_drawn_25 : decode cL_drawn 25 = .ok (.irem, 1) := by decide +kernel
theorem dL_drawn_26 : decode cL_drawn 26 = .ok (.ireturn, 1) := by decide +kernel
set_option maxRecDepth 20000 in
theorem ggL_inGoblets_X1_inGoblet : GoodIn wsL_inGoblets wsX1_inGoblet := goodIn_ca (goodIn_r _ [5, 6, 7, 4, 8, 9, 10, 11, 12, 13, 14, 15, 16, 17, 18, 19, 20, 21, 22, 23, 24, 25, 26, 27, 28, 29, 30] (by decide +kernel) (by decide +kernel)) (goodIn_sub (fun _ h => List.mem_cons_of_mem _ (List.mem_append_right _ h)) (by decide +kernel))
set_option maxRecDepth 20000 in
theorem gL_inGoblets_X1_inGoblet : GoodIn wsL_inGoblets (wsV RL 8 RX1 yX1_inGoblet wsX1_inGoblet) := goodIn_app (goodIn_of _ (by decide +kernel)) ggL_inGoblets_X1_inGoblet
theorem dL_inGoblets_0 : decode cL_inGoblets 0 = .ok (.iconst 0, 1) := by decide +kernel
theorem dL_inGoblets_1 : decode cL_inGoblets 1 = .ok (.istore_n 1, 1) := by decide +kernel
theorem dL_inGoblets_2 : decode cL_inGoblets 2 = .ok (.iconst 0, 1) := by decide +kernel
theorem dL_inGoblets_3 : decode cL_inGoblets 3 = .ok (.istore_n 2, 1) := by decide +kernel
theorem dL_inGoblets_4 : decode cL_inGoblets 4 = .ok (.iload_n 2, 1) := by decide +kernel
theorem dL_inGoblets_5 : decode cL_inGoblets 5 = .ok (.bipush 8, 2) := by decide +kernel
theorem dL_inGoblets_7 : decode cL_inGoblets 7 = .ok (.if_icmp .ge 17, 3) := by decide +kernel
theorem dL_inGoblets_10 : decode cL_inGoblets 10 = .ok (.iload_n 1, 1) := by decide +kernel
theorem dL_inGoblets_11 : decode cL_inGoblets 11 = .ok (.aload_n 0, 1) := by decide +kernel
theorem dL_inGoblets_12 : decode cL_inGoblets 12 = .ok (.iload_n 2, 1) := by decide +kernel
theorem dL_inGoblets_13 : decode cL_inGoblets 13 = .ok (.invokevirtual 8, 3) := by decide +kernel
theorem dL_inGoblets_16 : decode cL_inGoblets 16 = .ok (.iadd, 1) := by decide +kernel
theorem dL_inGoblets_17 : decode cL_inGoblets 17 = .ok (.istore_n 1, 1) := by decide +kernel
theorem dL_inGoblets_18 : decode cL_inGoblets 18 = .ok (.iinc 2 1, 3) := by decide +kernel
theorem dL_inGoblets_21 : decode cL_inGoblets 21 = .ok (.goto (-17), 3) := by decide +kernel
theorem dL_inGoblets_24 : decode cL_inGoblets 24 = .ok (.iload_n 1, 1) := by decide +kernel
theorem dL_inGoblets_25 : decode cL_inGoblets 25 = .ok (.ireturn, 1) := by decide +kernel
set_option maxRecDepth 20000 in
theorem ggL_areRangesApart_X1_longestRange : GoodIn wsL_areRangesApart wsX1_longestRange := goodIn_r _ [5, 6, 7, 8, 9, 10, 11, 12, 60, 61, 62, 63, 64, 65, 66] (by decide +kernel) (by decide +kernel)
set_option maxRecDepth 20000 in
theorem gL_areRangesApart_X1_longestRange : GoodIn wsL_areRangesApart (wsV RL 14 RX1 yX1_longestRange wsX1_longestRange) := goodIn_app (goodIn_of _ (by decide +kernel)) ggL_areRangesApart_X1_longestRange
set_option maxRecDepth 20000 in
theorem ggL_areRangesApart_X1_rangeTo : GoodIn wsL_areRangesApart wsX1_rangeTo := goodIn_ca (goodIn_r _ [16, 17, 18, 19, 20, 21, 4, 22, 6, 63, 64, 65, 66, 60, 61, 62] (by decide +kernel) (by decide +kernel)) (goodIn_sub (fun _ h => List.mem_cons_of_mem _ (List.mem_append_right _ h)) (by decide +kernel))
set_option maxRecDepth 20000 in
theorem gL_areRangesApart_X1_rangeTo : GoodIn wsL_areRangesApart (wsV RL 18 RX1 yX1_rangeTo wsX1_rangeTo) := goodIn_app (goodIn_of _ (by decide +kernel)) ggL_areRangesApart_X1_rangeTo
set_option maxRecDepth 20000 in
theorem ggL_areRangesApart_X1_rangeFrom : GoodIn wsL_areRangesApart wsX1_rangeFrom := goodIn_ca (goodIn_r _ [26, 17, 18, 19, 20, 21, 4, 22, 6, 63, 64, 65, 66, 60, 61, 62] (by decide +kernel) (by decide +kernel)) (goodIn_sub (fun _ h => List.mem_cons_of_mem _ (List.mem_append_right _ h)) (by decide +kernel))
set_option maxRecDepth 20000 in
theorem gL_areRangesApart_X1_rangeFrom : GoodIn wsL_areRangesApart (wsV RL 21 RX1 yX1_rangeFrom wsX1_rangeFrom) := goodIn_app (goodIn_of _ (by decide +kernel)) ggL_areRangesApart_X1_rangeFrom
set_option maxRecDepth 20000 in
theorem ggL_areRangesApart_X1_ranges : GoodIn wsL_areRangesApart wsX1_ranges := goodIn_r _ [30, 31, 32, 33, 4, 34, 6, 60, 61, 62, 63, 64, 65, 66] (by decide +kernel) (by decide +kernel)
set_option maxRecDepth 20000 in
theorem gL_areRangesApart_X1_ranges : GoodIn wsL_areRangesApart (wsV RL 24 RX1 yX1_ranges wsX1_ranges) := goodIn_app (goodIn_of _ (by decide +kernel)) ggL_areRangesApart_X1_ranges
set_option maxRecDepth 20000 in
theorem ggL_areRangesApart_X1_size : GoodIn wsL_areRangesApart wsX1_size := goodIn_r _ [38, 39, 60, 61, 62] (by decide +kernel) (by decide +kernel)
set_option maxRecDepth 20000 in
theorem gL_areRangesApart_X1_size : GoodIn wsL_areRangesApart (wsV RL 27 RX1 yX1_size wsX1_size) := goodIn_app (goodIn_of _ (by decide +kernel)) ggL_areRangesApart_X1_size
set_option maxRecDepth 20000 in
theorem ggL_areRangesApart_X1_placeOf : GoodIn wsL_areRangesApart wsX1_placeOf := goodIn_r _ [43, 6, 60, 61, 62, 63, 64, 65, 66] (by decide +kernel) (by decide +kernel)
set_option maxRecDepth 20000 in
theorem gL_areRangesApart_X1_placeOf : GoodIn wsL_areRangesApart (wsV RL 30 RX1 yX1_placeOf wsX1_placeOf) := goodIn_app (goodIn_of _ (by decide +kernel)) ggL_areRangesApart_X1_placeOf
set_option maxRecDepth 20000 in
theorem ggL_areRangesApart_X1_inJug : GoodIn wsL_areRangesApart wsX1_inJug := goodIn_r _ [47, 48, 49, 50, 4, 51, 52, 53, 54, 55, 6, 56, 57, 58, 59, 60, 61, 62, 63, 64, 65, 66] (by decide +kernel) (by decide +kernel)
set_option maxRecDepth 20000 in
theorem gL_areRangesApart_X1_inJug : GoodIn wsL_areRangesApart (wsV RL 33 RX1 yX1_inJug wsX1_inJug) := goodIn_app (goodIn_of _ (by decide +kernel)) ggL_areRangesApart_X1_inJug
theorem dL_areRangesApart_0 : decode cL_areRangesApart 0 = .ok (.iconst 0, 1) := by decide +kernel
theorem dL_areRangesApart_1 : decode cL_areRangesApart 1 = .ok (.istore_n 1, 1) := by decide +kernel
theorem dL_areRangesApart_2 : decode cL_areRangesApart 2 = .ok (.iconst (-1), 1) := by decide +kernel
theorem dL_areRangesApart_3 : decode cL_areRangesApart 3 = .ok (.istore_n 2, 1) := by decide +kernel
theorem dL_areRangesApart_4 : decode cL_areRangesApart 4 = .ok (.aload_n 0, 1) := by decide +kernel
theorem dL_areRangesApart_5 : decode cL_areRangesApart 5 = .ok (.invokevirtual 14, 3) := by decide +kernel
theorem dL_areRangesApart_8 : decode cL_areRangesApart 8 = .ok (.istore_n 3, 1) := by decide +kernel
theorem dL_areRangesApart_9 : decode cL_areRangesApart 9 = .ok (.iload_n 3, 1) := by decide +kernel
theorem dL_areRangesApart_10 : decode cL_areRangesApart 10 = .ok (.ifCond .ge 7, 3) := by decide +kernel
theorem dL_areRangesApart_13 : decode cL_areRangesApart 13 = .ok (.iconst 0, 1) := by decide +kernel
theorem dL_areRangesApart_14 : decode cL_areRangesApart 14 = .ok (.goto 16, 3) := by decide +kernel
theorem dL_areRangesApart_17 : decode cL_areRangesApart 17 = .ok (.aload_n 0, 1) := by decide +kernel
theorem dL_areRangesApart_18 : decode cL_areRangesApart 18 = .ok (.iload_n 3, 1) := by decide +kernel
theorem dL_areRangesApart_19 : decode cL_areRangesApart 19 = .ok (.invokevirtual 18, 3) := by decide +kernel
theorem dL_areRangesApart_22 : decode cL_areRangesApart 22 = .ok (.aload_n 0, 1) := by decide +kernel
theorem dL_areRangesApart_23 : decode cL_areRangesApart 23 = .ok (.iload_n 3, 1) := by decide +kernel
theorem dL_areRangesApart_24 : decode cL_areRangesApart 24 = .ok (.invokevirtual 21, 3) := by decide +kernel
theorem dL_areRangesApart_27 : decode cL_areRangesApart 27 = .ok (.isub, 1) := by decide +kernel
theorem dL_areRangesApart_28 : decode cL_areRangesApart 28 = .ok (.iconst 1, 1) := by decide +kernel
theorem dL_areRangesApart_29 : decode cL_areRangesApart 29 = .ok (.iadd, 1) := by decide +kernel
theorem dL_areRangesApart_30 : decode cL_areRangesApart 30 = .ok (.istore 4, 2) := by decide +kernel
theorem dL_areRangesApart_32 : decode cL_areRangesApart 32 = .ok (.iload_n 3, 1) := by decide +kernel
theorem dL_areRangesApart_33 : decode cL_areRangesApart 33 = .ok (.ifCond .ge 7, 3) := by decide +kernel
theorem dL_areRangesApart_36 : decode cL_areRangesApart 36 = .ok (.iconst 1, 1) := by decide +kernel
theorem dL_areRangesApart_37 : decode cL_areRangesApart 37 = .ok (.goto 4, 3) := by decide +kernel
theorem dL_areRangesApart_40 : decode cL_areRangesApart 40 = .ok (.iconst 0, 1) := by decide +kernel
theorem dL_areRangesApart_41 : decode cL_areRangesApart 41 = .ok (.aload_n 0, 1) := by decide +kernel
theorem dL_areRangesApart_42 : decode cL_areRangesApart 42 = .ok (.invokevirtual 24, 3) := by decide +kernel
theorem dL_areRangesApart_45 : decode cL_areRangesApart 45 = .ok (.ifCond .ne 7, 3) := by decide +kernel
theorem dL_areRangesApart_48 : decode cL_areRangesApart 48 = .ok (.iconst 1, 1) := by decide +kernel
theorem dL_areRangesApart_49 : decode cL_areRangesApart 49 = .ok (.goto 4, 3) := by decide +kernel
theorem dL_areRangesApart_52 : decode cL_areRangesApart 52 = .ok (.iconst 0, 1) := by decide +kernel
theorem dL_areRangesApart_53 : decode cL_areRangesApart 53 = .ok (.if_icmp .ne 7, 3) := by decide +kernel
theorem dL_areRangesApart_56 : decode cL_areRangesApart 56 = .ok (.iconst 1, 1) := by decide +kernel
theorem dL_areRangesApart_57 : decode cL_areRangesApart 57 = .ok (.goto 4, 3) := by decide +kernel
theorem dL_areRangesApart_60 : decode cL_areRangesApart 60 = .ok (.iconst 0, 1) := by decide +kernel
theorem dL_areRangesApart_61 : decode cL_areRangesApart 61 = .ok (.istore 5, 2) := by decide +kernel
theorem dL_areRangesApart_63 : decode cL_areRangesApart 63 = .ok (.iconst 0, 1) := by decide +kernel
theorem dL_areRangesApart_64 : decode cL_areRangesApart 64 = .ok (.istore 6, 2) := by decide +kernel
theorem dL_areRangesApart_66 : decode cL_areRangesApart 66 = .ok (.iload 6, 2) := by decide +kernel
theorem dL_areRangesApart_68 : decode cL_areRangesApart 68 = .ok (.aload_n 0, 1) := by decide +kernel
theorem dL_areRangesApart_69 : decode cL_areRangesApart 69 = .ok (.invokevirtual 24, 3) := by decide +kernel
theorem dL_areRangesApart_72 : decode cL_areRangesApart 72 = .ok (.if_icmp .ge 149, 3) := by decide +kernel
theorem dL_areRangesApart_75 : decode cL_areRangesApart 75 = .ok (.aload_n 0, 1) := by decide +kernel
theorem dL_areRangesApart_76 : decode cL_areRangesApart 76 = .ok (.iload 6, 2) := by decide +kernel
theorem dL_areRangesApart_78 : decode cL_areRangesApart 78 = .ok (.invokevirtual 21, 3) := by decide +kernel
theorem dL_areRangesApart_81 : decode cL_areRangesApart 81 = .ok (.istore 7, 2) := by decide +kernel
theorem dL_areRangesApart_83 : decode cL_areRangesApart 83 = .ok (.aload_n 0, 1) := by decide +kernel
theorem dL_areRangesApart_84 : decode cL_areRangesApart 84 = .ok (.iload 6, 2) := by decide +kernel
theorem dL_areRangesApart_86 : decode cL_areRangesApart 86 = .ok (.invokevirtual 18, 3) := by decide +kernel
theorem dL_areRangesApart_89 : decode cL_areRangesApart 89 = .ok (.istore 8, 2) := by decide +kernel
theorem dL_areRangesApart_91 : decode cL_areRangesApart 91 = .ok (.iload 8, 2) := by decide +kernel
theorem dL_areRangesApart_93 : decode cL_areRangesApart 93 = .ok (.iload 7, 2) := by decide +kernel
theorem dL_areRangesApart_95 : decode cL_areRangesApart 95 = .ok (.isub, 1) := by decide +kernel
theorem dL_areRangesApart_96 : decode cL_areRangesApart 96 = .ok (.iconst 1, 1) := by decide +kernel
theorem dL_areRangesApart_97 : decode cL_areRangesApart 97 = .ok (.iadd, 1) := by decide +kernel
theorem dL_areRangesApart_98 : decode cL_areRangesApart 98 = .ok (.istore 9, 2) := by decide +kernel
theorem dL_areRangesApart_100 : decode cL_areRangesApart 100 = .ok (.iload 5, 2) := by decide +kernel
theorem dL_areRangesApart_102 : decode cL_areRangesApart 102 = .ok (.ifCond .eq 102, 3) := by decide +kernel
theorem dL_areRangesApart_105 : decode cL_areRangesApart 105 = .ok (.iload 7, 2) := by decide +kernel
theorem dL_areRangesApart_107 : decode cL_areRangesApart 107 = .ok (.iload_n 2, 1) := by decide +kernel
theorem dL_areRangesApart_108 : decode cL_areRangesApart 108 = .ok (.iconst 1, 1) := by decide +kernel
theorem dL_areRangesApart_109 : decode cL_areRangesApart 109 = .ok (.iadd, 1) := by decide +kernel
theorem dL_areRangesApart_110 : decode cL_areRangesApart 110 = .ok (.if_icmp .le 94, 3) := by decide +kernel
theorem dL_areRangesApart_113 : decode cL_areRangesApart 113 = .ok (.iload 8, 2) := by decide +kernel
theorem dL_areRangesApart_115 : decode cL_areRangesApart 115 = .ok (.iload 7, 2) := by decide +kernel
theorem dL_areRangesApart_117 : decode cL_areRangesApart 117 = .ok (.if_icmp .lt 87, 3) := by decide +kernel
theorem dL_areRangesApart_120 : decode cL_areRangesApart 120 = .ok (.iload 8, 2) := by decide +kernel
theorem dL_areRangesApart_122 : decode cL_areRangesApart 122 = .ok (.aload_n 0, 1) := by decide +kernel
theorem dL_areRangesApart_123 : decode cL_areRangesApart 123 = .ok (.invokevirtual 27, 3) := by decide +kernel
theorem dL_areRangesApart_126 : decode cL_areRangesApart 126 = .ok (.if_icmp .gt 78, 3) := by decide +kernel
theorem dL_areRangesApart_129 : decode cL_areRangesApart 129 = .ok (.aload_n 0, 1) := by decide +kernel
theorem dL_areRangesApart_130 : decode cL_areRangesApart 130 = .ok (.iload 7, 2) := by decide +kernel
theorem dL_areRangesApart_132 : decode cL_areRangesApart 132 = .ok (.invokevirtual 30, 3) := by decide +kernel
theorem dL_areRangesApart_135 : decode cL_areRangesApart 135 = .ok (.bipush 8, 2) := by decide +kernel
theorem dL_areRangesApart_137 : decode cL_areRangesApart 137 = .ok (.if_icmp .ne 67, 3) := by decide +kernel
theorem dL_areRangesApart_140 : decode cL_areRangesApart 140 = .ok (.aload_n 0, 1) := by decide +kernel
theorem dL_areRangesApart_141 : decode cL_areRangesApart 141 = .ok (.iload 8, 2) := by decide +kernel
theorem dL_areRangesApart_143 : decode cL_areRangesApart 143 = .ok (.invokevirtual 30, 3) := by decide +kernel
theorem dL_areRangesApart_146 : decode cL_areRangesApart 146 = .ok (.bipush 8, 2) := by decide +kernel
theorem dL_areRangesApart_148 : decode cL_areRangesApart 148 = .ok (.if_icmp .ne 56, 3) := by decide +kernel
theorem dL_areRangesApart_151 : decode cL_areRangesApart 151 = .ok (.aload_n 0, 1) := by decide +kernel
theorem dL_areRangesApart_152 : decode cL_areRangesApart 152 = .ok (.iload 7, 2) := by decide +kernel
theorem dL_areRangesApart_154 : decode cL_areRangesApart 154 = .ok (.iconst 1, 1) := by decide +kernel
theorem dL_areRangesApart_155 : decode cL_areRangesApart 155 = .ok (.isub, 1) := by decide +kernel
theorem dL_areRangesApart_156 : decode cL_areRangesApart 156 = .ok (.invokevirtual 30, 3) := by decide +kernel
theorem dL_areRangesApart_159 : decode cL_areRangesApart 159 = .ok (.bipush 8, 2) := by decide +kernel
theorem dL_areRangesApart_161 : decode cL_areRangesApart 161 = .ok (.if_icmp .eq 43, 3) := by decide +kernel
theorem dL_areRangesApart_164 : decode cL_areRangesApart 164 = .ok (.aload_n 0, 1) := by decide +kernel
theorem dL_areRangesApart_165 : decode cL_areRangesApart 165 = .ok (.iload 8, 2) := by decide +kernel
theorem dL_areRangesApart_167 : decode cL_areRangesApart 167 = .ok (.iconst 1, 1) := by decide +kernel
theorem dL_areRangesApart_168 : decode cL_areRangesApart 168 = .ok (.iadd, 1) := by decide +kernel
theorem dL_areRangesApart_169 : decode cL_areRangesApart 169 = .ok (.invokevirtual 30, 3) := by decide +kernel
theorem dL_areRangesApart_172 : decode cL_areRangesApart 172 = .ok (.bipush 8, 2) := by decide +kernel
theorem dL_areRangesApart_174 : decode cL_areRangesApart 174 = .ok (.if_icmp .eq 30, 3) := by decide +kernel
theorem dL_areRangesApart_177 : decode cL_areRangesApart 177 = .ok (.iload 6, 2) := by decide +kernel
theorem dL_areRangesApart_179 : decode cL_areRangesApart 179 = .ok (.iload_n 3, 1) := by decide +kernel
theorem dL_areRangesApart_180 : decode cL_areRangesApart 180 = .ok (.if_icmp .ge 13, 3) := by decide +kernel
theorem dL_areRangesApart_183 : decode cL_areRangesApart 183 = .ok (.iload 9, 2) := by decide +kernel
theorem dL_areRangesApart_185 : decode cL_areRangesApart 185 = .ok (.iload 4, 2) := by decide +kernel
theorem dL_areRangesApart_187 : decode cL_areRangesApart 187 = .ok (.if_icmp .ge 17, 3) := by decide +kernel
theorem dL_areRangesApart_190 : decode cL_areRangesApart 190 = .ok (.goto 10, 3) := by decide +kernel
theorem dL_areRangesApart_193 : decode cL_areRangesApart 193 = .ok (.iload 9, 2) := by decide +kernel
theorem dL_areRangesApart_195 : decode cL_areRangesApart 195 = .ok (.iload 4, 2) := by decide +kernel
theorem dL_areRangesApart_197 : decode cL_areRangesApart 197 = .ok (.if_icmp .gt 7, 3) := by decide +kernel
theorem dL_areRangesApart_200 : decode cL_areRangesApart 200 = .ok (.iconst 1, 1) := by decide +kernel
theorem dL_areRangesApart_201 : decode cL_areRangesApart 201 = .ok (.goto 4, 3) := by decide +kernel
theorem dL_areRangesApart_204 : decode cL_areRangesApart 204 = .ok (.iconst 0, 1) := by decide +kernel
theorem dL_areRangesApart_205 : decode cL_areRangesApart 205 = .ok (.istore 5, 2) := by decide +kernel
theorem dL_areRangesApart_207 : decode cL_areRangesApart 207 = .ok (.iload 8, 2) := by decide +kernel
theorem dL_areRangesApart_209 : decode cL_areRangesApart 209 = .ok (.istore_n 2, 1) := by decide +kernel
theorem dL_areRangesApart_210 : decode cL_areRangesApart 210 = .ok (.iload_n 1, 1) := by decide +kernel
theorem dL_areRangesApart_211 : decode cL_areRangesApart 211 = .ok (.iload 9, 2) := by decide +kernel
theorem dL_areRangesApart_213 : decode cL_areRangesApart 213 = .ok (.iadd, 1) := by decide +kernel
theorem dL_areRangesApart_214 : decode cL_areRangesApart 214 = .ok (.istore_n 1, 1) := by decide +kernel
theorem dL_areRangesApart_215 : decode cL_areRangesApart 215 = .ok (.iinc 6 1, 3) := by decide +kernel
theorem dL_areRangesApart_218 : decode cL_areRangesApart 218 = .ok (.goto (-152), 3) := by decide +kernel
theorem dL_areRangesApart_221 : decode cL_areRangesApart 221 = .ok (.iload 5, 2) := by decide +kernel
theorem dL_areRangesApart_223 : decode cL_areRangesApart 223 = .ok (.ifCond .eq 15, 3) := by decide +kernel
theorem dL_areRangesApart_226 : decode cL_areRangesApart 226 = .ok (.iload_n 1, 1) := by decide +kernel
theorem dL_areRangesApart_227 : decode cL_areRangesApart 227 = .ok (.aload_n 0, 1) := by decide +kernel
theorem dL_areRangesApart_228 : decode cL_areRangesApart 228 = .ok (.invokevirtual 33, 3) := by decide +kernel
theorem dL_areRangesApart_231 : decode cL_areRangesApart 231 = .ok (.if_icmp .ne 7, 3) := by decide +kernel
theorem dL_areRangesApart_234 : decode cL_areRangesApart 234 = .ok (.iconst 1, 1) := by decide +kernel
theorem dL_areRangesApart_235 : decode cL_areRangesApart 235 = .ok (.goto 4, 3) := by decide +kernel
theorem dL_areRangesApart_238 : decode cL_areRangesApart 238 = .ok (.iconst 0, 1) := by decide +kernel
theorem dL_areRangesApart_239 : decode cL_areRangesApart 239 = .ok (.ireturn, 1) := by decide +kernel
set_option maxRecDepth 20000 in
theorem ggL_isAllSomewhere_X1_lowestLeft : GoodIn wsL_isAllSomewhere wsX1_lowestLeft := goodIn_r _ [5, 6, 69, 70, 71, 72, 73, 74, 75] (by decide +kernel) (by decide +kernel)
set_option maxRecDepth 20000 in
theorem gL_isAllSomewhere_X1_lowestLeft : GoodIn wsL_isAllSomewhere (wsV RL 36 RX1 yX1_lowestLeft wsX1_lowestLeft) := goodIn_app (goodIn_of _ (by decide +kernel)) ggL_isAllSomewhere_X1_lowestLeft
set_option maxRecDepth 20000 in
theorem ggL_isAllSomewhere_X1_inJug : GoodIn wsL_isAllSomewhere wsX1_inJug := goodIn_r _ [10, 11, 12, 13, 4, 14, 15, 16, 17, 18, 6, 19, 20, 21, 22, 69, 70, 71, 72, 73, 74, 75] (by decide +kernel) (by decide +kernel)
set_option maxRecDepth 20000 in
theorem gL_isAllSomewhere_X1_inJug : GoodIn wsL_isAllSomewhere (wsV RL 33 RX1 yX1_inJug wsX1_inJug) := goodIn_app (goodIn_of _ (by decide +kernel)) ggL_isAllSomewhere_X1_inJug
set_option maxRecDepth 20000 in
theorem ggL_isAllSomewhere_L_inGoblets : GoodIn wsL_isAllSomewhere wsL_inGoblets := goodIn_ca (goodIn_r _ [26, 27, 28, 29, 4, 30, 31, 32, 33, 34, 35, 11, 12, 13, 14, 15, 16, 17, 18, 6, 19, 20, 21, 22, 69, 70, 71, 72, 73, 74, 75] (by decide +kernel) (by decide +kernel)) (goodIn_sub (fun _ h => List.mem_cons_of_mem _ (List.mem_append_right _ h)) (by decide +kernel))
set_option maxRecDepth 20000 in
theorem gL_isAllSomewhere_L_inGoblets : GoodIn wsL_isAllSomewhere (va_wsS RL 39 yL_inGoblets wsL_inGoblets) := goodIn_app (goodIn_of _ (by decide +kernel)) ggL_isAllSomewhere_L_inGoblets
set_option maxRecDepth 20000 in
theorem ggL_isAllSomewhere_X1_drunk : GoodIn wsL_isAllSomewhere wsX1_drunk := goodIn_r _ [39, 11, 12, 13, 4, 14, 15, 16, 17, 18, 6, 19, 20, 21, 22, 69, 70, 71, 72, 73, 74, 75] (by decide +kernel) (by decide +kernel)
set_option maxRecDepth 20000 in
theorem gL_isAllSomewhere_X1_drunk : GoodIn wsL_isAllSomewhere (wsV RL 45 RX1 yX1_drunk wsX1_drunk) := goodIn_app (goodIn_of _ (by decide +kernel)) ggL_isAllSomewhere_X1_drunk
set_option maxRecDepth 20000 in
theorem ggL_isAllSomewhere_X1_spilt : GoodIn wsL_isAllSomewhere wsX1_spilt := goodIn_r _ [43, 11, 12, 13, 4, 14, 15, 16, 17, 18, 6, 19, 20, 21, 22, 69, 70, 71, 72, 73, 74, 75] (by decide +kernel) (by decide +kernel)
set_option maxRecDepth 20000 in
theorem gL_isAllSomewhere_X1_spilt : GoodIn wsL_isAllSomewhere (wsV RL 48 RX1 yX1_spilt wsX1_spilt) := goodIn_app (goodIn_of _ (by decide +kernel)) ggL_isAllSomewhere_X1_spilt
set_option maxRecDepth 20000 in
theorem ggL_isAllSomewhere_X1_size : GoodIn wsL_isAllSomewhere wsX1_size := goodIn_r _ [47, 48, 69, 70, 71] (by decide +kernel) (by decide +kernel)
set_option maxRecDepth 20000 in
theorem gL_isAllSomewhere_X1_size : GoodIn wsL_isAllSomewhere (wsV RL 27 RX1 yX1_size wsX1_size) := goodIn_app (goodIn_of _ (by decide +kernel)) ggL_isAllSomewhere_X1_size
set_option maxRecDepth 20000 in
theorem ggL_isAllSomewhere_X1_placeOf : GoodIn wsL_isAllSomewhere wsX1_placeOf := goodIn_r _ [52, 6, 69, 70, 71, 72, 73, 74, 75] (by decide +kernel) (by decide +kernel)
set_option maxRecDepth 20000 in
theorem gL_isAllSomewhere_X1_placeOf : GoodIn wsL_isAllSomewhere (wsV RL 30 RX1 yX1_placeOf wsX1_placeOf) := goodIn_app (goodIn_of _ (by decide +kernel)) ggL_isAllSomewhere_X1_placeOf
set_option maxRecDepth 20000 in
theorem ggL_isAllSomewhere_X1_nextOf : GoodIn wsL_isAllSomewhere wsX1_nextOf := goodIn_ca (goodIn_r _ [56, 31, 32, 4, 33, 34, 35, 57, 58, 59, 60, 6, 69, 70, 71, 72, 73, 74, 75] (by decide +kernel) (by decide +kernel)) (goodIn_sub (fun _ h => List.mem_cons_of_mem _ (List.mem_append_right _ h)) (by decide +kernel))
set_option maxRecDepth 20000 in
theorem gL_isAllSomewhere_X1_nextOf : GoodIn wsL_isAllSomewhere (wsV RL 51 RX1 yX1_nextOf wsX1_nextOf) := goodIn_app (goodIn_of _ (by decide +kernel)) ggL_isAllSomewhere_X1_nextOf
set_option maxRecDepth 20000 in
theorem ggL_isAllSomewhere_X1_inGoblet : GoodIn wsL_isAllSomewhere wsX1_inGoblet := goodIn_ca (goodIn_r _ [30, 31, 32, 4, 33, 34, 35, 11, 12, 13, 14, 15, 16, 17, 18, 6, 19, 20, 21, 22, 69, 70, 71, 72, 73, 74, 75] (by decide +kernel) (by decide +kernel)) (goodIn_sub (fun _ h => List.mem_cons_of_mem _ (List.mem_append_right _ h)) (by decide +kernel))
set_option maxRecDepth 20000 in
theorem gL_isAllSomewhere_X1_inGoblet : GoodIn wsL_isAllSomewhere (wsV RL 8 RX1 yX1_inGoblet wsX1_inGoblet) := goodIn_app (goodIn_of _ (by decide +kernel)) ggL_isAllSomewhere_X1_inGoblet
set_option maxRecDepth 20000 in
theorem ggL_isAllSomewhere_X1_rangesOf : GoodIn wsL_isAllSomewhere wsX1_rangesOf := goodIn_ca (goodIn_r _ [64, 31, 32, 4, 33, 34, 35, 65, 66, 67, 68, 6, 69, 70, 71, 72, 73, 74, 75] (by decide +kernel) (by decide +kernel)) (goodIn_sub (fun _ h => List.mem_cons_of_mem _ (List.mem_append_right _ h)) (by decide +kernel))
set_option maxRecDepth 20000 in
theorem gL_isAllSomewhere_X1_rangesOf : GoodIn wsL_isAllSomewhere (wsV RL 54 RX1 yX1_rangesOf wsX1_rangesOf) := goodIn_app (goodIn_of _ (by decide +kernel)) ggL_isAllSomewhere_X1_rangesOf
theorem dL_isAllSomewhere_0 : decode cL_isAllSomewhere 0 = .ok (.aload_n 0, 1) := by decide +kernel
theorem dL_isAllSomewhere_1 : decode cL_isAllSomewhere 1 = .ok (.invokevirtual 36, 3) := by decide +kernel
theorem dL_isAllSomewhere_4 : decode cL_isAllSomewhere 4 = .ok (.istore_n 1, 1) := by decide +kernel
theorem dL_isAllSomewhere_5 : decode cL_isAllSomewhere 5 = .ok (.aload_n 0, 1) := by decide +kernel
theorem dL_isAllSomewhere_6 : decode cL_isAllSomewhere 6 = .ok (.invokevirtual 33, 3) := by decide +kernel
theorem dL_isAllSomewhere_9 : decode cL_isAllSomewhere 9 = .ok (.aload_n 0, 1) := by decide +kernel
theorem dL_isAllSomewhere_10 : decode cL_isAllSomewhere 10 = .ok (.invokestatic 39, 3) := by decide +kernel
theorem dL_isAllSomewhere_13 : decode cL_isAllSomewhere 13 = .ok (.iadd, 1) := by decide +kernel
theorem dL_isAllSomewhere_14 : decode cL_isAllSomewhere 14 = .ok (.aload_n 0, 1) := by decide +kernel
theorem dL_isAllSomewhere_15 : decode cL_isAllSomewhere 15 = .ok (.invokevirtual 45, 3) := by decide +kernel
theorem dL_isAllSomewhere_18 : decode cL_isAllSomewhere 18 = .ok (.iadd, 1) := by decide +kernel
theorem dL_isAllSomewhere_19 : decode cL_isAllSomewhere 19 = .ok (.aload_n 0, 1) := by decide +kernel
theorem dL_isAllSomewhere_20 : decode cL_isAllSomewhere 20 = .ok (.invokevirtual 48, 3) := by decide +kernel
theorem dL_isAllSomewhere_23 : decode cL_isAllSomewhere 23 = .ok (.iadd, 1) := by decide +kernel
theorem dL_isAllSomewhere_24 : decode cL_isAllSomewhere 24 = .ok (.aload_n 0, 1) := by decide +kernel
theorem dL_isAllSomewhere_25 : decode cL_isAllSomewhere 25 = .ok (.invokevirtual 27, 3) := by decide +kernel
theorem dL_isAllSomewhere_28 : decode cL_isAllSomewhere 28 = .ok (.if_icmp .ne 58, 3) := by decide +kernel
theorem dL_isAllSomewhere_31 : decode cL_isAllSomewhere 31 = .ok (.iload_n 1, 1) := by decide +kernel
theorem dL_isAllSomewhere_32 : decode cL_isAllSomewhere 32 = .ok (.ifCond .ne 7, 3) := by decide +kernel
theorem dL_isAllSomewhere_35 : decode cL_isAllSomewhere 35 = .ok (.iconst 1, 1) := by decide +kernel
theorem dL_isAllSomewhere_36 : decode cL_isAllSomewhere 36 = .ok (.goto 4, 3) := by decide +kernel
theorem dL_isAllSomewhere_39 : decode cL_isAllSomewhere 39 = .ok (.iconst 0, 1) := by decide +kernel
theorem dL_isAllSomewhere_40 : decode cL_isAllSomewhere 40 = .ok (.aload_n 0, 1) := by decide +kernel
theorem dL_isAllSomewhere_41 : decode cL_isAllSomewhere 41 = .ok (.invokevirtual 45, 3) := by decide +kernel
theorem dL_isAllSomewhere_44 : decode cL_isAllSomewhere 44 = .ok (.aload_n 0, 1) := by decide +kernel
theorem dL_isAllSomewhere_45 : decode cL_isAllSomewhere 45 = .ok (.invokevirtual 27, 3) := by decide +kernel
theorem dL_isAllSomewhere_48 : decode cL_isAllSomewhere 48 = .ok (.if_icmp .ne 7, 3) := by decide +kernel
theorem dL_isAllSomewhere_51 : decode cL_isAllSomewhere 51 = .ok (.iconst 1, 1) := by decide +kernel
theorem dL_isAllSomewhere_52 : decode cL_isAllSomewhere 52 = .ok (.goto 4, 3) := by decide +kernel
theorem dL_isAllSomewhere_55 : decode cL_isAllSomewhere 55 = .ok (.iconst 0, 1) := by decide +kernel
theorem dL_isAllSomewhere_56 : decode cL_isAllSomewhere 56 = .ok (.if_icmp .ne 30, 3) := by decide +kernel
theorem dL_isAllSomewhere_59 : decode cL_isAllSomewhere 59 = .ok (.iload_n 1, 1) := by decide +kernel
theorem dL_isAllSomewhere_60 : decode cL_isAllSomewhere 60 = .ok (.ifCond .eq 13, 3) := by decide +kernel
theorem dL_isAllSomewhere_63 : decode cL_isAllSomewhere 63 = .ok (.aload_n 0, 1) := by decide +kernel
theorem dL_isAllSomewhere_64 : decode cL_isAllSomewhere 64 = .ok (.iload_n 1, 1) := by decide +kernel
theorem dL_isAllSomewhere_65 : decode cL_isAllSomewhere 65 = .ok (.invokevirtual 30, 3) := by decide +kernel
theorem dL_isAllSomewhere_68 : decode cL_isAllSomewhere 68 = .ok (.bipush 9, 2) := by decide +kernel
theorem dL_isAllSomewhere_70 : decode cL_isAllSomewhere 70 = .ok (.if_icmp .eq 16, 3) := by decide +kernel
theorem dL_isAllSomewhere_73 : decode cL_isAllSomewhere 73 = .ok (.aload_n 0, 1) := by decide +kernel
theorem dL_isAllSomewhere_74 : decode cL_isAllSomewhere 74 = .ok (.iconst 1, 1) := by decide +kernel
theorem dL_isAllSomewhere_75 : decode cL_isAllSomewhere 75 = .ok (.invokevirtual 30, 3) := by decide +kernel
theorem dL_isAllSomewhere_78 : decode cL_isAllSomewhere 78 = .ok (.iconst (-1), 1) := by decide +kernel
theorem dL_isAllSomewhere_79 : decode cL_isAllSomewhere 79 = .ok (.if_icmp .eq 7, 3) := by decide +kernel
theorem dL_isAllSomewhere_82 : decode cL_isAllSomewhere 82 = .ok (.iconst 1, 1) := by decide +kernel
theorem dL_isAllSomewhere_83 : decode cL_isAllSomewhere 83 = .ok (.goto 4, 3) := by decide +kernel
theorem dL_isAllSomewhere_86 : decode cL_isAllSomewhere 86 = .ok (.iconst 0, 1) := by decide +kernel
theorem dL_isAllSomewhere_87 : decode cL_isAllSomewhere 87 = .ok (.istore_n 2, 1) := by decide +kernel
theorem dL_isAllSomewhere_88 : decode cL_isAllSomewhere 88 = .ok (.iconst 0, 1) := by decide +kernel
theorem dL_isAllSomewhere_89 : decode cL_isAllSomewhere 89 = .ok (.istore_n 3, 1) := by decide +kernel
theorem dL_isAllSomewhere_90 : decode cL_isAllSomewhere 90 = .ok (.iload_n 3, 1) := by decide +kernel
theorem dL_isAllSomewhere_91 : decode cL_isAllSomewhere 91 = .ok (.bipush 8, 2) := by decide +kernel
theorem dL_isAllSomewhere_93 : decode cL_isAllSomewhere 93 = .ok (.if_icmp .ge 114, 3) := by decide +kernel
theorem dL_isAllSomewhere_96 : decode cL_isAllSomewhere 96 = .ok (.aload_n 0, 1) := by decide +kernel
theorem dL_isAllSomewhere_97 : decode cL_isAllSomewhere 97 = .ok (.iload_n 3, 1) := by decide +kernel
theorem dL_isAllSomewhere_98 : decode cL_isAllSomewhere 98 = .ok (.invokevirtual 51, 3) := by decide +kernel
theorem dL_isAllSomewhere_101 : decode cL_isAllSomewhere 101 = .ok (.istore 4, 2) := by decide +kernel
theorem dL_isAllSomewhere_103 : decode cL_isAllSomewhere 103 = .ok (.iload_n 2, 1) := by decide +kernel
theorem dL_isAllSomewhere_104 : decode cL_isAllSomewhere 104 = .ok (.ifCond .eq 95, 3) := by decide +kernel
theorem dL_isAllSomewhere_107 : decode cL_isAllSomewhere 107 = .ok (.aload_n 0, 1) := by decide +kernel
theorem dL_isAllSomewhere_108 : decode cL_isAllSomewhere 108 = .ok (.iload_n 3, 1) := by decide +kernel
theorem dL_isAllSomewhere_109 : decode cL_isAllSomewhere 109 = .ok (.invokevirtual 8, 3) := by decide +kernel
theorem dL_isAllSomewhere_112 : decode cL_isAllSomewhere 112 = .ok (.ifCond .ne 7, 3) := by decide +kernel
theorem dL_isAllSomewhere_115 : decode cL_isAllSomewhere 115 = .ok (.iconst 1, 1) := by decide +kernel
theorem dL_isAllSomewhere_116 : decode cL_isAllSomewhere 116 = .ok (.goto 4, 3) := by decide +kernel
theorem dL_isAllSomewhere_119 : decode cL_isAllSomewhere 119 = .ok (.iconst 0, 1) := by decide +kernel
theorem dL_isAllSomewhere_120 : decode cL_isAllSomewhere 120 = .ok (.aload_n 0, 1) := by decide +kernel
theorem dL_isAllSomewhere_121 : decode cL_isAllSomewhere 121 = .ok (.iload_n 3, 1) := by decide +kernel
theorem dL_isAllSomewhere_122 : decode cL_isAllSomewhere 122 = .ok (.invokevirtual 54, 3) := by decide +kernel
theorem dL_isAllSomewhere_125 : decode cL_isAllSomewhere 125 = .ok (.ifCond .ne 7, 3) := by decide +kernel
theorem dL_isAllSomewhere_128 : decode cL_isAllSomewhere 128 = .ok (.iconst 1, 1) := by decide +kernel
theorem dL_isAllSomewhere_129 : decode cL_isAllSomewhere 129 = .ok (.goto 4, 3) := by decide +kernel
theorem dL_isAllSomewhere_132 : decode cL_isAllSomewhere 132 = .ok (.iconst 0, 1) := by decide +kernel
theorem dL_isAllSomewhere_133 : decode cL_isAllSomewhere 133 = .ok (.if_icmp .ne 66, 3) := by decide +kernel
theorem dL_isAllSomewhere_136 : decode cL_isAllSomewhere 136 = .ok (.aload_n 0, 1) := by decide +kernel
theorem dL_isAllSomewhere_137 : decode cL_isAllSomewhere 137 = .ok (.iload_n 3, 1) := by decide +kernel
theorem dL_isAllSomewhere_138 : decode cL_isAllSomewhere 138 = .ok (.invokevirtual 54, 3) := by decide +kernel
theorem dL_isAllSomewhere_141 : decode cL_isAllSomewhere 141 = .ok (.aload_n 0, 1) := by decide +kernel
theorem dL_isAllSomewhere_142 : decode cL_isAllSomewhere 142 = .ok (.iload_n 3, 1) := by decide +kernel
theorem dL_isAllSomewhere_143 : decode cL_isAllSomewhere 143 = .ok (.invokevirtual 8, 3) := by decide +kernel
theorem dL_isAllSomewhere_146 : decode cL_isAllSomewhere 146 = .ok (.if_icmp .gt 53, 3) := by decide +kernel
theorem dL_isAllSomewhere_149 : decode cL_isAllSomewhere 149 = .ok (.iload 4, 2) := by decide +kernel
theorem dL_isAllSomewhere_151 : decode cL_isAllSomewhere 151 = .ok (.ifCond .ne 21, 3) := by decide +kernel
theorem dL_isAllSomewhere_154 : decode cL_isAllSomewhere 154 = .ok (.aload_n 0, 1) := by decide +kernel
theorem dL_isAllSomewhere_155 : decode cL_isAllSomewhere 155 = .ok (.invokevirtual 33, 3) := by decide +kernel
theorem dL_isAllSomewhere_158 : decode cL_isAllSomewhere 158 = .ok (.ifCond .ne 41, 3) := by decide +kernel
theorem dL_isAllSomewhere_161 : decode cL_isAllSomewhere 161 = .ok (.aload_n 0, 1) := by decide +kernel
theorem dL_isAllSomewhere_162 : decode cL_isAllSomewhere 162 = .ok (.iload_n 3, 1) := by decide +kernel
theorem dL_isAllSomewhere_163 : decode cL_isAllSomewhere 163 = .ok (.invokevirtual 8, 3) := by decide +kernel
theorem dL_isAllSomewhere_166 : decode cL_isAllSomewhere 166 = .ok (.ifCond .ne 33, 3) := by decide +kernel
theorem dL_isAllSomewhere_169 : decode cL_isAllSomewhere 169 = .ok (.goto 26, 3) := by decide +kernel
theorem dL_isAllSomewhere_172 : decode cL_isAllSomewhere 172 = .ok (.aload_n 0, 1) := by decide +kernel
theorem dL_isAllSomewhere_173 : decode cL_isAllSomewhere 173 = .ok (.iload 4, 2) := by decide +kernel
theorem dL_isAllSomewhere_175 : decode cL_isAllSomewhere 175 = .ok (.invokevirtual 30, 3) := by decide +kernel
theorem dL_isAllSomewhere_178 : decode cL_isAllSomewhere 178 = .ok (.aload_n 0, 1) := by decide +kernel
theorem dL_isAllSomewhere_179 : decode cL_isAllSomewhere 179 = .ok (.iload_n 3, 1) := by decide +kernel
theorem dL_isAllSomewhere_180 : decode cL_isAllSomewhere 180 = .ok (.invokevirtual 8, 3) := by decide +kernel
theorem dL_isAllSomewhere_183 : decode cL_isAllSomewhere 183 = .ok (.ifCond .ne 8, 3) := by decide +kernel
theorem dL_isAllSomewhere_186 : decode cL_isAllSomewhere 186 = .ok (.bipush 8, 2) := by decide +kernel
theorem dL_isAllSomewhere_188 : decode cL_isAllSomewhere 188 = .ok (.goto 4, 3) := by decide +kernel
theorem dL_isAllSomewhere_191 : decode cL_isAllSomewhere 191 = .ok (.iload_n 3, 1) := by decide +kernel
theorem dL_isAllSomewhere_192 : decode cL_isAllSomewhere 192 = .ok (.if_icmp .ne 7, 3) := by decide +kernel
theorem dL_isAllSomewhere_195 : decode cL_isAllSomewhere 195 = .ok (.iconst 1, 1) := by decide +kernel
theorem dL_isAllSomewhere_196 : decode cL_isAllSomewhere 196 = .ok (.goto 4, 3) := by decide +kernel
theorem dL_isAllSomewhere_199 : decode cL_isAllSomewhere 199 = .ok (.iconst 0, 1) := by decide +kernel
theorem dL_isAllSomewhere_200 : decode cL_isAllSomewhere 200 = .ok (.istore_n 2, 1) := by decide +kernel
theorem dL_isAllSomewhere_201 : decode cL_isAllSomewhere 201 = .ok (.iinc 3 1, 3) := by decide +kernel
theorem dL_isAllSomewhere_204 : decode cL_isAllSomewhere 204 = .ok (.goto (-114), 3) := by decide +kernel
theorem dL_isAllSomewhere_207 : decode cL_isAllSomewhere 207 = .ok (.iload_n 2, 1) := by decide +kernel
theorem dL_isAllSomewhere_208 : decode cL_isAllSomewhere 208 = .ok (.ireturn, 1) := by decide +kernel
set_option maxRecDepth 20000 in
theorem ggL_isThereAndBack_X1_inGoblet : GoodIn wsL_isThereAndBack wsX1_inGoblet := goodIn_ca (goodIn_r _ [5, 6, 7, 4, 8, 9, 10, 11, 12, 13, 14, 15, 16, 17, 18, 19, 20, 21, 22, 23, 110, 111, 112, 113, 114, 115, 116] (by decide +kernel) (by decide +kernel)) (goodIn_sub (fun _ h => List.mem_cons_of_mem _ (List.mem_append_left _ (List.mem_append_left _ (List.mem_append_right _ h)))) (by decide +kernel))
set_option maxRecDepth 20000 in
theorem gL_isThereAndBack_X1_inGoblet : GoodIn wsL_isThereAndBack (wsV RL 8 RX1 yX1_inGoblet wsX1_inGoblet) := goodIn_app (goodIn_of _ (by decide +kernel)) ggL_isThereAndBack_X1_inGoblet
set_option maxRecDepth 20000 in
theorem ggL_isThereAndBack_X1_inJug : GoodIn wsL_isThereAndBack wsX1_inJug := goodIn_r _ [27, 11, 12, 13, 4, 14, 15, 16, 17, 18, 19, 20, 21, 22, 23, 110, 111, 112, 113, 114, 115, 116] (by decide +kernel) (by decide +kernel)
set_option maxRecDepth 20000 in
theorem gL_isThereAndBack_X1_inJug : GoodIn wsL_isThereAndBack (wsV RL 33 RX1 yX1_inJug wsX1_inJug) := goodIn_app (goodIn_of _ (by decide +kernel)) ggL_isThereAndBack_X1_inJug
set_option maxRecDepth 20000 in
theorem ggL_isThereAndBack_X1_ranges : GoodIn wsL_isThereAndBack wsX1_ranges := goodIn_r _ [31, 32, 33, 34, 4, 35, 19, 110, 111, 112, 113, 114, 115, 116] (by decide +kernel) (by decide +kernel)
set_option maxRecDepth 20000 in
theorem gL_isThereAndBack_X1_ranges : GoodIn wsL_isThereAndBack (wsV RL 24 RX1 yX1_ranges wsX1_ranges) := goodIn_app (goodIn_of _ (by decide +kernel)) ggL_isThereAndBack_X1_ranges
set_option maxRecDepth 20000 in
theorem ggL_isThereAndBack_X1_rangeFrom : GoodIn wsL_isThereAndBack wsX1_rangeFrom := goodIn_ca (goodIn_r _ [39, 9, 10, 40, 41, 42, 4, 43, 19, 113, 114, 115, 116, 110, 111, 112] (by decide +kernel) (by decide +kernel)) (goodIn_sub (fun _ h => List.mem_cons_of_mem _ (List.mem_append_left _ (List.mem_append_left _ (List.mem_append_right _ h)))) (by decide +kernel))
set_option maxRecDepth 20000 in
theorem gL_isThereAndBack_X1_rangeFrom : GoodIn wsL_isThereAndBack (wsV RL 21 RX1 yX1_rangeFrom wsX1_rangeFrom) := goodIn_app (goodIn_of _ (by decide +kernel)) ggL_isThereAndBack_X1_rangeFrom
set_option maxRecDepth 20000 in
theorem ggL_isThereAndBack_X1_longestRange : GoodIn wsL_isThereAndBack wsX1_longestRange := goodIn_r _ [47, 19, 48, 49, 50, 51, 52, 53, 110, 111, 112, 113, 114, 115, 116] (by decide +kernel) (by decide +kernel)
set_option maxRecDepth 20000 in
theorem gL_isThereAndBack_X1_longestRange : GoodIn wsL_isThereAndBack (wsV RL 14 RX1 yX1_longestRange wsX1_longestRange) := goodIn_app (goodIn_of _ (by decide +kernel)) ggL_isThereAndBack_X1_longestRange
set_option maxRecDepth 20000 in
theorem ggL_isThereAndBack_X1_pour : GoodIn wsL_isThereAndBack wsX1_pour := goodIn_ca (goodIn_ca (goodIn_ca (goodIn_r _ [57, 58, 59, 6, 7, 4, 8, 9, 10, 60, 61, 62, 63, 64, 65, 66, 67, 68, 19, 69, 70, 71, 72, 73, 49, 74, 75, 53, 76, 77, 52, 78, 79, 80, 48, 50, 51, 81, 82, 83, 84, 85, 86, 87, 88, 89, 90, 91, 92, 93, 110, 111, 112, 113, 114, 115, 116] (by decide +kernel) (by decide +kernel)) (goodIn_sub (fun _ h => List.mem_cons_of_mem _ (List.mem_append_left _ (List.mem_append_right _ h))) (by decide +kernel))) (goodIn_sub (fun _ h => List.mem_cons_of_mem _ (List.mem_append_left _ (List.mem_append_left _ (List.mem_append_right _ h)))) (by decide +kernel))) (goodIn_sub (fun _ h => List.mem_cons_of_mem _ (List.mem_append_right _ h)) (by decide +kernel))
set_option maxRecDepth 20000 in
theorem gL_isThereAndBack_X1_pour : GoodIn wsL_isThereAndBack (wsV RL 57 RX1 yX1_pour wsX1_pour) := goodIn_app (goodIn_of _ (by decide +kernel)) ggL_isThereAndBack_X1_pour
set_option maxRecDepth 20000 in
theorem ggL_isThereAndBack_X1_nextOf : GoodIn wsL_isThereAndBack wsX1_nextOf := goodIn_ca (goodIn_r _ [97, 6, 7, 4, 8, 9, 10, 65, 66, 67, 68, 19, 110, 111, 112, 113, 114, 115, 116] (by decide +kernel) (by decide +kernel)) (goodIn_sub (fun _ h => List.mem_cons_of_mem _ (List.mem_append_left _ (List.mem_append_left _ (List.mem_append_right _ h)))) (by decide +kernel))
set_option maxRecDepth 20000 in
theorem gL_isThereAndBack_X1_nextOf : GoodIn wsL_isThereAndBack (wsV RL 51 RX1 yX1_nextOf wsX1_nextOf) := goodIn_app (goodIn_of _ (by decide +kernel)) ggL_isThereAndBack_X1_nextOf
set_option maxRecDepth 20000 in
theorem ggL_isThereAndBack_X1_rangesOf : GoodIn wsL_isThereAndBack wsX1_rangesOf := goodIn_ca (goodIn_r _ [101, 6, 7, 4, 8, 9, 10, 32, 33, 34, 35, 19, 110, 111, 112, 113, 114, 115, 116] (by decide +kernel) (by decide +kernel)) (goodIn_sub (fun _ h => List.mem_cons_of_mem _ (List.mem_append_left _ (List.mem_append_left _ (List.mem_append_right _ h)))) (by decide +kernel))
set_option maxRecDepth 20000 in
theorem gL_isThereAndBack_X1_rangesOf : GoodIn wsL_isThereAndBack (wsV RL 54 RX1 yX1_rangesOf wsX1_rangesOf) := goodIn_app (goodIn_of _ (by decide +kernel)) ggL_isThereAndBack_X1_rangesOf
set_option maxRecDepth 20000 in
theorem ggL_isThereAndBack_X1_pourBack : GoodIn wsL_isThereAndBack wsX1_pourBack := goodIn_ca (goodIn_r _ [105, 6, 7, 4, 8, 9, 10, 106, 107, 108, 109, 69, 70, 71, 72, 19, 73, 49, 74, 75, 53, 76, 77, 52, 78, 79, 80, 48, 50, 51, 81, 82, 83, 84, 85, 86, 87, 88, 89, 90, 91, 92, 93, 110, 111, 112, 113, 114, 115, 116] (by decide +kernel) (by decide +kernel)) (goodIn_sub (fun _ h => List.mem_cons_of_mem _ (List.mem_append_left _ (List.mem_append_left _ (List.mem_append_right _ h)))) (by decide +kernel))
set_option maxRecDepth 20000 in
theorem gL_isThereAndBack_X1_pourBack : GoodIn wsL_isThereAndBack (wsV RL 61 RX1 yX1_pourBack wsX1_pourBack) := goodIn_app (goodIn_of _ (by decide +kernel)) ggL_isThereAndBack_X1_pourBack
theorem dL_isThereAndBack_0 : decode cL_isThereAndBack 0 = .ok (.aload_n 0, 1) := by decide +kernel
theorem dL_isThereAndBack_1 : decode cL_isThereAndBack 1 = .ok (.iload_n 1, 1) := by decide +kernel
theorem dL_isThereAndBack_2 : decode cL_isThereAndBack 2 = .ok (.invokevirtual 8, 3) := by decide +kernel
theorem dL_isThereAndBack_5 : decode cL_isThereAndBack 5 = .ok (.ifCond .gt 10, 3) := by decide +kernel
theorem dL_isThereAndBack_8 : decode cL_isThereAndBack 8 = .ok (.aload_n 0, 1) := by decide +kernel
theorem dL_isThereAndBack_9 : decode cL_isThereAndBack 9 = .ok (.invokevirtual 33, 3) := by decide +kernel
theorem dL_isThereAndBack_12 : decode cL_isThereAndBack 12 = .ok (.ifCond .ne 5, 3) := by decide +kernel
theorem dL_isThereAndBack_15 : decode cL_isThereAndBack 15 = .ok (.iconst 1, 1) := by decide +kernel
theorem dL_isThereAndBack_16 : decode cL_isThereAndBack 16 = .ok (.ireturn, 1) := by decide +kernel
theorem dL_isThereAndBack_17 : decode cL_isThereAndBack 17 = .ok (.aload_n 0, 1) := by decide +kernel
theorem dL_isThereAndBack_18 : decode cL_isThereAndBack 18 = .ok (.invokevirtual 33, 3) := by decide +kernel
theorem dL_isThereAndBack_21 : decode cL_isThereAndBack 21 = .ok (.istore_n 3, 1) := by decide +kernel
theorem dL_isThereAndBack_22 : decode cL_isThereAndBack 22 = .ok (.aload_n 0, 1) := by decide +kernel
theorem dL_isThereAndBack_23 : decode cL_isThereAndBack 23 = .ok (.invokevirtual 24, 3) := by decide +kernel
theorem dL_isThereAndBack_26 : decode cL_isThereAndBack 26 = .ok (.istore 4, 2) := by decide +kernel
theorem dL_isThereAndBack_28 : decode cL_isThereAndBack 28 = .ok (.aload_n 0, 1) := by decide +kernel
theorem dL_isThereAndBack_29 : decode cL_isThereAndBack 29 = .ok (.iconst 0, 1) := by decide +kernel
theorem dL_isThereAndBack_30 : decode cL_isThereAndBack 30 = .ok (.invokevirtual 21, 3) := by decide +kernel
theorem dL_isThereAndBack_33 : decode cL_isThereAndBack 33 = .ok (.istore 5, 2) := by decide +kernel
theorem dL_isThereAndBack_35 : decode cL_isThereAndBack 35 = .ok (.aload_n 0, 1) := by decide +kernel
theorem dL_isThereAndBack_36 : decode cL_isThereAndBack 36 = .ok (.invokevirtual 14, 3) := by decide +kernel
theorem dL_isThereAndBack_39 : decode cL_isThereAndBack 39 = .ok (.istore 6, 2) := by decide +kernel
theorem dL_isThereAndBack_41 : decode cL_isThereAndBack 41 = .ok (.aload_n 0, 1) := by decide +kernel
theorem dL_isThereAndBack_42 : decode cL_isThereAndBack 42 = .ok (.iload_n 1, 1) := by decide +kernel
theorem dL_isThereAndBack_43 : decode cL_isThereAndBack 43 = .ok (.iload_n 2, 1) := by decide +kernel
theorem dL_isThereAndBack_44 : decode cL_isThereAndBack 44 = .ok (.invokevirtual 57, 3) := by decide +kernel
theorem dL_isThereAndBack_47 : decode cL_isThereAndBack 47 = .ok (.istore 7, 2) := by decide +kernel
theorem dL_isThereAndBack_49 : decode cL_isThereAndBack 49 = .ok (.iload 7, 2) := by decide +kernel
theorem dL_isThereAndBack_51 : decode cL_isThereAndBack 51 = .ok (.iload_n 2, 1) := by decide +kernel
theorem dL_isThereAndBack_52 : decode cL_isThereAndBack 52 = .ok (.iload_n 3, 1) := by decide +kernel
theorem dL_isThereAndBack_53 : decode cL_isThereAndBack 53 = .ok (.if_icmp .ge 7, 3) := by decide +kernel
theorem dL_isThereAndBack_56 : decode cL_isThereAndBack 56 = .ok (.iload_n 2, 1) := by decide +kernel
theorem dL_isThereAndBack_57 : decode cL_isThereAndBack 57 = .ok (.goto 4, 3) := by decide +kernel
theorem dL_isThereAndBack_60 : decode cL_isThereAndBack 60 = .ok (.iload_n 3, 1) := by decide +kernel
theorem dL_isThereAndBack_61 : decode cL_isThereAndBack 61 = .ok (.if_icmp .ne 60, 3) := by decide +kernel
theorem dL_isThereAndBack_64 : decode cL_isThereAndBack 64 = .ok (.aload_n 0, 1) := by decide +kernel
theorem dL_isThereAndBack_65 : decode cL_isThereAndBack 65 = .ok (.iload_n 1, 1) := by decide +kernel
theorem dL_isThereAndBack_66 : decode cL_isThereAndBack 66 = .ok (.invokevirtual 51, 3) := by decide +kernel
theorem dL_isThereAndBack_69 : decode cL_isThereAndBack 69 = .ok (.iload 5, 2) := by decide +kernel
theorem dL_isThereAndBack_71 : decode cL_isThereAndBack 71 = .ok (.if_icmp .ne 50, 3) := by decide +kernel
theorem dL_isThereAndBack_74 : decode cL_isThereAndBack 74 = .ok (.aload_n 0, 1) := by decide +kernel
theorem dL_isThereAndBack_75 : decode cL_isThereAndBack 75 = .ok (.invokevirtual 33, 3) := by decide +kernel
theorem dL_isThereAndBack_78 : decode cL_isThereAndBack 78 = .ok (.iload_n 3, 1) := by decide +kernel
theorem dL_isThereAndBack_79 : decode cL_isThereAndBack 79 = .ok (.iload 7, 2) := by decide +kernel
theorem dL_isThereAndBack_81 : decode cL_isThereAndBack 81 = .ok (.isub, 1) := by decide +kernel
theorem dL_isThereAndBack_82 : decode cL_isThereAndBack 82 = .ok (.if_icmp .ne 39, 3) := by decide +kernel
theorem dL_isThereAndBack_85 : decode cL_isThereAndBack 85 = .ok (.aload_n 0, 1) := by decide +kernel
theorem dL_isThereAndBack_86 : decode cL_isThereAndBack 86 = .ok (.iload_n 1, 1) := by decide +kernel
theorem dL_isThereAndBack_87 : decode cL_isThereAndBack 87 = .ok (.invokevirtual 54, 3) := by decide +kernel
theorem dL_isThereAndBack_90 : decode cL_isThereAndBack 90 = .ok (.aload_n 0, 1) := by decide +kernel
theorem dL_isThereAndBack_91 : decode cL_isThereAndBack 91 = .ok (.invokevirtual 24, 3) := by decide +kernel
theorem dL_isThereAndBack_94 : decode cL_isThereAndBack 94 = .ok (.iadd, 1) := by decide +kernel
theorem dL_isThereAndBack_95 : decode cL_isThereAndBack 95 = .ok (.iload 4, 2) := by decide +kernel
theorem dL_isThereAndBack_97 : decode cL_isThereAndBack 97 = .ok (.if_icmp .lt 24, 3) := by decide +kernel
theorem dL_isThereAndBack_100 : decode cL_isThereAndBack 100 = .ok (.aload_n 0, 1) := by decide +kernel
theorem dL_isThereAndBack_101 : decode cL_isThereAndBack 101 = .ok (.iload_n 1, 1) := by decide +kernel
theorem dL_isThereAndBack_102 : decode cL_isThereAndBack 102 = .ok (.invokevirtual 54, 3) := by decide +kernel
theorem dL_isThereAndBack_105 : decode cL_isThereAndBack 105 = .ok (.aload_n 0, 1) := by decide +kernel
theorem dL_isThereAndBack_106 : decode cL_isThereAndBack 106 = .ok (.invokevirtual 24, 3) := by decide +kernel
theorem dL_isThereAndBack_109 : decode cL_isThereAndBack 109 = .ok (.iadd, 1) := by decide +kernel
theorem dL_isThereAndBack_110 : decode cL_isThereAndBack 110 = .ok (.iload 4, 2) := by decide +kernel
theorem dL_isThereAndBack_112 : decode cL_isThereAndBack 112 = .ok (.iconst 1, 1) := by decide +kernel
theorem dL_isThereAndBack_113 : decode cL_isThereAndBack 113 = .ok (.iadd, 1) := by decide +kernel
theorem dL_isThereAndBack_114 : decode cL_isThereAndBack 114 = .ok (.if_icmp .gt 7, 3) := by decide +kernel
theorem dL_isThereAndBack_117 : decode cL_isThereAndBack 117 = .ok (.iconst 1, 1) := by decide +kernel
theorem dL_isThereAndBack_118 : decode cL_isThereAndBack 118 = .ok (.goto 4, 3) := by decide +kernel
theorem dL_isThereAndBack_121 : decode cL_isThereAndBack 121 = .ok (.iconst 0, 1) := by decide +kernel
theorem dL_isThereAndBack_122 : decode cL_isThereAndBack 122 = .ok (.istore 8, 2) := by decide +kernel
theorem dL_isThereAndBack_124 : decode cL_isThereAndBack 124 = .ok (.iload 8, 2) := by decide +kernel
theorem dL_isThereAndBack_126 : decode cL_isThereAndBack 126 = .ok (.ifCond .eq 53, 3) := by decide +kernel
theorem dL_isThereAndBack_129 : decode cL_isThereAndBack 129 = .ok (.aload_n 0, 1) := by decide +kernel
theorem dL_isThereAndBack_130 : decode cL_isThereAndBack 130 = .ok (.iload_n 1, 1) := by decide +kernel
theorem dL_isThereAndBack_131 : decode cL_isThereAndBack 131 = .ok (.invokevirtual 61, 3) := by decide +kernel
theorem dL_isThereAndBack_134 : decode cL_isThereAndBack 134 = .ok (.iload 7, 2) := by decide +kernel
theorem dL_isThereAndBack_136 : decode cL_isThereAndBack 136 = .ok (.if_icmp .ne 43, 3) := by decide +kernel
theorem dL_isThereAndBack_139 : decode cL_isThereAndBack 139 = .ok (.aload_n 0, 1) := by decide +kernel
theorem dL_isThereAndBack_140 : decode cL_isThereAndBack 140 = .ok (.invokevirtual 33, 3) := by decide +kernel
theorem dL_isThereAndBack_143 : decode cL_isThereAndBack 143 = .ok (.iload_n 3, 1) := by decide +kernel
theorem dL_isThereAndBack_144 : decode cL_isThereAndBack 144 = .ok (.if_icmp .ne 35, 3) := by decide +kernel
theorem dL_isThereAndBack_147 : decode cL_isThereAndBack 147 = .ok (.aload_n 0, 1) := by decide +kernel
theorem dL_isThereAndBack_148 : decode cL_isThereAndBack 148 = .ok (.invokevirtual 24, 3) := by decide +kernel
theorem dL_isThereAndBack_151 : decode cL_isThereAndBack 151 = .ok (.iload 4, 2) := by decide +kernel
theorem dL_isThereAndBack_153 : decode cL_isThereAndBack 153 = .ok (.if_icmp .ne 26, 3) := by decide +kernel
theorem dL_isThereAndBack_156 : decode cL_isThereAndBack 156 = .ok (.aload_n 0, 1) := by decide +kernel
theorem dL_isThereAndBack_157 : decode cL_isThereAndBack 157 = .ok (.iconst 0, 1) := by decide +kernel
theorem dL_isThereAndBack_158 : decode cL_isThereAndBack 158 = .ok (.invokevirtual 21, 3) := by decide +kernel
theorem dL_isThereAndBack_161 : decode cL_isThereAndBack 161 = .ok (.iload 5, 2) := by decide +kernel
theorem dL_isThereAndBack_163 : decode cL_isThereAndBack 163 = .ok (.if_icmp .ne 16, 3) := by decide +kernel
theorem dL_isThereAndBack_166 : decode cL_isThereAndBack 166 = .ok (.aload_n 0, 1) := by decide +kernel
theorem dL_isThereAndBack_167 : decode cL_isThereAndBack 167 = .ok (.invokevirtual 14, 3) := by decide +kernel
theorem dL_isThereAndBack_170 : decode cL_isThereAndBack 170 = .ok (.iload 6, 2) := by decide +kernel
theorem dL_isThereAndBack_172 : decode cL_isThereAndBack 172 = .ok (.if_icmp .ne 7, 3) := by decide +kernel
theorem dL_isThereAndBack_175 : decode cL_isThereAndBack 175 = .ok (.iconst 1, 1) := by decide +kernel
theorem dL_isThereAndBack_176 : decode cL_isThereAndBack 176 = .ok (.goto 4, 3) := by decide +kernel
theorem dL_isThereAndBack_179 : decode cL_isThereAndBack 179 = .ok (.iconst 0, 1) := by decide +kernel
theorem dL_isThereAndBack_180 : decode cL_isThereAndBack 180 = .ok (.ireturn, 1) := by decide +kernel
set_option maxRecDepth 20000 in
theorem ggL_isTakenBack_X1_nextOf : GoodIn wsL_isTakenBack wsX1_nextOf := goodIn_ca (goodIn_r _ [5, 6, 7, 4, 8, 9, 10, 11, 12, 13, 14, 15, 82, 83, 84, 85, 86, 87, 88] (by decide +kernel) (by decide +kernel)) (goodIn_sub (fun _ h => List.mem_cons_of_mem _ (List.mem_append_left _ (List.mem_append_right _ h))) (by decide +kernel))
set_option maxRecDepth 20000 in
theorem gL_isTakenBack_X1_nextOf : GoodIn wsL_isTakenBack (wsV RL 51 RX1 yX1_nextOf wsX1_nextOf) := goodIn_app (goodIn_of _ (by decide +kernel)) ggL_isTakenBack_X1_nextOf
set_option maxRecDepth 20000 in
theorem ggL_isTakenBack_X1_placeOf : GoodIn wsL_isTakenBack wsX1_placeOf := goodIn_r _ [19, 15, 82, 83, 84, 85, 86, 87, 88] (by decide +kernel) (by decide +kernel)
set_option maxRecDepth 20000 in
theorem gL_isTakenBack_X1_placeOf : GoodIn wsL_isTakenBack (wsV RL 30 RX1 yX1_placeOf wsX1_placeOf) := goodIn_app (goodIn_of _ (by decide +kernel)) ggL_isTakenBack_X1_placeOf
set_option maxRecDepth 20000 in
theorem ggL_isTakenBack_X1_inJug : GoodIn wsL_isTakenBack wsX1_inJug := goodIn_r _ [23, 24, 25, 26, 4, 27, 28, 29, 30, 31, 15, 32, 33, 34, 35, 82, 83, 84, 85, 86, 87, 88] (by decide +kernel) (by decide +kernel)
set_option maxRecDepth 20000 in
theorem gL_isTakenBack_X1_inJug : GoodIn wsL_isTakenBack (wsV RL 33 RX1 yX1_inJug wsX1_inJug) := goodIn_app (goodIn_of _ (by decide +kernel)) ggL_isTakenBack_X1_inJug
set_option maxRecDepth 20000 in
theorem ggL_isTakenBack_X1_drunk : GoodIn wsL_isTakenBack wsX1_drunk := goodIn_r _ [39, 24, 25, 26, 4, 27, 28, 29, 30, 31, 15, 32, 33, 34, 35, 82, 83, 84, 85, 86, 87, 88] (by decide +kernel) (by decide +kernel)
set_option maxRecDepth 20000 in
theorem gL_isTakenBack_X1_drunk : GoodIn wsL_isTakenBack (wsV RL 45 RX1 yX1_drunk wsX1_drunk) := goodIn_app (goodIn_of _ (by decide +kernel)) ggL_isTakenBack_X1_drunk
set_option maxRecDepth 20000 in
theorem ggL_isTakenBack_X1_drink : GoodIn wsL_isTakenBack wsX1_drink := goodIn_ca (goodIn_ca (goodIn_r _ [43, 44, 45, 6, 7, 4, 8, 9, 10, 11, 12, 13, 14, 15, 46, 47, 48, 49, 50, 51, 52, 53, 54, 55, 56, 57, 58, 59, 60, 61, 62, 63, 64, 65, 66, 67, 68, 69, 70, 71, 72, 73, 74, 75, 76, 82, 83, 84, 85, 86, 87, 88] (by decide +kernel) (by decide +kernel)) (goodIn_sub (fun _ h => List.mem_cons_of_mem _ (List.mem_append_right _ h)) (by decide +kernel))) (goodIn_sub (fun _ h => List.mem_cons_of_mem _ (List.mem_append_left _ (List.mem_append_right _ h))) (by decide +kernel))
set_option maxRecDepth 20000 in
theorem gL_isTakenBack_X1_drink : GoodIn wsL_isTakenBack (wsV RL 64 RX1 yX1_drink wsX1_drink) := goodIn_app (goodIn_of _ (by decide +kernel)) ggL_isTakenBack_X1_drink
set_option maxRecDepth 20000 in
theorem ggL_isTakenBack_X1_giveBack : GoodIn wsL_isTakenBack wsX1_giveBack := goodIn_ca (goodIn_r _ [80, 44, 45, 81, 17, 18, 4, 19, 15, 28, 29, 30, 31, 32, 33, 34, 35, 46, 47, 48, 49, 50, 51, 52, 53, 54, 55, 56, 57, 58, 59, 60, 61, 62, 63, 64, 65, 66, 67, 68, 69, 70, 71, 72, 73, 74, 75, 76, 24, 25, 26, 27, 82, 83, 84, 85, 86, 87, 88] (by decide +kernel) (by decide +kernel)) (goodIn_sub (fun _ h => List.mem_cons_of_mem _ (List.mem_append_right _ h)) (by decide +kernel))
set_option maxRecDepth 20000 in
theorem gL_isTakenBack_X1_giveBack : GoodIn wsL_isTakenBack (wsV RL 67 RX1 yX1_giveBack wsX1_giveBack) := goodIn_app (goodIn_of _ (by decide +kernel)) ggL_isTakenBack_X1_giveBack
theorem dL_isTakenBack_0 : decode cL_isTakenBack 0 = .ok (.aload_n 0, 1) := by decide +kernel
theorem dL_isTakenBack_1 : decode cL_isTakenBack 1 = .ok (.iload_n 1, 1) := by decide +kernel
theorem dL_isTakenBack_2 : decode cL_isTakenBack 2 = .ok (.invokevirtual 51, 3) := by decide +kernel
theorem dL_isTakenBack_5 : decode cL_isTakenBack 5 = .ok (.istore_n 2, 1) := by decide +kernel
theorem dL_isTakenBack_6 : decode cL_isTakenBack 6 = .ok (.iload_n 2, 1) := by decide +kernel
theorem dL_isTakenBack_7 : decode cL_isTakenBack 7 = .ok (.ifCond .ne 5, 3) := by decide +kernel
theorem dL_isTakenBack_10 : decode cL_isTakenBack 10 = .ok (.iconst 1, 1) := by decide +kernel
theorem dL_isTakenBack_11 : decode cL_isTakenBack 11 = .ok (.ireturn, 1) := by decide +kernel
theorem dL_isTakenBack_12 : decode cL_isTakenBack 12 = .ok (.aload_n 0, 1) := by decide +kernel
theorem dL_isTakenBack_13 : decode cL_isTakenBack 13 = .ok (.iload_n 2, 1) := by decide +kernel
theorem dL_isTakenBack_14 : decode cL_isTakenBack 14 = .ok (.invokevirtual 30, 3) := by decide +kernel
theorem dL_isTakenBack_17 : decode cL_isTakenBack 17 = .ok (.istore_n 3, 1) := by decide +kernel
theorem dL_isTakenBack_18 : decode cL_isTakenBack 18 = .ok (.aload_n 0, 1) := by decide +kernel
theorem dL_isTakenBack_19 : decode cL_isTakenBack 19 = .ok (.invokevirtual 33, 3) := by decide +kernel
theorem dL_isTakenBack_22 : decode cL_isTakenBack 22 = .ok (.istore 4, 2) := by decide +kernel
theorem dL_isTakenBack_24 : decode cL_isTakenBack 24 = .ok (.aload_n 0, 1) := by decide +kernel
theorem dL_isTakenBack_25 : decode cL_isTakenBack 25 = .ok (.invokevirtual 45, 3) := by decide +kernel
theorem dL_isTakenBack_28 : decode cL_isTakenBack 28 = .ok (.istore 5, 2) := by decide +kernel
theorem dL_isTakenBack_30 : decode cL_isTakenBack 30 = .ok (.aload_n 0, 1) := by decide +kernel
theorem dL_isTakenBack_31 : decode cL_isTakenBack 31 = .ok (.iload_n 1, 1) := by decide +kernel
theorem dL_isTakenBack_32 : decode cL_isTakenBack 32 = .ok (.invokevirtual 64, 3) := by decide +kernel
theorem dL_isTakenBack_35 : decode cL_isTakenBack 35 = .ok (.iload_n 2, 1) := by decide +kernel
theorem dL_isTakenBack_36 : decode cL_isTakenBack 36 = .ok (.if_icmp .ne 69, 3) := by decide +kernel
theorem dL_isTakenBack_39 : decode cL_isTakenBack 39 = .ok (.aload_n 0, 1) := by decide +kernel
theorem dL_isTakenBack_40 : decode cL_isTakenBack 40 = .ok (.iload_n 2, 1) := by decide +kernel
theorem dL_isTakenBack_41 : decode cL_isTakenBack 41 = .ok (.invokevirtual 30, 3) := by decide +kernel
theorem dL_isTakenBack_44 : decode cL_isTakenBack 44 = .ok (.bipush 9, 2) := by decide +kernel
theorem dL_isTakenBack_46 : decode cL_isTakenBack 46 = .ok (.if_icmp .ne 59, 3) := by decide +kernel
theorem dL_isTakenBack_49 : decode cL_isTakenBack 49 = .ok (.aload_n 0, 1) := by decide +kernel
theorem dL_isTakenBack_50 : decode cL_isTakenBack 50 = .ok (.invokevirtual 45, 3) := by decide +kernel
theorem dL_isTakenBack_53 : decode cL_isTakenBack 53 = .ok (.iload 5, 2) := by decide +kernel
theorem dL_isTakenBack_55 : decode cL_isTakenBack 55 = .ok (.iconst 1, 1) := by decide +kernel
theorem dL_isTakenBack_56 : decode cL_isTakenBack 56 = .ok (.iadd, 1) := by decide +kernel
theorem dL_isTakenBack_57 : decode cL_isTakenBack 57 = .ok (.if_icmp .ne 48, 3) := by decide +kernel
theorem dL_isTakenBack_60 : decode cL_isTakenBack 60 = .ok (.aload_n 0, 1) := by decide +kernel
theorem dL_isTakenBack_61 : decode cL_isTakenBack 61 = .ok (.iload_n 2, 1) := by decide +kernel
theorem dL_isTakenBack_62 : decode cL_isTakenBack 62 = .ok (.invokevirtual 67, 3) := by decide +kernel
theorem dL_isTakenBack_65 : decode cL_isTakenBack 65 = .ok (.iload 4, 2) := by decide +kernel
theorem dL_isTakenBack_67 : decode cL_isTakenBack 67 = .ok (.iload_n 3, 1) := by decide +kernel
theorem dL_isTakenBack_68 : decode cL_isTakenBack 68 = .ok (.bipush 8, 2) := by decide +kernel
theorem dL_isTakenBack_70 : decode cL_isTakenBack 70 = .ok (.if_icmp .ne 7, 3) := by decide +kernel
theorem dL_isTakenBack_73 : decode cL_isTakenBack 73 = .ok (.iconst 0, 1) := by decide +kernel
theorem dL_isTakenBack_74 : decode cL_isTakenBack 74 = .ok (.goto 4, 3) := by decide +kernel
theorem dL_isTakenBack_77 : decode cL_isTakenBack 77 = .ok (.iconst 1, 1) := by decide +kernel
theorem dL_isTakenBack_78 : decode cL_isTakenBack 78 = .ok (.iadd, 1) := by decide +kernel
theorem dL_isTakenBack_79 : decode cL_isTakenBack 79 = .ok (.if_icmp .ne 26, 3) := by decide +kernel
theorem dL_isTakenBack_82 : decode cL_isTakenBack 82 = .ok (.aload_n 0, 1) := by decide +kernel
theorem dL_isTakenBack_83 : decode cL_isTakenBack 83 = .ok (.iload_n 2, 1) := by decide +kernel
theorem dL_isTakenBack_84 : decode cL_isTakenBack 84 = .ok (.invokevirtual 30, 3) := by decide +kernel
theorem dL_isTakenBack_87 : decode cL_isTakenBack 87 = .ok (.bipush 8, 2) := by decide +kernel
theorem dL_isTakenBack_89 : decode cL_isTakenBack 89 = .ok (.if_icmp .ne 16, 3) := by decide +kernel
theorem dL_isTakenBack_92 : decode cL_isTakenBack 92 = .ok (.aload_n 0, 1) := by decide +kernel
theorem dL_isTakenBack_93 : decode cL_isTakenBack 93 = .ok (.invokevirtual 45, 3) := by decide +kernel
theorem dL_isTakenBack_96 : decode cL_isTakenBack 96 = .ok (.iload 5, 2) := by decide +kernel
theorem dL_isTakenBack_98 : decode cL_isTakenBack 98 = .ok (.if_icmp .ne 7, 3) := by decide +kernel
theorem dL_isTakenBack_101 : decode cL_isTakenBack 101 = .ok (.iconst 1, 1) := by decide +kernel
theorem dL_isTakenBack_102 : decode cL_isTakenBack 102 = .ok (.goto 4, 3) := by decide +kernel
theorem dL_isTakenBack_105 : decode cL_isTakenBack 105 = .ok (.iconst 0, 1) := by decide +kernel
theorem dL_isTakenBack_106 : decode cL_isTakenBack 106 = .ok (.istore 6, 2) := by decide +kernel
theorem dL_isTakenBack_108 : decode cL_isTakenBack 108 = .ok (.iload 6, 2) := by decide +kernel
theorem dL_isTakenBack_110 : decode cL_isTakenBack 110 = .ok (.ifCond .eq 22, 3) := by decide +kernel
theorem dL_isTakenBack_113 : decode cL_isTakenBack 113 = .ok (.iload_n 3, 1) := by decide +kernel
theorem dL_isTakenBack_114 : decode cL_isTakenBack 114 = .ok (.bipush 8, 2) := by decide +kernel
theorem dL_isTakenBack_116 : decode cL_isTakenBack 116 = .ok (.if_icmp .ne 12, 3) := by decide +kernel
theorem dL_isTakenBack_119 : decode cL_isTakenBack 119 = .ok (.aload_n 0, 1) := by decide +kernel
theorem dL_isTakenBack_120 : decode cL_isTakenBack 120 = .ok (.iload_n 1, 1) := by decide +kernel
theorem dL_isTakenBack_121 : decode cL_isTakenBack 121 = .ok (.invokevirtual 51, 3) := by decide +kernel
theorem dL_isTakenBack_124 : decode cL_isTakenBack 124 = .ok (.iload_n 2, 1) := by decide +kernel
theorem dL_isTakenBack_125 : decode cL_isTakenBack 125 = .ok (.if_icmp .ne 7, 3) := by decide +kernel
theorem dL_isTakenBack_128 : decode cL_isTakenBack 128 = .ok (.iconst 1, 1) := by decide +kernel
theorem dL_isTakenBack_129 : decode cL_isTakenBack 129 = .ok (.goto 4, 3) := by decide +kernel
theorem dL_isTakenBack_132 : decode cL_isTakenBack 132 = .ok (.iconst 0, 1) := by decide +kernel
theorem dL_isTakenBack_133 : decode cL_isTakenBack 133 = .ok (.ireturn, 1) := by decide +kernel
set_option maxRecDepth 20000 in
theorem ggL_isPassedRound_X1_inGoblet : GoodIn wsL_isPassedRound wsX1_inGoblet := goodIn_ca (goodIn_r _ [5, 6, 7, 4, 8, 9, 10, 11, 12, 13, 14, 15, 16, 17, 18, 19, 20, 21, 22, 23, 71, 72, 73, 74, 75, 76, 77] (by decide +kernel) (by decide +kernel)) (goodIn_sub (fun _ h => List.mem_cons_of_mem _ (List.mem_append_left _ (List.mem_append_right _ h))) (by decide +kernel))
set_option maxRecDepth 20000 in
theorem gL_isPassedRound_X1_inGoblet : GoodIn wsL_isPassedRound (wsV RL 8 RX1 yX1_inGoblet wsX1_inGoblet) := goodIn_app (goodIn_of _ (by decide +kernel)) ggL_isPassedRound_X1_inGoblet
set_option maxRecDepth 20000 in
theorem ggL_isPassedRound_X1_inJug : GoodIn wsL_isPassedRound wsX1_inJug := goodIn_r _ [27, 11, 12, 13, 4, 14, 15, 16, 17, 18, 19, 20, 21, 22, 23, 71, 72, 73, 74, 75, 76, 77] (by decide +kernel) (by decide +kernel)
set_option maxRecDepth 20000 in
theorem gL_isPassedRound_X1_inJug : GoodIn wsL_isPassedRound (wsV RL 33 RX1 yX1_inJug wsX1_inJug) := goodIn_app (goodIn_of _ (by decide +kernel)) ggL_isPassedRound_X1_inJug
set_option maxRecDepth 20000 in
theorem ggL_isPassedRound_X1_share : GoodIn wsL_isPassedRound wsX1_share := goodIn_ca (goodIn_ca (goodIn_r _ [31, 32, 33, 34, 35, 22, 36, 6, 7, 4, 8, 9, 10, 37, 38, 39, 11, 12, 13, 14, 15, 16, 17, 18, 19, 20, 21, 23, 40, 41, 42, 43, 44, 45, 46, 47, 48, 49, 50, 51, 52, 53, 54, 55, 56, 57, 58, 59, 60, 61, 62, 63, 64, 65, 66, 67, 68, 69, 70, 71, 72, 73, 74, 75, 76, 77] (by decide +kernel) (by decide +kernel)) (goodIn_sub (fun _ h => List.mem_cons_of_mem _ (List.mem_append_right _ h)) (by decide +kernel))) (goodIn_sub (fun _ h => List.mem_cons_of_mem _ (List.mem_append_left _ (List.mem_append_right _ h))) (by decide +kernel))
set_option maxRecDepth 20000 in
theorem gL_isPassedRound_X1_share : GoodIn wsL_isPassedRound (wsV RL 70 RX1 yX1_share wsX1_share) := goodIn_app (goodIn_of _ (by decide +kernel)) ggL_isPassedRound_X1_share
theorem dL_isPassedRound_0 : decode cL_isPassedRound 0 = .ok (.aload_n 0, 1) := by decide +kernel
theorem dL_isPassedRound_1 : decode cL_isPassedRound 1 = .ok (.iload_n 1, 1) := by decide +kernel
theorem dL_isPassedRound_2 : decode cL_isPassedRound 2 = .ok (.invokevirtual 8, 3) := by decide +kernel
theorem dL_isPassedRound_5 : decode cL_isPassedRound 5 = .ok (.istore 4, 2) := by decide +kernel
theorem dL_isPassedRound_7 : decode cL_isPassedRound 7 = .ok (.aload_n 0, 1) := by decide +kernel
theorem dL_isPassedRound_8 : decode cL_isPassedRound 8 = .ok (.iload_n 2, 1) := by decide +kernel
theorem dL_isPassedRound_9 : decode cL_isPassedRound 9 = .ok (.invokevirtual 8, 3) := by decide +kernel
theorem dL_isPassedRound_12 : decode cL_isPassedRound 12 = .ok (.istore 5, 2) := by decide +kernel
theorem dL_isPassedRound_14 : decode cL_isPassedRound 14 = .ok (.aload_n 0, 1) := by decide +kernel
theorem dL_isPassedRound_15 : decode cL_isPassedRound 15 = .ok (.invokevirtual 33, 3) := by decide +kernel
theorem dL_isPassedRound_18 : decode cL_isPassedRound 18 = .ok (.istore 6, 2) := by decide +kernel
theorem dL_isPassedRound_20 : decode cL_isPassedRound 20 = .ok (.aload_n 0, 1) := by decide +kernel
theorem dL_isPassedRound_21 : decode cL_isPassedRound 21 = .ok (.iload_n 1, 1) := by decide +kernel
theorem dL_isPassedRound_22 : decode cL_isPassedRound 22 = .ok (.iload_n 2, 1) := by decide +kernel
theorem dL_isPassedRound_23 : decode cL_isPassedRound 23 = .ok (.iload_n 3, 1) := by decide +kernel
theorem dL_isPassedRound_24 : decode cL_isPassedRound 24 = .ok (.invokevirtual 70, 3) := by decide +kernel
theorem dL_isPassedRound_27 : decode cL_isPassedRound 27 = .ok (.istore 7, 2) := by decide +kernel
theorem dL_isPassedRound_29 : decode cL_isPassedRound 29 = .ok (.iload 7, 2) := by decide +kernel
theorem dL_isPassedRound_31 : decode cL_isPassedRound 31 = .ok (.iload 4, 2) := by decide +kernel
theorem dL_isPassedRound_33 : decode cL_isPassedRound 33 = .ok (.iload_n 3, 1) := by decide +kernel
theorem dL_isPassedRound_34 : decode cL_isPassedRound 34 = .ok (.if_icmp .ge 8, 3) := by decide +kernel
theorem dL_isPassedRound_37 : decode cL_isPassedRound 37 = .ok (.iload 4, 2) := by decide +kernel
theorem dL_isPassedRound_39 : decode cL_isPassedRound 39 = .ok (.goto 4, 3) := by decide +kernel
theorem dL_isPassedRound_42 : decode cL_isPassedRound 42 = .ok (.iload_n 3, 1) := by decide +kernel
theorem dL_isPassedRound_43 : decode cL_isPassedRound 43 = .ok (.if_icmp .ne 33, 3) := by decide +kernel
theorem dL_isPassedRound_46 : decode cL_isPassedRound 46 = .ok (.aload_n 0, 1) := by decide +kernel
theorem dL_isPassedRound_47 : decode cL_isPassedRound 47 = .ok (.iload_n 1, 1) := by decide +kernel
theorem dL_isPassedRound_48 : decode cL_isPassedRound 48 = .ok (.invokevirtual 8, 3) := by decide +kernel
theorem dL_isPassedRound_51 : decode cL_isPassedRound 51 = .ok (.iload 4, 2) := by decide +kernel
theorem dL_isPassedRound_53 : decode cL_isPassedRound 53 = .ok (.iload 7, 2) := by decide +kernel
theorem dL_isPassedRound_55 : decode cL_isPassedRound 55 = .ok (.isub, 1) := by decide +kernel
theorem dL_isPassedRound_56 : decode cL_isPassedRound 56 = .ok (.if_icmp .ne 20, 3) := by decide +kernel
theorem dL_isPassedRound_59 : decode cL_isPassedRound 59 = .ok (.aload_n 0, 1) := by decide +kernel
theorem dL_isPassedRound_60 : decode cL_isPassedRound 60 = .ok (.iload_n 2, 1) := by decide +kernel
theorem dL_isPassedRound_61 : decode cL_isPassedRound 61 = .ok (.invokevirtual 8, 3) := by decide +kernel
theorem dL_isPassedRound_64 : decode cL_isPassedRound 64 = .ok (.iload 5, 2) := by decide +kernel
theorem dL_isPassedRound_66 : decode cL_isPassedRound 66 = .ok (.iload 7, 2) := by decide +kernel
theorem dL_isPassedRound_68 : decode cL_isPassedRound 68 = .ok (.iadd, 1) := by decide +kernel
theorem dL_isPassedRound_69 : decode cL_isPassedRound 69 = .ok (.if_icmp .ne 7, 3) := by decide +kernel
theorem dL_isPassedRound_72 : decode cL_isPassedRound 72 = .ok (.iconst 1, 1) := by decide +kernel
theorem dL_isPassedRound_73 : decode cL_isPassedRound 73 = .ok (.goto 4, 3) := by decide +kernel
theorem dL_isPassedRound_76 : decode cL_isPassedRound 76 = .ok (.iconst 0, 1) := by decide +kernel
theorem dL_isPassedRound_77 : decode cL_isPassedRound 77 = .ok (.istore 8, 2) := by decide +kernel
theorem dL_isPassedRound_79 : decode cL_isPassedRound 79 = .ok (.iload 8, 2) := by decide +kernel
theorem dL_isPassedRound_81 : decode cL_isPassedRound 81 = .ok (.ifCond .eq 54, 3) := by decide +kernel
theorem dL_isPassedRound_84 : decode cL_isPassedRound 84 = .ok (.iload 7, 2) := by decide +kernel
theorem dL_isPassedRound_86 : decode cL_isPassedRound 86 = .ok (.ifCond .eq 36, 3) := by decide +kernel
theorem dL_isPassedRound_89 : decode cL_isPassedRound 89 = .ok (.aload_n 0, 1) := by decide +kernel
theorem dL_isPassedRound_90 : decode cL_isPassedRound 90 = .ok (.iload_n 2, 1) := by decide +kernel
theorem dL_isPassedRound_91 : decode cL_isPassedRound 91 = .ok (.iload_n 1, 1) := by decide +kernel
theorem dL_isPassedRound_92 : decode cL_isPassedRound 92 = .ok (.iload 7, 2) := by decide +kernel
theorem dL_isPassedRound_94 : decode cL_isPassedRound 94 = .ok (.invokevirtual 70, 3) := by decide +kernel
theorem dL_isPassedRound_97 : decode cL_isPassedRound 97 = .ok (.iload 7, 2) := by decide +kernel
theorem dL_isPassedRound_99 : decode cL_isPassedRound 99 = .ok (.if_icmp .ne 36, 3) := by decide +kernel
theorem dL_isPassedRound_102 : decode cL_isPassedRound 102 = .ok (.aload_n 0, 1) := by decide +kernel
theorem dL_isPassedRound_103 : decode cL_isPassedRound 103 = .ok (.iload_n 1, 1) := by decide +kernel
theorem dL_isPassedRound_104 : decode cL_isPassedRound 104 = .ok (.invokevirtual 8, 3) := by decide +kernel
theorem dL_isPassedRound_107 : decode cL_isPassedRound 107 = .ok (.iload 4, 2) := by decide +kernel
theorem dL_isPassedRound_109 : decode cL_isPassedRound 109 = .ok (.if_icmp .ne 26, 3) := by decide +kernel
theorem dL_isPassedRound_112 : decode cL_isPassedRound 112 = .ok (.aload_n 0, 1) := by decide +kernel
theorem dL_isPassedRound_113 : decode cL_isPassedRound 113 = .ok (.iload_n 2, 1) := by decide +kernel
theorem dL_isPassedRound_114 : decode cL_isPassedRound 114 = .ok (.invokevirtual 8, 3) := by decide +kernel
theorem dL_isPassedRound_117 : decode cL_isPassedRound 117 = .ok (.iload 5, 2) := by decide +kernel
theorem dL_isPassedRound_119 : decode cL_isPassedRound 119 = .ok (.if_icmp .ne 16, 3) := by decide +kernel
theorem dL_isPassedRound_122 : decode cL_isPassedRound 122 = .ok (.aload_n 0, 1) := by decide +kernel
theorem dL_isPassedRound_123 : decode cL_isPassedRound 123 = .ok (.invokevirtual 33, 3) := by decide +kernel
theorem dL_isPassedRound_126 : decode cL_isPassedRound 126 = .ok (.iload 6, 2) := by decide +kernel
theorem dL_isPassedRound_128 : decode cL_isPassedRound 128 = .ok (.if_icmp .ne 7, 3) := by decide +kernel
theorem dL_isPassedRound_131 : decode cL_isPassedRound 131 = .ok (.iconst 1, 1) := by decide +kernel
theorem dL_isPassedRound_132 : decode cL_isPassedRound 132 = .ok (.goto 4, 3) := by decide +kernel
theorem dL_isPassedRound_135 : decode cL_isPassedRound 135 = .ok (.iconst 0, 1) := by decide +kernel
theorem dL_isPassedRound_136 : decode cL_isPassedRound 136 = .ok (.ireturn, 1) := by decide +kernel
set_option maxRecDepth 20000 in
theorem ggL_law_X1_init : GoodIn wsL_law wsX1_init := goodIn_r _ [5, 6, 7, 8, 9, 10, 11, 12, 13, 14, 15, 16, 17, 18, 19, 20, 21, 200, 201, 202, 203, 197, 198, 199] (by decide +kernel) (by decide +kernel)
set_option maxRecDepth 20000 in
theorem gL_law_X1_init : GoodIn wsL_law (wsX1_init) := ggL_law_X1_init
set_option maxRecDepth 20000 in
theorem ggL_law_L_drawn : GoodIn wsL_law wsL_drawn := goodIn_r _ [25, 26] (by decide +kernel) (by decide +kernel)
set_option maxRecDepth 20000 in
theorem gL_law_L_drawn : GoodIn wsL_law (va_wsS RL 75 yL_drawn wsL_drawn) := goodIn_app (goodIn_of _ (by decide +kernel)) ggL_law_L_drawn
set_option maxRecDepth 20000 in
theorem ggL_law_X1_inJug : GoodIn wsL_law wsX1_inJug := goodIn_r _ [30, 31, 32, 33, 2, 34, 35, 36, 37, 38, 12, 39, 40, 41, 42, 197, 198, 199, 200, 201, 202, 203] (by decide +kernel) (by decide +kernel)
set_option maxRecDepth 20000 in
theorem gL_law_X1_inJug : GoodIn wsL_law (wsV RL 33 RX1 yX1_inJug wsX1_inJug) := goodIn_app (goodIn_of _ (by decide +kernel)) ggL_law_X1_inJug
set_option maxRecDepth 20000 in
theorem ggL_law_X1_pour : GoodIn wsL_law wsX1_pour := goodIn_ca (goodIn_ca (goodIn_ca (goodIn_r _ [46, 47, 48, 49, 50, 2, 51, 52, 53, 54, 55, 56, 57, 58, 59, 60, 61, 62, 12, 63, 64, 65, 66, 67, 11, 68, 69, 18, 70, 10, 19, 20, 21, 71, 72, 73, 74, 75, 15, 16, 17, 7, 8, 76, 77, 78, 79, 80, 81, 82, 197, 198, 199, 200, 201, 202, 203] (by decide +kernel) (by decide +kernel)) (goodIn_sub (fun _ h => List.mem_append_left _ (List.mem_append_left _ (List.mem_append_right _ h))) (by decide +kernel))) (goodIn_sub (fun _ h => List.mem_append_left _ (List.mem_append_right _ h)) (by decide +kernel))) (goodIn_sub (fun _ h => List.mem_append_right _ h) (by decide +kernel))
set_option maxRecDepth 20000 in
theorem gL_law_X1_pour : GoodIn wsL_law (wsV RL 57 RX1 yX1_pour wsX1_pour) := goodIn_app (goodIn_of _ (by decide +kernel)) ggL_law_X1_pour
set_option maxRecDepth 20000 in
theorem ggL_law_X1_nextOf : GoodIn wsL_law wsX1_nextOf := goodIn_ca (goodIn_r _ [86, 49, 50, 2, 51, 52, 53, 59, 60, 61, 62, 12, 197, 198, 199, 200, 201, 202, 203] (by decide +kernel) (by decide +kernel)) (goodIn_sub (fun _ h => List.mem_append_left _ (List.mem_append_right _ h)) (by decide +kernel))
set_option maxRecDepth 20000 in
theorem gL_law_X1_nextOf : GoodIn wsL_law (wsV RL 51 RX1 yX1_nextOf wsX1_nextOf) := goodIn_app (goodIn_of _ (by decide +kernel)) ggL_law_X1_nextOf
set_option maxRecDepth 20000 in
theorem ggL_law_X1_drink : GoodIn wsL_law wsX1_drink := goodIn_ca (goodIn_ca (goodIn_r _ [90, 47, 48, 49, 50, 2, 51, 52, 53, 59, 60, 61, 62, 12, 63, 64, 65, 66, 67, 11, 68, 69, 18, 70, 10, 19, 20, 21, 71, 72, 73, 74, 75, 15, 16, 17, 7, 8, 76, 77, 78, 79, 80, 81, 82, 197, 198, 199, 200, 201, 202, 203] (by decide +kernel) (by decide +kernel)) (goodIn_sub (fun _ h => List.mem_append_left _ (List.mem_append_left _ (List.mem_append_right _ h))) (by decide +kernel))) (goodIn_sub (fun _ h => List.mem_append_left _ (List.mem_append_right _ h)) (by decide +kernel))
set_option maxRecDepth 20000 in
theorem gL_law_X1_drink : GoodIn wsL_law (wsV RL 64 RX1 yX1_drink wsX1_drink) := goodIn_app (goodIn_of _ (by decide +kernel)) ggL_law_X1_drink
set_option maxRecDepth 20000 in
theorem ggL_law_X1_inGoblet : GoodIn wsL_law wsX1_inGoblet := goodIn_ca (goodIn_r _ [94, 49, 50, 2, 51, 52, 53, 31, 32, 33, 34, 35, 36, 37, 38, 12, 39, 40, 41, 42, 197, 198, 199, 200, 201, 202, 203] (by decide +kernel) (by decide +kernel)) (goodIn_sub (fun _ h => List.mem_append_left _ (List.mem_append_right _ h)) (by decide +kernel))
set_option maxRecDepth 20000 in
theorem gL_law_X1_inGoblet : GoodIn wsL_law (wsV RL 8 RX1 yX1_inGoblet wsX1_inGoblet) := goodIn_app (goodIn_of _ (by decide +kernel)) ggL_law_X1_inGoblet
set_option maxRecDepth 20000 in
theorem ggL_law_X1_spilt : GoodIn wsL_law wsX1_spilt := goodIn_r _ [98, 31, 32, 33, 2, 34, 35, 36, 37, 38, 12, 39, 40, 41, 42, 197, 198, 199, 200, 201, 202, 203] (by decide +kernel) (by decide +kernel)
set_option maxRecDepth 20000 in
theorem gL_law_X1_spilt : GoodIn wsL_law (wsV RL 48 RX1 yX1_spilt wsX1_spilt) := goodIn_app (goodIn_of _ (by decide +kernel)) ggL_law_X1_spilt
set_option maxRecDepth 20000 in
theorem ggL_law_X1_spill : GoodIn wsL_law wsX1_spill := goodIn_ca (goodIn_r _ [102, 49, 50, 2, 51, 52, 53, 103, 104, 105, 106, 63, 64, 65, 66, 12, 67, 11, 68, 69, 18, 70, 10, 19, 20, 21, 71, 72, 73, 74, 75, 15, 16, 17, 7, 8, 76, 77, 78, 79, 80, 81, 82, 197, 198, 199, 200, 201, 202, 203] (by decide +kernel) (by decide +kernel)) (goodIn_sub (fun _ h => List.mem_append_left _ (List.mem_append_right _ h)) (by decide +kernel))
set_option maxRecDepth 20000 in
theorem gL_law_X1_spill : GoodIn wsL_law (wsV RL 79 RX1 yX1_spill wsX1_spill) := goodIn_app (goodIn_of _ (by decide +kernel)) ggL_law_X1_spill
set_option maxRecDepth 20000 in
theorem ggL_law_X1_size : GoodIn wsL_law wsX1_size := goodIn_r _ [110, 13, 197, 198, 199] (by decide +kernel) (by decide +kernel)
set_option maxRecDepth 20000 in
theorem gL_law_X1_size : GoodIn wsL_law (wsV RL 27 RX1 yX1_size wsX1_size) := goodIn_app (goodIn_of _ (by decide +kernel)) ggL_law_X1_size
set_option maxRecDepth 20000 in
theorem ggL_law_X1_enlarge : GoodIn wsL_law wsX1_enlarge := goodIn_ca (goodIn_r _ [114, 57, 58, 13, 63, 64, 65, 2, 66, 12, 67, 11, 68, 69, 18, 70, 10, 19, 20, 21, 71, 72, 73, 74, 75, 15, 16, 17, 7, 8, 76, 77, 78, 79, 80, 81, 82, 31, 32, 33, 34, 35, 36, 37, 38, 39, 40, 41, 42, 197, 198, 199, 200, 201, 202, 203] (by decide +kernel) (by decide +kernel)) (goodIn_sub (fun _ h => List.mem_append_right _ h) (by decide +kernel))
set_option maxRecDepth 20000 in
theorem gL_law_X1_enlarge : GoodIn wsL_law (wsV RL 82 RX1 yX1_enlarge wsX1_enlarge) := goodIn_app (goodIn_of _ (by decide +kernel)) ggL_law_X1_enlarge
set_option maxRecDepth 20000 in
theorem ggL_law_X1_ranges : GoodIn wsL_law wsX1_ranges := goodIn_r _ [118, 119, 120, 121, 2, 122, 12, 197, 198, 199, 200, 201, 202, 203] (by decide +kernel) (by decide +kernel)
set_option maxRecDepth 20000 in
theorem gL_law_X1_ranges : GoodIn wsL_law (wsV RL 24 RX1 yX1_ranges wsX1_ranges) := goodIn_app (goodIn_of _ (by decide +kernel)) ggL_law_X1_ranges
set_option maxRecDepth 20000 in
theorem ggL_law_X1_rangeTo : GoodIn wsL_law wsX1_rangeTo := goodIn_ca (goodIn_r _ [126, 52, 53, 127, 128, 129, 2, 130, 12, 200, 201, 202, 203, 197, 198, 199] (by decide +kernel) (by decide +kernel)) (goodIn_sub (fun _ h => List.mem_append_left _ (List.mem_append_right _ h)) (by decide +kernel))
set_option maxRecDepth 20000 in
theorem gL_law_X1_rangeTo : GoodIn wsL_law (wsV RL 18 RX1 yX1_rangeTo wsX1_rangeTo) := goodIn_app (goodIn_of _ (by decide +kernel)) ggL_law_X1_rangeTo
set_option maxRecDepth 20000 in
theorem ggL_law_L_isThereAndBack : GoodIn wsL_law wsL_isThereAndBack := goodIn_ca (goodIn_ca (goodIn_ca (goodIn_r _ [133, 91, 92, 93, 2, 94, 49, 50, 51, 52, 53, 31, 32, 33, 34, 35, 36, 37, 38, 12, 39, 40, 41, 42, 27, 28, 29, 30, 115, 116, 117, 118, 119, 120, 121, 122, 134, 135, 136, 137, 127, 128, 129, 130, 138, 139, 140, 141, 72, 11, 73, 74, 19, 18, 43, 44, 45, 46, 47, 48, 54, 55, 56, 57, 58, 59, 60, 61, 62, 63, 64, 65, 66, 67, 68, 69, 70, 10, 20, 21, 71, 75, 15, 16, 17, 7, 8, 76, 77, 78, 79, 80, 81, 82, 83, 84, 85, 86, 142, 143, 144, 145, 146, 147, 148, 149, 103, 104, 105, 106, 197, 198, 199, 200, 201, 202, 203] (by decide +kernel) (by decide +kernel)) (goodIn_sub (fun _ h => List.mem_append_left _ (List.mem_append_right _ h)) (by decide +kernel))) (goodIn_sub (fun _ h => List.mem_append_left _ (List.mem_append_left _ (List.mem_append_right _ h))) (by decide +kernel))) (goodIn_sub (fun _ h => List.mem_append_right _ h) (by decide +kernel))
set_option maxRecDepth 20000 in
theorem gL_law_L_isThereAndBack : GoodIn wsL_law (va_wsS RL 85 yL_isThereAndBack wsL_isThereAndBack) := goodIn_app (goodIn_of _ (by decide +kernel)) ggL_law_L_isThereAndBack
set_option maxRecDepth 20000 in
theorem ggL_law_L_isTakenBack : GoodIn wsL_law wsL_isTakenBack := goodIn_ca (goodIn_ca (goodIn_r _ [152, 83, 84, 85, 2, 86, 49, 50, 51, 52, 53, 59, 60, 61, 62, 12, 153, 154, 155, 156, 27, 28, 29, 30, 31, 32, 33, 34, 35, 36, 37, 38, 39, 40, 41, 42, 157, 158, 159, 160, 87, 88, 89, 90, 47, 48, 63, 64, 65, 66, 67, 11, 68, 69, 18, 70, 10, 19, 20, 21, 71, 72, 73, 74, 75, 15, 16, 17, 7, 8, 76, 77, 78, 79, 80, 81, 82, 161, 162, 163, 164, 165, 197, 198, 199, 200, 201, 202, 203] (by decide +kernel) (by decide +kernel)) (goodIn_sub (fun _ h => List.mem_append_left _ (List.mem_append_right _ h)) (by decide +kernel))) (goodIn_sub (fun _ h => List.mem_append_left _ (List.mem_append_left _ (List.mem_append_right _ h))) (by decide +kernel))
set_option maxRecDepth 20000 in
theorem gL_law_L_isTakenBack : GoodIn wsL_law (va_wsS RL 89 yL_isTakenBack wsL_isTakenBack) := goodIn_app (goodIn_of _ (by decide +kernel)) ggL_law_L_isTakenBack
set_option maxRecDepth 20000 in
theorem ggL_law_L_isPassedRound : GoodIn wsL_law wsL_isPassedRound := goodIn_ca (goodIn_ca (goodIn_r _ [168, 91, 92, 93, 2, 94, 49, 50, 51, 52, 53, 31, 32, 33, 34, 35, 36, 37, 38, 12, 39, 40, 41, 42, 27, 28, 29, 30, 169, 170, 171, 172, 57, 58, 173, 174, 175, 54, 55, 56, 63, 64, 65, 66, 67, 11, 68, 69, 18, 70, 10, 19, 20, 21, 71, 72, 73, 74, 75, 15, 16, 17, 7, 8, 76, 77, 78, 79, 80, 81, 82, 197, 198, 199, 200, 201, 202, 203] (by decide +kernel) (by decide +kernel)) (goodIn_sub (fun _ h => List.mem_append_left _ (List.mem_append_right _ h)) (by decide +kernel))) (goodIn_sub (fun _ h => List.mem_append_right _ h) (by decide +kernel))
set_option maxRecDepth 20000 in
theorem gL_law_L_isPassedRound : GoodIn wsL_law (va_wsS RL 93 yL_isPassedRound wsL_isPassedRound) := goodIn_app (goodIn_of _ (by decide +kernel)) ggL_law_L_isPassedRound
set_option maxRecDepth 20000 in
theorem ggL_law_L_isAllSomewhere : GoodIn wsL_law wsL_isAllSomewhere := goodIn_ca (goodIn_r _ [178, 179, 180, 181, 2, 182, 12, 27, 28, 29, 30, 31, 32, 33, 34, 35, 36, 37, 38, 39, 40, 41, 42, 183, 184, 24, 185, 91, 92, 93, 94, 49, 50, 51, 52, 53, 157, 158, 159, 160, 95, 96, 97, 98, 107, 108, 109, 110, 13, 153, 154, 155, 156, 83, 84, 85, 86, 59, 60, 61, 62, 142, 143, 144, 145, 119, 120, 121, 122, 197, 198, 199, 200, 201, 202, 203] (by decide +kernel) (by decide +kernel)) (goodIn_sub (fun _ h => List.mem_append_left _ (List.mem_append_right _ h)) (by decide +kernel))
set_option maxRecDepth 20000 in
theorem gL_law_L_isAllSomewhere : GoodIn wsL_law (va_wsS RL 97 yL_isAllSomewhere wsL_isAllSomewhere) := goodIn_app (goodIn_of _ (by decide +kernel)) ggL_law_L_isAllSomewhere
set_option maxRecDepth 20000 in
theorem ggL_law_L_areRangesApart : GoodIn wsL_law wsL_areRangesApart := goodIn_ca (goodIn_r _ [188, 138, 139, 140, 2, 141, 12, 72, 11, 73, 74, 19, 18, 123, 124, 125, 126, 52, 53, 127, 128, 129, 130, 134, 135, 136, 137, 115, 116, 117, 118, 119, 120, 121, 122, 107, 108, 109, 110, 13, 153, 154, 155, 156, 27, 28, 29, 30, 31, 32, 33, 34, 35, 36, 37, 38, 39, 40, 41, 42, 197, 198, 199, 200, 201, 202, 203] (by decide +kernel) (by decide +kernel)) (goodIn_sub (fun _ h => List.mem_append_left _ (List.mem_append_right _ h)) (by decide +kernel))
set_option maxRecDepth 20000 in
theorem gL_law_L_areRangesApart : GoodIn wsL_law (va_wsS RL 101 yL_areRangesApart wsL_areRangesApart) := goodIn_app (goodIn_of _ (by decide +kernel)) ggL_law_L_areRangesApart
set_option maxRecDepth 20000 in
theorem ggL_law_X1_round : GoodIn wsL_law wsX1_round := goodIn_r _ [192, 14, 197, 198, 199] (by decide +kernel) (by decide +kernel)
set_option maxRecDepth 20000 in
theorem gL_law_X1_round : GoodIn wsL_law (wsV RL 104 RX1 yX1_round wsX1_round) := goodIn_app (goodIn_of _ (by decide +kernel)) ggL_law_X1_round
set_option maxRecDepth 20000 in
theorem ggL_law_X1_drunk : GoodIn wsL_law wsX1_drunk := goodIn_r _ [160, 31, 32, 33, 2, 34, 35, 36, 37, 38, 12, 39, 40, 41, 42, 197, 198, 199, 200, 201, 202, 203] (by decide +kernel) (by decide +kernel)
set_option maxRecDepth 20000 in
theorem gL_law_X1_drunk : GoodIn wsL_law (wsV RL 45 RX1 yX1_drunk wsX1_drunk) := goodIn_app (goodIn_of _ (by decide +kernel)) ggL_law_X1_drunk
set_option maxRecDepth 20000 in
theorem ggL_law_X1_nextRound : GoodIn wsL_law wsX1_nextRound := goodIn_ca (goodIn_r _ [196, 47, 48, 13, 14, 31, 32, 33, 2, 34, 35, 36, 37, 38, 12, 39, 40, 41, 42, 103, 104, 105, 106, 63, 64, 65, 66, 67, 11, 68, 69, 18, 70, 10, 19, 20, 21, 71, 72, 73, 74, 75, 15, 16, 17, 7, 8, 76, 77, 78, 79, 80, 81, 82, 197, 198, 199, 200, 201, 202, 203] (by decide +kernel) (by decide +kernel)) (goodIn_sub (fun _ h => List.mem_append_left _ (List.mem_append_left _ (List.mem_append_right _ h))) (by decide +kernel))
set_option maxRecDepth 20000 in
theorem gL_law_X1_nextRound : GoodIn wsL_law (wsV RL 107 RX1 yX1_nextRound wsX1_nextRound) := goodIn_app (goodIn_of _ (by decide +kernel)) ggL_law_X1_nextRound
set_option maxRecDepth 20000 in
theorem ggL_law_X1_rangeFrom : GoodIn wsL_law wsX1_rangeFrom := goodIn_ca (goodIn_r _ [137, 52, 53, 127, 128, 129, 2, 130, 12, 200, 201, 202, 203, 197, 198, 199] (by decide +kernel) (by decide +kernel)) (goodIn_sub (fun _ h => List.mem_append_left _ (List.mem_append_right _ h)) (by decide +kernel))
set_option maxRecDepth 20000 in
theorem gL_law_X1_rangeFrom : GoodIn wsL_law (wsV RL 21 RX1 yX1_rangeFrom wsX1_rangeFrom) := goodIn_app (goodIn_of _ (by decide +kernel)) ggL_law_X1_rangeFrom
set_option maxRecDepth 20000 in
theorem ggL_law_X1_lowestLeft : GoodIn wsL_law wsX1_lowestLeft := goodIn_r _ [182, 12, 197, 198, 199, 200, 201, 202, 203] (by decide +kernel) (by decide +kernel)
set_option maxRecDepth 20000 in
theorem gL_law_X1_lowestLeft : GoodIn wsL_law (wsV RL 36 RX1 yX1_lowestLeft wsX1_lowestLeft) := goodIn_app (goodIn_of _ (by decide +kernel)) ggL_law_X1_lowestLeft
theorem dL_law_0 : decode cL_law 0 = .ok (.new 9, 3) := by decide +kernel
theorem dL_law_3 : decode cL_law 3 = .ok (.dup, 1) := by decide +kernel
theorem dL_law_4 : decode cL_law 4 = .ok (.invokespecial 74, 3) := by decide +kernel
theorem dL_law_7 : decode cL_law 7 = .ok (.astore_n 1, 1) := by decide +kernel
theorem dL_law_8 : decode cL_law 8 = .ok (.iconst 1, 1) := by decide +kernel
theorem dL_law_9 : decode cL_law 9 = .ok (.istore_n 2, 1) := by decide +kernel
theorem dL_law_10 : decode cL_law 10 = .ok (.iconst 0, 1) := by decide +kernel
theorem dL_law_11 : decode cL_law 11 = .ok (.istore_n 3, 1) := by decide +kernel
theorem dL_law_12 : decode cL_law 12 = .ok (.iload_n 3, 1) := by decide +kernel
theorem dL_law_13 : decode cL_law 13 = .ok (.sipush 130, 3) := by decide +kernel
theorem dL_law_16 : decode cL_law 16 = .ok (.if_icmp .ge 348, 3) := by decide +kernel
theorem dL_law_19 : decode cL_law 19 = .ok (.iload_n 2, 1) := by decide +kernel
theorem dL_law_20 : decode cL_law 20 = .ok (.ifCond .eq 344, 3) := by decide +kernel
theorem dL_law_23 : decode cL_law 23 = .ok (.aload_n 0, 1) := by decide +kernel
theorem dL_law_24 : decode cL_law 24 = .ok (.iload_n 3, 1) := by decide +kernel
theorem dL_law_25 : decode cL_law 25 = .ok (.sipush 30000, 3) := by decide +kernel
theorem dL_law_28 : decode cL_law 28 = .ok (.invokestatic 75, 3) := by decide +kernel
theorem dL_law_31 : decode cL_law 31 = .ok (.istore 4, 2) := by decide +kernel
theorem dL_law_33 : decode cL_law 33 = .ok (.iload 4, 2) := by decide +kernel
theorem dL_law_35 : decode cL_law 35 = .ok (.bipush 16, 2) := by decide +kernel
theorem dL_law_37 : decode cL_law 37 = .ok (.idiv, 1) := by decide +kernel
theorem dL_law_38 : decode cL_law 38 = .ok (.bipush 8, 2) := by decide +kernel
theorem dL_law_40 : decode cL_law 40 = .ok (.irem, 1) := by decide +kernel
theorem dL_law_41 : decode cL_law 41 = .ok (.istore 5, 2) := by decide +kernel
theorem dL_law_43 : decode cL_law 43 = .ok (.iconst 1, 1) := by decide +kernel
theorem dL_law_44 : decode cL_law 44 = .ok (.iload 4, 2) := by decide +kernel
theorem dL_law_46 : decode cL_law 46 = .ok (.sipush 128, 3) := by decide +kernel
theorem dL_law_49 : decode cL_law 49 = .ok (.idiv, 1) := by decide +kernel
theorem dL_law_50 : decode cL_law 50 = .ok (.bipush 20, 2) := by decide +kernel
theorem dL_law_52 : decode cL_law 52 = .ok (.irem, 1) := by decide +kernel
theorem dL_law_53 : decode cL_law 53 = .ok (.iadd, 1) := by decide +kernel
theorem dL_law_54 : decode cL_law 54 = .ok (.istore 6, 2) := by decide +kernel
theorem dL_law_56 : decode cL_law 56 = .ok (.iload 4, 2) := by decide +kernel
theorem dL_law_58 : decode cL_law 58 = .ok (.bipush 16, 2) := by decide +kernel
theorem dL_law_60 : decode cL_law 60 = .ok (.irem, 1) := by decide +kernel
theorem dL_law_61 : decode cL_law 61 = .ok (.istore 7, 2) := by decide +kernel
theorem dL_law_63 : decode cL_law 63 = .ok (.iload 7, 2) := by decide +kernel
theorem dL_law_65 : decode cL_law 65 = .ok (.iconst 4, 1) := by decide +kernel
theorem dL_law_66 : decode cL_law 66 = .ok (.if_icmp .ge 30, 3) := by decide +kernel
theorem dL_law_69 : decode cL_law 69 = .ok (.aload_n 1, 1) := by decide +kernel
theorem dL_law_70 : decode cL_law 70 = .ok (.invokevirtual 33, 3) := by decide +kernel
theorem dL_law_73 : decode cL_law 73 = .ok (.ifCond .le 23, 3) := by decide +kernel
theorem dL_law_76 : decode cL_law 76 = .ok (.aload_n 1, 1) := by decide +kernel
theorem dL_law_77 : decode cL_law 77 = .ok (.iload 5, 2) := by decide +kernel
theorem dL_law_79 : decode cL_law 79 = .ok (.iload 6, 2) := by decide +kernel
theorem dL_law_81 : decode cL_law 81 = .ok (.invokevirtual 57, 3) := by decide +kernel
theorem dL_law_84 : decode cL_law 84 = .ok (.ifCond .le 7, 3) := by decide +kernel
theorem dL_law_87 : decode cL_law 87 = .ok (.iconst 1, 1) := by decide +kernel
theorem dL_law_88 : decode cL_law 88 = .ok (.goto 4, 3) := by decide +kernel
theorem dL_law_91 : decode cL_law 91 = .ok (.iconst 0, 1) := by decide +kernel
theorem dL_law_92 : decode cL_law 92 = .ok (.istore_n 2, 1) := by decide +kernel
theorem dL_law_93 : decode cL_law 93 = .ok (.goto 241, 3) := by decide +kernel
theorem dL_law_96 : decode cL_law 96 = .ok (.iload 7, 2) := by decide +kernel
theorem dL_law_98 : decode cL_law 98 = .ok (.bipush 8, 2) := by decide +kernel
theorem dL_law_100 : decode cL_law 100 = .ok (.if_icmp .ge 30, 3) := by decide +kernel
theorem dL_law_103 : decode cL_law 103 = .ok (.aload_n 1, 1) := by decide +kernel
theorem dL_law_104 : decode cL_law 104 = .ok (.iload 5, 2) := by decide +kernel
theorem dL_law_106 : decode cL_law 106 = .ok (.invokevirtual 51, 3) := by decide +kernel
theorem dL_law_109 : decode cL_law 109 = .ok (.ifCond .le 21, 3) := by decide +kernel
theorem dL_law_112 : decode cL_law 112 = .ok (.aload_n 1, 1) := by decide +kernel
theorem dL_law_113 : decode cL_law 113 = .ok (.iload 5, 2) := by decide +kernel
theorem dL_law_115 : decode cL_law 115 = .ok (.invokevirtual 64, 3) := by decide +kernel
theorem dL_law_118 : decode cL_law 118 = .ok (.ifCond .le 7, 3) := by decide +kernel
theorem dL_law_121 : decode cL_law 121 = .ok (.iconst 1, 1) := by decide +kernel
theorem dL_law_122 : decode cL_law 122 = .ok (.goto 4, 3) := by decide +kernel
theorem dL_law_125 : decode cL_law 125 = .ok (.iconst 0, 1) := by decide +kernel
theorem dL_law_126 : decode cL_law 126 = .ok (.istore_n 2, 1) := by decide +kernel
theorem dL_law_127 : decode cL_law 127 = .ok (.goto 207, 3) := by decide +kernel
theorem dL_law_130 : decode cL_law 130 = .ok (.iload 7, 2) := by decide +kernel
theorem dL_law_132 : decode cL_law 132 = .ok (.bipush 8, 2) := by decide +kernel
theorem dL_law_134 : decode cL_law 134 = .ok (.if_icmp .ne 65, 3) := by decide +kernel
theorem dL_law_137 : decode cL_law 137 = .ok (.aload_n 1, 1) := by decide +kernel
theorem dL_law_138 : decode cL_law 138 = .ok (.iload 5, 2) := by decide +kernel
theorem dL_law_140 : decode cL_law 140 = .ok (.invokevirtual 8, 3) := by decide +kernel
theorem dL_law_143 : decode cL_law 143 = .ok (.istore 8, 2) := by decide +kernel
theorem dL_law_145 : decode cL_law 145 = .ok (.aload_n 1, 1) := by decide +kernel
theorem dL_law_146 : decode cL_law 146 = .ok (.invokevirtual 48, 3) := by decide +kernel
theorem dL_law_149 : decode cL_law 149 = .ok (.istore 9, 2) := by decide +kernel
theorem dL_law_151 : decode cL_law 151 = .ok (.iload 4, 2) := by decide +kernel
theorem dL_law_153 : decode cL_law 153 = .ok (.iconst 3, 1) := by decide +kernel
theorem dL_law_154 : decode cL_law 154 = .ok (.irem, 1) := by decide +kernel
theorem dL_law_155 : decode cL_law 155 = .ok (.ifCond .gt 35, 3) := by decide +kernel
theorem dL_law_158 : decode cL_law 158 = .ok (.aload_n 1, 1) := by decide +kernel
theorem dL_law_159 : decode cL_law 159 = .ok (.iload 5, 2) := by decide +kernel
theorem dL_law_161 : decode cL_law 161 = .ok (.invokevirtual 79, 3) := by decide +kernel
theorem dL_law_164 : decode cL_law 164 = .ok (.iload 8, 2) := by decide +kernel
theorem dL_law_166 : decode cL_law 166 = .ok (.if_icmp .ne 28, 3) := by decide +kernel
theorem dL_law_169 : decode cL_law 169 = .ok (.aload_n 1, 1) := by decide +kernel
theorem dL_law_170 : decode cL_law 170 = .ok (.invokevirtual 48, 3) := by decide +kernel
theorem dL_law_173 : decode cL_law 173 = .ok (.iload 9, 2) := by decide +kernel
theorem dL_law_175 : decode cL_law 175 = .ok (.iload 8, 2) := by decide +kernel
theorem dL_law_177 : decode cL_law 177 = .ok (.iadd, 1) := by decide +kernel
theorem dL_law_178 : decode cL_law 178 = .ok (.if_icmp .ne 16, 3) := by decide +kernel
theorem dL_law_181 : decode cL_law 181 = .ok (.aload_n 1, 1) := by decide +kernel
theorem dL_law_182 : decode cL_law 182 = .ok (.iload 5, 2) := by decide +kernel
theorem dL_law_184 : decode cL_law 184 = .ok (.invokevirtual 8, 3) := by decide +kernel
theorem dL_law_187 : decode cL_law 187 = .ok (.ifCond .ne 7, 3) := by decide +kernel
theorem dL_law_190 : decode cL_law 190 = .ok (.iconst 1, 1) := by decide +kernel
theorem dL_law_191 : decode cL_law 191 = .ok (.goto 4, 3) := by decide +kernel
theorem dL_law_194 : decode cL_law 194 = .ok (.iconst 0, 1) := by decide +kernel
theorem dL_law_195 : decode cL_law 195 = .ok (.istore_n 2, 1) := by decide +kernel
theorem dL_law_196 : decode cL_law 196 = .ok (.goto 138, 3) := by decide +kernel
theorem dL_law_199 : decode cL_law 199 = .ok (.iload 7, 2) := by decide +kernel
theorem dL_law_201 : decode cL_law 201 = .ok (.bipush 9, 2) := by decide +kernel
theorem dL_law_203 : decode cL_law 203 = .ok (.if_icmp .ne 69, 3) := by decide +kernel
theorem dL_law_206 : decode cL_law 206 = .ok (.aload_n 1, 1) := by decide +kernel
theorem dL_law_207 : decode cL_law 207 = .ok (.invokevirtual 27, 3) := by decide +kernel
theorem dL_law_210 : decode cL_law 210 = .ok (.sipush 200, 3) := by decide +kernel
theorem dL_law_213 : decode cL_law 213 = .ok (.if_icmp .ge 59, 3) := by decide +kernel
theorem dL_law_216 : decode cL_law 216 = .ok (.aload_n 1, 1) := by decide +kernel
theorem dL_law_217 : decode cL_law 217 = .ok (.invokevirtual 27, 3) := by decide +kernel
theorem dL_law_220 : decode cL_law 220 = .ok (.istore 8, 2) := by decide +kernel
theorem dL_law_222 : decode cL_law 222 = .ok (.aload_n 1, 1) := by decide +kernel
theorem dL_law_223 : decode cL_law 223 = .ok (.invokevirtual 33, 3) := by decide +kernel
theorem dL_law_226 : decode cL_law 226 = .ok (.istore 9, 2) := by decide +kernel
theorem dL_law_228 : decode cL_law 228 = .ok (.aload_n 1, 1) := by decide +kernel
theorem dL_law_229 : decode cL_law 229 = .ok (.iload 8, 2) := by decide +kernel
theorem dL_law_231 : decode cL_law 231 = .ok (.iload 6, 2) := by decide +kernel
theorem dL_law_233 : decode cL_law 233 = .ok (.iadd, 1) := by decide +kernel
theorem dL_law_234 : decode cL_law 234 = .ok (.invokevirtual 82, 3) := by decide +kernel
theorem dL_law_237 : decode cL_law 237 = .ok (.iload 9, 2) := by decide +kernel
theorem dL_law_239 : decode cL_law 239 = .ok (.iload 6, 2) := by decide +kernel
theorem dL_law_241 : decode cL_law 241 = .ok (.iadd, 1) := by decide +kernel
theorem dL_law_242 : decode cL_law 242 = .ok (.if_icmp .ne 25, 3) := by decide +kernel
theorem dL_law_245 : decode cL_law 245 = .ok (.aload_n 1, 1) := by decide +kernel
theorem dL_law_246 : decode cL_law 246 = .ok (.aload_n 1, 1) := by decide +kernel
theorem dL_law_247 : decode cL_law 247 = .ok (.invokevirtual 24, 3) := by decide +kernel
theorem dL_law_250 : decode cL_law 250 = .ok (.iconst 1, 1) := by decide +kernel
theorem dL_law_251 : decode cL_law 251 = .ok (.isub, 1) := by decide +kernel
theorem dL_law_252 : decode cL_law 252 = .ok (.invokevirtual 18, 3) := by decide +kernel
theorem dL_law_255 : decode cL_law 255 = .ok (.iload 8, 2) := by decide +kernel
theorem dL_law_257 : decode cL_law 257 = .ok (.iload 6, 2) := by decide +kernel
theorem dL_law_259 : decode cL_law 259 = .ok (.iadd, 1) := by decide +kernel
theorem dL_law_260 : decode cL_law 260 = .ok (.if_icmp .ne 7, 3) := by decide +kernel
theorem dL_law_263 : decode cL_law 263 = .ok (.iconst 1, 1) := by decide +kernel
theorem dL_law_264 : decode cL_law 264 = .ok (.goto 4, 3) := by decide +kernel
theorem dL_law_267 : decode cL_law 267 = .ok (.iconst 0, 1) := by decide +kernel
theorem dL_law_268 : decode cL_law 268 = .ok (.istore_n 2, 1) := by decide +kernel
theorem dL_law_269 : decode cL_law 269 = .ok (.goto 65, 3) := by decide +kernel
theorem dL_law_272 : decode cL_law 272 = .ok (.iload 7, 2) := by decide +kernel
theorem dL_law_274 : decode cL_law 274 = .ok (.bipush 12, 2) := by decide +kernel
theorem dL_law_276 : decode cL_law 276 = .ok (.if_icmp .ge 15, 3) := by decide +kernel
theorem dL_law_279 : decode cL_law 279 = .ok (.aload_n 1, 1) := by decide +kernel
theorem dL_law_280 : decode cL_law 280 = .ok (.iload 5, 2) := by decide +kernel
theorem dL_law_282 : decode cL_law 282 = .ok (.iload 6, 2) := by decide +kernel
theorem dL_law_284 : decode cL_law 284 = .ok (.invokestatic 85, 3) := by decide +kernel
theorem dL_law_287 : decode cL_law 287 = .ok (.istore_n 2, 1) := by decide +kernel
theorem dL_law_288 : decode cL_law 288 = .ok (.goto 46, 3) := by decide +kernel
theorem dL_law_291 : decode cL_law 291 = .ok (.iload 7, 2) := by decide +kernel
theorem dL_law_293 : decode cL_law 293 = .ok (.bipush 14, 2) := by decide +kernel
theorem dL_law_295 : decode cL_law 295 = .ok (.if_icmp .ge 13, 3) := by decide +kernel
theorem dL_law_298 : decode cL_law 298 = .ok (.aload_n 1, 1) := by decide +kernel
theorem dL_law_299 : decode cL_law 299 = .ok (.iload 5, 2) := by decide +kernel
theorem dL_law_301 : decode cL_law 301 = .ok (.invokestatic 89, 3) := by decide +kernel
theorem dL_law_304 : decode cL_law 304 = .ok (.istore_n 2, 1) := by decide +kernel
theorem dL_law_305 : decode cL_law 305 = .ok (.goto 29, 3) := by decide +kernel
theorem dL_law_308 : decode cL_law 308 = .ok (.aload_n 1, 1) := by decide +kernel
theorem dL_law_309 : decode cL_law 309 = .ok (.iload 5, 2) := by decide +kernel
theorem dL_law_311 : decode cL_law 311 = .ok (.iload 5, 2) := by decide +kernel
theorem dL_law_313 : decode cL_law 313 = .ok (.iconst 1, 1) := by decide +kernel
theorem dL_law_314 : decode cL_law 314 = .ok (.iadd, 1) := by decide +kernel
theorem dL_law_315 : decode cL_law 315 = .ok (.iload 4, 2) := by decide +kernel
theorem dL_law_317 : decode cL_law 317 = .ok (.sipush 128, 3) := by decide +kernel
theorem dL_law_320 : decode cL_law 320 = .ok (.idiv, 1) := by decide +kernel
theorem dL_law_321 : decode cL_law 321 = .ok (.bipush 7, 2) := by decide +kernel
theorem dL_law_323 : decode cL_law 323 = .ok (.irem, 1) := by decide +kernel
theorem dL_law_324 : decode cL_law 324 = .ok (.iadd, 1) := by decide +kernel
theorem dL_law_325 : decode cL_law 325 = .ok (.bipush 8, 2) := by decide +kernel
theorem dL_law_327 : decode cL_law 327 = .ok (.irem, 1) := by decide +kernel
theorem dL_law_328 : decode cL_law 328 = .ok (.iload 6, 2) := by decide +kernel
theorem dL_law_330 : decode cL_law 330 = .ok (.invokestatic 93, 3) := by decide +kernel
theorem dL_law_333 : decode cL_law 333 = .ok (.istore_n 2, 1) := by decide +kernel
theorem dL_law_334 : decode cL_law 334 = .ok (.iload_n 2, 1) := by decide +kernel
theorem dL_law_335 : decode cL_law 335 = .ok (.ifCond .eq 21, 3) := by decide +kernel
theorem dL_law_338 : decode cL_law 338 = .ok (.aload_n 1, 1) := by decide +kernel
theorem dL_law_339 : decode cL_law 339 = .ok (.invokestatic 97, 3) := by decide +kernel
theorem dL_law_342 : decode cL_law 342 = .ok (.ifCond .eq 14, 3) := by decide +kernel
theorem dL_law_345 : decode cL_law 345 = .ok (.aload_n 1, 1) := by decide +kernel
theorem dL_law_346 : decode cL_law 346 = .ok (.invokestatic 101, 3) := by decide +kernel
theorem dL_law_349 : decode cL_law 349 = .ok (.ifCond .eq 7, 3) := by decide +kernel
theorem dL_law_352 : decode cL_law 352 = .ok (.iconst 1, 1) := by decide +kernel
theorem dL_law_353 : decode cL_law 353 = .ok (.goto 4, 3) := by decide +kernel
theorem dL_law_356 : decode cL_law 356 = .ok (.iconst 0, 1) := by decide +kernel
theorem dL_law_357 : decode cL_law 357 = .ok (.istore_n 2, 1) := by decide +kernel
theorem dL_law_358 : decode cL_law 358 = .ok (.iinc 3 1, 3) := by decide +kernel
theorem dL_law_361 : decode cL_law 361 = .ok (.goto (-349), 3) := by decide +kernel
theorem dL_law_364 : decode cL_law 364 = .ok (.iconst 0, 1) := by decide +kernel
theorem dL_law_365 : decode cL_law 365 = .ok (.istore_n 3, 1) := by decide +kernel
theorem dL_law_366 : decode cL_law 366 = .ok (.iload_n 3, 1) := by decide +kernel
theorem dL_law_367 : decode cL_law 367 = .ok (.bipush 8, 2) := by decide +kernel
theorem dL_law_369 : decode cL_law 369 = .ok (.if_icmp .ge 42, 3) := by decide +kernel
theorem dL_law_372 : decode cL_law 372 = .ok (.iload_n 2, 1) := by decide +kernel
theorem dL_law_373 : decode cL_law 373 = .ok (.ifCond .eq 38, 3) := by decide +kernel
theorem dL_law_376 : decode cL_law 376 = .ok (.iload_n 2, 1) := by decide +kernel
theorem dL_law_377 : decode cL_law 377 = .ok (.ifCond .eq 28, 3) := by decide +kernel
theorem dL_law_380 : decode cL_law 380 = .ok (.aload_n 1, 1) := by decide +kernel
theorem dL_law_381 : decode cL_law 381 = .ok (.iload_n 3, 1) := by decide +kernel
theorem dL_law_382 : decode cL_law 382 = .ok (.invokevirtual 51, 3) := by decide +kernel
theorem dL_law_385 : decode cL_law 385 = .ok (.ifCond .le 20, 3) := by decide +kernel
theorem dL_law_388 : decode cL_law 388 = .ok (.aload_n 1, 1) := by decide +kernel
theorem dL_law_389 : decode cL_law 389 = .ok (.iload_n 3, 1) := by decide +kernel
theorem dL_law_390 : decode cL_law 390 = .ok (.invokevirtual 64, 3) := by decide +kernel
theorem dL_law_393 : decode cL_law 393 = .ok (.ifCond .le 7, 3) := by decide +kernel
theorem dL_law_396 : decode cL_law 396 = .ok (.iconst 1, 1) := by decide +kernel
theorem dL_law_397 : decode cL_law 397 = .ok (.goto 4, 3) := by decide +kernel
theorem dL_law_400 : decode cL_law 400 = .ok (.iconst 0, 1) := by decide +kernel
theorem dL_law_401 : decode cL_law 401 = .ok (.istore_n 2, 1) := by decide +kernel
theorem dL_law_402 : decode cL_law 402 = .ok (.goto (-26), 3) := by decide +kernel
theorem dL_law_405 : decode cL_law 405 = .ok (.iinc 3 1, 3) := by decide +kernel
theorem dL_law_408 : decode cL_law 408 = .ok (.goto (-42), 3) := by decide +kernel
theorem dL_law_411 : decode cL_law 411 = .ok (.aload_n 1, 1) := by decide +kernel
theorem dL_law_412 : decode cL_law 412 = .ok (.invokevirtual 104, 3) := by decide +kernel
theorem dL_law_415 : decode cL_law 415 = .ok (.istore_n 3, 1) := by decide +kernel
theorem dL_law_416 : decode cL_law 416 = .ok (.iload_n 2, 1) := by decide +kernel
theorem dL_law_417 : decode cL_law 417 = .ok (.ifCond .eq 77, 3) := by decide +kernel
theorem dL_law_420 : decode cL_law 420 = .ok (.aload_n 1, 1) := by decide +kernel
theorem dL_law_421 : decode cL_law 421 = .ok (.invokevirtual 33, 3) := by decide +kernel
theorem dL_law_424 : decode cL_law 424 = .ok (.ifCond .ne 70, 3) := by decide +kernel
theorem dL_law_427 : decode cL_law 427 = .ok (.aload_n 1, 1) := by decide +kernel
theorem dL_law_428 : decode cL_law 428 = .ok (.invokevirtual 45, 3) := by decide +kernel
theorem dL_law_431 : decode cL_law 431 = .ok (.aload_n 1, 1) := by decide +kernel
theorem dL_law_432 : decode cL_law 432 = .ok (.invokevirtual 48, 3) := by decide +kernel
theorem dL_law_435 : decode cL_law 435 = .ok (.iadd, 1) := by decide +kernel
theorem dL_law_436 : decode cL_law 436 = .ok (.aload_n 1, 1) := by decide +kernel
theorem dL_law_437 : decode cL_law 437 = .ok (.invokevirtual 27, 3) := by decide +kernel
theorem dL_law_440 : decode cL_law 440 = .ok (.if_icmp .ne 54, 3) := by decide +kernel
theorem dL_law_443 : decode cL_law 443 = .ok (.aload_n 1, 1) := by decide +kernel
theorem dL_law_444 : decode cL_law 444 = .ok (.invokevirtual 107, 3) := by decide +kernel
theorem dL_law_447 : decode cL_law 447 = .ok (.iload_n 3, 1) := by decide +kernel
theorem dL_law_448 : decode cL_law 448 = .ok (.iconst 1, 1) := by decide +kernel
theorem dL_law_449 : decode cL_law 449 = .ok (.iadd, 1) := by decide +kernel
theorem dL_law_450 : decode cL_law 450 = .ok (.if_icmp .ne 44, 3) := by decide +kernel
theorem dL_law_453 : decode cL_law 453 = .ok (.aload_n 1, 1) := by decide +kernel
theorem dL_law_454 : decode cL_law 454 = .ok (.invokevirtual 24, 3) := by decide +kernel
theorem dL_law_457 : decode cL_law 457 = .ok (.iconst 1, 1) := by decide +kernel
theorem dL_law_458 : decode cL_law 458 = .ok (.if_icmp .ne 36, 3) := by decide +kernel
theorem dL_law_461 : decode cL_law 461 = .ok (.aload_n 1, 1) := by decide +kernel
theorem dL_law_462 : decode cL_law 462 = .ok (.iconst 0, 1) := by decide +kernel
theorem dL_law_463 : decode cL_law 463 = .ok (.invokevirtual 21, 3) := by decide +kernel
theorem dL_law_466 : decode cL_law 466 = .ok (.iconst 1, 1) := by decide +kernel
theorem dL_law_467 : decode cL_law 467 = .ok (.if_icmp .ne 27, 3) := by decide +kernel
theorem dL_law_470 : decode cL_law 470 = .ok (.aload_n 1, 1) := by decide +kernel
theorem dL_law_471 : decode cL_law 471 = .ok (.iconst 0, 1) := by decide +kernel
theorem dL_law_472 : decode cL_law 472 = .ok (.invokevirtual 18, 3) := by decide +kernel
theorem dL_law_475 : decode cL_law 475 = .ok (.aload_n 1, 1) := by decide +kernel
theorem dL_law_476 : decode cL_law 476 = .ok (.invokevirtual 27, 3) := by decide +kernel
theorem dL_law_479 : decode cL_law 479 = .ok (.if_icmp .ne 15, 3) := by decide +kernel
theorem dL_law_482 : decode cL_law 482 = .ok (.aload_n 1, 1) := by decide +kernel
theorem dL_law_483 : decode cL_law 483 = .ok (.invokevirtual 36, 3) := by decide +kernel
theorem dL_law_486 : decode cL_law 486 = .ok (.iconst 1, 1) := by decide +kernel
theorem dL_law_487 : decode cL_law 487 = .ok (.if_icmp .ne 7, 3) := by decide +kernel
theorem dL_law_490 : decode cL_law 490 = .ok (.iconst 1, 1) := by decide +kernel
theorem dL_law_491 : decode cL_law 491 = .ok (.goto 4, 3) := by decide +kernel
theorem dL_law_494 : decode cL_law 494 = .ok (.iconst 0, 1) := by decide +kernel
theorem dL_law_495 : decode cL_law 495 = .ok (.ireturn, 1) := by decide +kernel
end
section
/-! worlds, contracts' forms, calls: what all methods below use -/
/-- a pool of stretches: first, last, place, next by address -/
abbrev gS : Type := Nat → Nat × Nat × Int32 × Option Nat
def gE (S : gS) : Nat → va_E := fun a => .inr (0, [.int (nI (S a).1), .int (nI (S a).2.1), .int (S a).2.2.1, va_rf (S a).2.2.2])
def gWd (D : va_G) (tys : List (ClassId × FieldType)) (A : Nat → Prop) (w : va_W) (t : State) : Prop := va_P D vwCl w t.heap ∧ va_K D vwCl tys t ∧ va_D A w
theorem gE_get {X : va_W} {L : List Nat} {S : gS} {a f la : Nat} {pl : Int32} {nx : Option Nat} (hL : a ∈ L) (h : S a = (f, la, pl, nx)) : ∃ k : Nat, (X ++ va_pl L (gE S))[k]? = some (a, gE S a) ∧ (X ++ va_pl L (gE S))[k]? = some (a, .inr (0, [.int (nI f), .int (nI la), .int pl, va_rf nx])) := by
  obtain ⟨k, hk⟩ := va_pl_get (X := X) (f := gE S) hL
  refine ⟨k, hk, hk.trans ?_⟩
  unfold gE
  rw [h]
theorem gE_put {A : Nat → Prop} {X : va_W} {L : List Nat} {S : gS} {a k f la : Nat} {pl : Int32} {nx : Option Nat} (hD : va_D A (X ++ va_pl L (gE S))) (hL : a ∈ L) (hk : (X ++ va_pl L (gE S))[k]? = some (a, gE S a)) : (X ++ va_pl L (gE S)).set k (a, .inr (0, [.int (nI f), .int (nI la), .int pl, va_rf nx])) = X ++ va_pl L (gE (va_up S a (f, la, pl, nx))) := by
  rw [va_pl_set hD hL hk]
  refine congrArg (fun l => X ++ l) (va_pl_congr fun b => ?_)
  by_cases hb : b = a
  · subst hb
    rw [va_up_self]
    unfold gE
    rw [va_up_self]
  · rw [va_up_ne _ _ hb]
    unfold gE
    rw [va_up_ne _ _ hb]
theorem gE_new {X : va_W} {L : List Nat} {S : gS} {q : Nat} (hq : q ∉ L) : (X ++ va_pl L (gE S)) ++ [(q, .inr (0, [.int 0, .int 0, .int 0, .null]))] = X ++ va_pl (L ++ [q]) (gE (va_up S q (0, 0, 0, none))) := by
  rw [List.append_assoc, va_pl_push hq]
  refine congrArg (fun l => X ++ l) (va_pl_congr fun b => ?_)
  by_cases hb : b = q
  · subst hb
    rw [va_up_self]
    unfold gE
    rw [va_up_self]
    rfl
  · rw [va_up_ne _ _ hb]
    unfold gE
    rw [va_up_ne _ _ hb]
/-- links among nest mates -/
def gN (U : State) : Prop := (va_Nw (.fieldLinkNest RX1 90 "NumberGoblets$Stretch" "first" "I" "NumberGoblets") U ∧ va_Nw (.fieldLinkNest RX1 93 "NumberGoblets$Stretch" "last" "I" "NumberGoblets") U ∧ va_Nw (.fieldLinkNest RX1 96 "NumberGoblets$Stretch" "place" "I" "NumberGoblets") U ∧ va_Nw (.fieldLinkNest RX1 103 "NumberGoblets$Stretch" "next" "LNumberGoblets$Stretch;" "NumberGoblets") U) ∧ va_Nw (.methodLinkNest RX1 11 yX0_init "NumberGoblets") U ∧ va_Nw (.methodLinkNest RX1 99 yX0_length "NumberGoblets") U ∧ va_Nw (.methodLinkNest RX1 110 yX0_shortenTo "NumberGoblets") U ∧ va_Nw (.methodLinkNest RX1 116 yX0_absorbNextOnesOfSamePlace "NumberGoblets") U
theorem gN.warm {s U : State} (hW : s.WarmedH U.vm) (h : gN s) : gN U := by
  obtain ⟨⟨h1, h2, h3, h4⟩, h5, h6, h7, h8⟩ := h
  exact ⟨⟨h1.warmF hW, h2.warmF hW, h3.warmF hW, h4.warmF hW⟩, h5.warmM hW, h6.warmM hW, h7.warmM hW, h8.warmM hW⟩
/-- a contract's start: arguments, a world, and G -/
def gP (D : va_G) (tys : List (ClassId × FieldType)) (av : List Value) (w : va_W) (sz : Nat) (G : State → Prop) : Array Value → State → Prop := va_Pc av (fun U => U.heap.size = sz ∧ gWd D tys (fun _ => True) w U ∧ G U)
def gBl (G : State → Prop) : Prop := ∀ (U : State) (g : JFrame) (mk : MethodId) (a : Array Value), G U → G (U.calling g mk a)
theorem gBl_T : gBl (fun _ => True) := fun _ _ _ _ _ => trivial
theorem gBl_N : gBl gN := fun U g mk a h => gN.warm (s := U) (U := U.calling g mk a) (State.WarmedH.refl U) h
theorem gP_blind {D : va_G} {tys : List (ClassId × FieldType)} {av : List Value} {w : va_W} {sz : Nat} {G : State → Prop} (hG : gBl G) : FrameBlind (gP D tys av w sz G) := fun a U g mk q => by
  obtain ⟨q0, q1, ⟨qP, qK, qD⟩, qG⟩ := q
  exact ⟨q0, q1, ⟨qP, va_K.moved (u := U) (U := U.calling g mk a) (Vm.Alike.refl U.vm) qK, qD⟩, hG U g mk a qG⟩
section GCALL
variable {D : va_G} {tys : List (ClassId × FieldType)} {w : va_W} {G : State → Prop} {s : State} {H H0 : Heap} {A : Nat → Prop} {locs : List Loc}
theorem gP_V {C : String} {b : Nat} {As : List Value} (hr : ∃ cell : Cell, H[b]? = some cell ∧ cell.vm.isStatics = false ∧ s.vm.findClass C = some cell.cls) (hP : va_P D vwCl w H) (hK : va_K D vwCl tys s) (hD : va_D A w) (hB : gBl G) (hG : ∀ U : State, U.heap = H → s.WarmedH U.vm → G U) : PreV s H C b (gP D tys (.ref b :: As) w H.size G) As :=
  ⟨gP_blind hB, hr, fun U hU hW => ⟨rfl, by rw [hU], ⟨by rw [hU]; exact hP, va_K.moved hW.alike hK, hD.weaken (fun _ _ _ _ => trivial)⟩, hG U hU hW⟩⟩
theorem gP_S {As : List Value} (hP : va_P D vwCl w H) (hK : va_K D vwCl tys s) (hD : va_D A w) (hB : gBl G) (hG : ∀ U : State, U.heap = H → s.WarmedH U.vm → G U) : PreS s H (gP D tys As w H.size G) As :=
  ⟨gP_blind hB, fun U hU hW => ⟨rfl, by rw [hU], ⟨by rw [hU]; exact hP, va_K.moved hW.alike hK, hD.weaken (fun _ _ _ _ => trivial)⟩, hG U hU hW⟩⟩
theorem gA_sub (hD : va_D A w) (hS : va_S A H0 H locs) (hA : ∀ q, H0.size ≤ q → A q) : ∀ q, va_A w H.size q → A q := by
  intro q h
  rcases h with ⟨k, e, h⟩ | h
  · exact hD.2 k (q, e) h
  · exact hA q (Nat.le_trans hS.1 h)
end GCALL
section GW
variable {p : Program} {l : Launch} {e : Env} {R : Room} {s : State} {m : MethodId} {args : Array Value} {below : List Frame} {meth : Method} {c : Code} {H : Heap} {locs : List Loc} {cells slots : Nat} {Q : State → Prop}
variable {pc : Nat} {ls : Array Slot} {rest st0 : List Value} {a : Array Value} {A : Nat → Prop} {H0 : Heap} {mc ms : Nat} {D : va_G} {tys : List (ClassId × FieldType)} {w : va_W} {cc : ByteArray}
theorem g_calli {S : Type} {post : Int32 → S → Prop} {wo : S → va_W} (hr : va_Run p l e R s m args below meth c H locs cells slots mc ms (F0 m pc ls st0) rest (va_Qi post (fun u t => gWd D tys (va_A w H.size) (wo u) t) (va_A w H.size) a) (va_A w H.size)) (hD : va_D A w) (hS : va_S A H0 H locs) (hA : ∀ q, H0.size ≤ q → A q)
    (kk : ∀ (r : Int32) (u : S) (H1 : Heap) (locs1 : List Loc), post r u → va_P D vwCl (wo u) H1 → va_D A (wo u) → va_S A H0 H1 locs1 → W p l e R s m args below meth c H1 locs1 (cells + mc) (slots + ms) Q (F0 m (pc + 3) ls (.int r :: rest))) : W p l e R s m args below meth c H locs cells slots Q (F0 m pc ls st0) :=
  va_calli hr hS (fun q _ h => gA_sub hD hS hA q h) (gA_sub hD hS hA) (fun r u t H1 locs1 ht _ hp hB _ _ hS1 => kk r u H1 locs1 hp (by rw [← ht]; exact hB.1) (hB.2.2.weaken (fun _ q _ h => gA_sub hD hS hA q.1 h)) hS1)
theorem g_callv {S : Type} {post : S → Prop} {wo : S → va_W} (hr : va_Run p l e R s m args below meth c H locs cells slots mc ms (F0 m pc ls st0) rest (va_Qv post (fun u t => gWd D tys (va_A w H.size) (wo u) t) (va_A w H.size) a) (va_A w H.size)) (hD : va_D A w) (hS : va_S A H0 H locs) (hA : ∀ q, H0.size ≤ q → A q)
    (kk : ∀ (u : S) (H1 : Heap) (locs1 : List Loc), post u → va_P D vwCl (wo u) H1 → va_D A (wo u) → va_S A H0 H1 locs1 → W p l e R s m args below meth c H1 locs1 (cells + mc) (slots + ms) Q (F0 m (pc + 3) ls rest)) : W p l e R s m args below meth c H locs cells slots Q (F0 m pc ls st0) :=
  va_callv hr hS (fun q _ h => gA_sub hD hS hA q h) (gA_sub hD hS hA) (fun u t H1 locs1 ht _ hp hB _ _ hS1 => kk u H1 locs1 hp (by rw [← ht]; exact hB.1) (hB.2.2.weaken (fun _ q _ h => gA_sub hD hS hA q.1 h)) hS1)
theorem g_callq {S : Type} {post : Option Nat → S → Prop} {wo : S → va_W} (hr : va_Run p l e R s m args below meth c H locs cells slots mc ms (F0 m pc ls st0) rest (va_Qq post (fun u t => gWd D tys (va_A w H.size) (wo u) t) (va_A w H.size) a) (va_A w H.size)) (hD : va_D A w) (hS : va_S A H0 H locs) (hA : ∀ q, H0.size ≤ q → A q)
    (kk : ∀ (r : Option Nat) (u : S) (H1 : Heap) (locs1 : List Loc), post r u → va_P D vwCl (wo u) H1 → va_D A (wo u) → va_S A H0 H1 locs1 → W p l e R s m args below meth c H1 locs1 (cells + mc) (slots + ms) Q (F0 m (pc + 3) ls (va_rf r :: rest))) : W p l e R s m args below meth c H locs cells slots Q (F0 m pc ls st0) :=
  va_callq hr hS (fun q _ h => gA_sub hD hS hA q h) (gA_sub hD hS hA) (fun r u t H1 locs1 ht _ hp hB _ _ hS1 => kk r u H1 locs1 hp (by rw [← ht]; exact hB.1) (hB.2.2.weaken (fun _ q _ h => gA_sub hD hS hA q.1 h)) hS1)
/-- a method's end -/
theorem g_reti {S : Type} {post : Int32 → S → Prop} {wo : S → va_W} (hx : p.tables.exec = Jvm.exec) (hb : c.code = cc) (hr : meth.sig.returnType = some .int) (hlocks : meth.locks = false) (hK : va_K D vwCl tys s) (r : Int32) (u : S) (hP : va_P D vwCl (wo u) H) (hD : va_D (va_A w s.heap.size) (wo u)) (hS : va_S (va_A w s.heap.size) s.heap H locs) (hc : cells ≤ mc) (hs : slots ≤ ms) (hp : post r u) (hdg : decode cc pc = .ok (.ireturn, 1)) :
    W p l e R s m args below meth c H locs cells slots (MQ below (va_Qi post (fun u t => gWd D tys (va_A w s.heap.size) (wo u) t) (va_A w s.heap.size)) args s mc ms (va_A w s.heap.size)) (F0 m pc ls [.int r]) :=
  W.widen hc hs (W.iret hx hb hr (fun t ht hW => ⟨⟨r, u, rfl, hp, by rw [ht]; exact hP, va_K.moved hW.alike hK, hD⟩, hS.F ht⟩) hS.2.2 hdg hlocks)
theorem g_retz {S : Type} {post : Int32 → S → Prop} {wo : S → va_W} (hx : p.tables.exec = Jvm.exec) (hb : c.code = cc) (hr : meth.sig.returnType = some .boolean) (hlocks : meth.locks = false) (hK : va_K D vwCl tys s) (r : Int32) (hn : narrow .boolean (.int r) = .int r) (u : S) (hP : va_P D vwCl (wo u) H) (hD : va_D (va_A w s.heap.size) (wo u)) (hS : va_S (va_A w s.heap.size) s.heap H locs) (hc : cells ≤ mc) (hs : slots ≤ ms) (hp : post r u) (hdg : decode cc pc = .ok (.ireturn, 1)) :
    W p l e R s m args below meth c H locs cells slots (MQ below (va_Qi post (fun u t => gWd D tys (va_A w s.heap.size) (wo u) t) (va_A w s.heap.size)) args s mc ms (va_A w s.heap.size)) (F0 m pc ls [.int r]) :=
  W.widen hc hs (W.zret hx hb hr hn (fun t ht hW => ⟨⟨r, u, rfl, hp, by rw [ht]; exact hP, va_K.moved hW.alike hK, hD⟩, hS.F ht⟩) hS.2.2 hdg hlocks)
theorem g_retv {S : Type} {post : S → Prop} {wo : S → va_W} (hx : p.tables.exec = Jvm.exec) (hb : c.code = cc) (hr : meth.sig.returnType = none) (hlocks : meth.locks = false) (hK : va_K D vwCl tys s) (u : S) (hP : va_P D vwCl (wo u) H) (hD : va_D (va_A w s.heap.size) (wo u)) (hS : va_S (va_A w s.heap.size) s.heap H locs) (hc : cells ≤ mc) (hs : slots ≤ ms) (hp : post u) (hdg : decode cc pc = .ok (.return_, 1)) :
    W p l e R s m args below meth c H locs cells slots (MQ below (va_Qv post (fun u t => gWd D tys (va_A w s.heap.size) (wo u) t) (va_A w s.heap.size)) args s mc ms (va_A w s.heap.size)) (F0 m pc ls []) :=
  W.widen hc hs (W.vret hx hb hr (fun t ht hW => ⟨⟨u, rfl, hp, by rw [ht]; exact hP, va_K.moved hW.alike hK, hD⟩, hS.F ht⟩) hS.2.2 hdg hlocks)
theorem g_retq {S : Type} {post : Option Nat → S → Prop} {wo : S → va_W} {n : String} (hx : p.tables.exec = Jvm.exec) (hb : c.code = cc) (hr : meth.sig.returnType = some (.object n)) (hlocks : meth.locks = false) (hK : va_K D vwCl tys s) (r : Option Nat) (u : S) (hP : va_P D vwCl (wo u) H) (hD : va_D (va_A w s.heap.size) (wo u)) (hS : va_S (va_A w s.heap.size) s.heap H locs) (hc : cells ≤ mc) (hs : slots ≤ ms) (hp : post r u) (hdg : decode cc pc = .ok (.areturn, 1)) :
    W p l e R s m args below meth c H locs cells slots (MQ below (va_Qq post (fun u t => gWd D tys (va_A w s.heap.size) (wo u) t) (va_A w s.heap.size)) args s mc ms (va_A w s.heap.size)) (F0 m pc ls [va_rf r]) :=
  W.widen hc hs (W.aret hx hb hr (Or.inl ⟨n, rfl⟩) (va_rf_or r) (fun t ht hW => ⟨⟨r, u, rfl, hp, by rw [ht]; exact hP, va_K.moved hW.alike hK, hD⟩, hS.F ht⟩) hS.2.2 hdg hlocks)
/-- references that may be null -/
theorem lq_aload_n (hexec : p.tables.exec = Jvm.exec) (hb : c.code = cc) {k : Fin 4} {i : Nat} {x : Option Nat} (hdg : decode cc pc = .ok (.aload_n k, 1)) (hi : (k : Nat) = i) (hl : ls[i]? = some (.val (va_rf x)))
    (kk : W p l e R s m args below meth c H locs cells slots Q (F0 m (pc + 1) ls (va_rf x :: rest))) : W p l e R s m args below meth c H locs cells slots Q (F0 m pc ls rest) := by
  cases x with
  | none => exact lv_aload_nN hexec hb hdg hi hl kk
  | some x => exact lv_aload_n hexec hb hdg hi hl kk
theorem lq_aload (hexec : p.tables.exec = Jvm.exec) (hb : c.code = cc) {i : Nat} {x : Option Nat} (hdg : decode cc pc = .ok (.aload i, 2)) (hl : ls[i]? = some (.val (va_rf x)))
    (kk : W p l e R s m args below meth c H locs cells slots Q (F0 m (pc + 2) ls (va_rf x :: rest))) : W p l e R s m args below meth c H locs cells slots Q (F0 m pc ls rest) := by
  cases x with
  | none => exact lv_aloadN hexec hb hdg hl kk
  | some x => exact lv_aload hexec hb hdg hl kk
theorem lq_astore_n (hexec : p.tables.exec = Jvm.exec) (hb : c.code = cc) {k : Fin 4} {i nL : Nat} {x : Option Nat} {lv lv' : List (Nat × Value)} (hdg : decode cc pc = .ok (.astore_n k, 1)) (hi : (k : Nat) = i) (h : lv_has ls nL lv) (hn : i < nL) (hl : (i, va_rf x) :: lv.filter (fun q => !(q.1 == i) && !(q.1 + 1 == i && q.2.category == 2)) = lv')
    (kk : ∀ ls' : Array Slot, lv_has ls' nL lv' → W p l e R s m args below meth c H locs cells slots Q (F0 m (pc + 1) ls' rest)) : W p l e R s m args below meth c H locs cells slots Q (F0 m pc ls (va_rf x :: rest)) := by
  cases x with
  | none => exact lv_astore_nN hexec hb hdg hi h hn hl kk
  | some x => exact lv_astore_n hexec hb hdg hi h hn hl kk
theorem lq_astore (hexec : p.tables.exec = Jvm.exec) (hb : c.code = cc) {i nL : Nat} {x : Option Nat} {lv lv' : List (Nat × Value)} (hdg : decode cc pc = .ok (.astore i, 2)) (h : lv_has ls nL lv) (hn : i < nL) (hl : (i, va_rf x) :: lv.filter (fun q => !(q.1 == i) && !(q.1 + 1 == i && q.2.category == 2)) = lv')
    (kk : ∀ ls' : Array Slot, lv_has ls' nL lv' → W p l e R s m args below meth c H locs cells slots Q (F0 m (pc + 2) ls' rest)) : W p l e R s m args below meth c H locs cells slots Q (F0 m pc ls (va_rf x :: rest)) := by
  cases x with
  | none => exact lv_astoreN hexec hb hdg h hn hl kk
  | some x => exact lv_astore hexec hb hdg h hn hl kk
theorem lq_ifnull (hexec : p.tables.exec = Jvm.exec) (hb : c.code = cc) {x : Option Nat} {off : Int} {tgt : Nat} (hdg : decode cc pc = .ok (.ifnull off, 3)) (ht : (pc : Int) + off = (tgt : Int)) (kt : x = none → W p l e R s m args below meth c H locs cells slots Q (F0 m tgt ls rest)) (kf : ∀ y, x = some y → W p l e R s m args below meth c H locs cells slots Q (F0 m (pc + 3) ls rest)) : W p l e R s m args below meth c H locs cells slots Q (F0 m pc ls (va_rf x :: rest)) := by
  cases x with
  | none => exact lv_ifnullN hexec hb hdg ht (kt rfl)
  | some x => exact lv_ifnull hexec hb hdg (kf x rfl)
theorem lq_ifnonnull (hexec : p.tables.exec = Jvm.exec) (hb : c.code = cc) {x : Option Nat} {off : Int} {tgt : Nat} (hdg : decode cc pc = .ok (.ifnonnull off, 3)) (ht : (pc : Int) + off = (tgt : Int)) (kt : ∀ y, x = some y → W p l e R s m args below meth c H locs cells slots Q (F0 m tgt ls rest)) (kf : x = none → W p l e R s m args below meth c H locs cells slots Q (F0 m (pc + 3) ls rest)) : W p l e R s m args below meth c H locs cells slots Q (F0 m pc ls (va_rf x :: rest)) := by
  cases x with
  | none => exact lv_ifnonnullN hexec hb hdg (kf rfl)
  | some x => exact lv_ifnonnull hexec hb hdg ht (kt x rfl)
end GW
/-- a contract out of a walk of its body -/
theorem g_ofW {l : Launch} {y : MethodName} {ws ws' : List Cond} {rm : Room} {D : va_G} {tys : List (ClassId × FieldType)} {av : List Value} {w : va_W} {sz : Nat} {G : State → Prop} {Qc : Array Value → State → Outcome → State → Prop} {mc ms : Nat} {cc : ByteArray} {maxL : Nat} {ret : Option FieldType}
    (hy : plainName y.cls = true) (hw : ws = Cond.code y cc maxL ret :: ws') (hn : (lg_sl av).length ≤ maxL)
    (body : ∀ (p : Program) (e : Env) (s : State) (m : MethodId) (below : List Frame) (meth : Method) (c : Code), p.tables.exec = Jvm.exec → c.code = cc → meth.sig.returnType = ret → c.maxLocals = maxL → (∀ w ∈ ws, w.before av.toArray s = true) → s.vm.findClass y.cls = some m.cls → meth.locks = false → meth.name = y.name → s.heap.size = sz → va_P D vwCl w s.heap → va_K D vwCl tys s → va_D (va_A w s.heap.size) w → (∀ q : Nat, s.heap.size ≤ q → va_A w s.heap.size q) → va_S (va_A w s.heap.size) s.heap s.heap [] → G s →
      ∀ ls : Array Slot, lv_has ls maxL (lv_args 0 av) → W p l e rm s m av.toArray below meth c s.heap [] 0 0 (MQ below Qc av.toArray s mc ms (va_A w sz)) (F0 m 0 ls [])) : Met l y ws rm (gP D tys av w sz G) Qc mc ms (va_A w sz) := by
  refine Met.ofW (cc := cc) (maxL := maxL) (ret := ret) hy hw ?_
  intro p e s m args below meth c s₁ B hml hv
  obtain ⟨rfl, hsz, ⟨hP, hK, hD0⟩, hG⟩ := hv
  have hl := lv_entry av (n := maxL) hn
  rw [lg_entry_eq]
  exact body p e s m below meth c B.exec B.bytes B.returns hml (atoms_spec (ws := ws) B.pre) (findClass_of_methodNamed B.named) B.notSynchronized (name_of_methodNamed B.named B.method).1 hsz hP hK hD0.self (fun q h => Or.inr h) va_S.rf hG _ hl
end
section
/-! numbers and their places: P n is the place of n; counting, ranges -/
def gct (P : Nat → Int32) (p : Int32) : Nat → Nat
  | 0 => 0
  | n + 1 => gct P p n + if P (n + 1) = p then 1 else 0
theorem gct_yes {P : Nat → Int32} {p : Int32} {n : Nat} (h : P (n + 1) = p) : gct P p (n + 1) = gct P p n + 1 := by simp [gct, h]
theorem gct_no {P : Nat → Int32} {p : Int32} {n : Nat} (h : ¬ P (n + 1) = p) : gct P p (n + 1) = gct P p n := by simp [gct, h]
theorem gct_le (P : Nat → Int32) (p : Int32) : ∀ n, gct P p n ≤ n
  | 0 => Nat.le_refl _
  | n + 1 => by
    have h := gct_le P p n
    by_cases q : P (n + 1) = p
    · rw [gct_yes q]; omega
    · rw [gct_no q]; omega
theorem gct_run {P : Nat → Int32} {p : Int32} {m : Nat} : ∀ d : Nat, (∀ j, m < j → j ≤ m + d → P j = p) → gct P p (m + d) = gct P p m + d
  | 0, _ => rfl
  | d + 1, h => by
    have h1 := gct_run (P := P) (p := p) (m := m) d (fun j a b => h j a (by omega))
    rw [← Nat.add_assoc, gct_yes (h (m + d + 1) (by omega) (by omega)), h1]
    omega
theorem gct_skip {P : Nat → Int32} {p : Int32} {m : Nat} : ∀ d : Nat, (∀ j, m < j → j ≤ m + d → ¬ P j = p) → gct P p (m + d) = gct P p m
  | 0, _ => rfl
  | d + 1, h => by
    have h1 := gct_skip (P := P) (p := p) (m := m) d (fun j a b => h j a (by omega))
    rw [← Nat.add_assoc, gct_no (h (m + d + 1) (by omega) (by omega)), h1]
theorem gct_mono (P : Nat → Int32) (p : Int32) {m : Nat} : ∀ d : Nat, gct P p m ≤ gct P p (m + d)
  | 0 => Nat.le_refl _
  | d + 1 => by
    have h1 := gct_mono P p (m := m) d
    rw [← Nat.add_assoc]
    by_cases q : P (m + d + 1) = p
    · rw [gct_yes q]; omega
    · rw [gct_no q]; omega
theorem gct_mono' (P : Nat → Int32) (p : Int32) {m n : Nat} (h : m ≤ n) : gct P p m ≤ gct P p n := by
  have := gct_mono P p (m := m) (n - m)
  rwa [show m + (n - m) = n by omega] at this
theorem gct_cong {P Q : Nat → Int32} {p q : Int32} : ∀ n : Nat, (∀ j, 1 ≤ j → j ≤ n → (P j = p ↔ Q j = q)) → gct P p n = gct Q q n
  | 0, _ => rfl
  | n + 1, h => by
    have h1 := gct_cong (P := P) (Q := Q) (p := p) (q := q) n (fun j a b => h j a (by omega))
    have h2 := h (n + 1) (by omega) (by omega)
    by_cases z : P (n + 1) = p
    · rw [gct_yes z, gct_yes (h2.mp z), h1]
    · rw [gct_no z, gct_no (fun w => z (h2.mpr w)), h1]
/-- a run of p from k to m -/
theorem gct_to {P : Nat → Int32} {p : Int32} {k m : Nat} (hk : 1 ≤ k) (hm : k ≤ m) (h : ∀ j, k ≤ j → j ≤ m → P j = p) : gct P p m = gct P p (k - 1) + (m - k + 1) := by
  have := gct_run (P := P) (p := p) (m := k - 1) (m - k + 1) (fun j a b => h j (by omega) (by omega))
  rwa [show k - 1 + (m - k + 1) = m by omega] at this
theorem gct_past {P : Nat → Int32} {p : Int32} {k m : Nat} (hm : k ≤ m + 1) (h : ∀ j, k ≤ j → j ≤ m → ¬ P j = p) : gct P p m = gct P p (k - 1) := by
  rcases Nat.eq_zero_or_pos k with q | q
  · subst q
    have := gct_skip (P := P) (p := p) (m := 0) m (fun j a b => h j (by omega) (by omega))
    rwa [Nat.zero_add] at this
  · have := gct_skip (P := P) (p := p) (m := k - 1) (m + 1 - k) (fun j a b => h j (by omega) (by omega))
    rwa [show k - 1 + (m + 1 - k) = m by omega] at this
/-- how many ranges of p begin, or end, among the numbers up to n -/
def gbg (P : Nat → Int32) (p : Int32) : Nat → Nat
  | 0 => 0
  | n + 1 => gbg P p n + if P (n + 1) = p ∧ ¬ P n = p then 1 else 0
def gen (P : Nat → Int32) (p : Int32) : Nat → Nat
  | 0 => 0
  | n + 1 => gen P p n + if P (n + 1) = p ∧ ¬ P (n + 2) = p then 1 else 0
theorem gbg_yes {P : Nat → Int32} {p : Int32} {n : Nat} (h : P (n + 1) = p ∧ ¬ P n = p) : gbg P p (n + 1) = gbg P p n + 1 := by simp [gbg, h]
theorem gbg_no {P : Nat → Int32} {p : Int32} {n : Nat} (h : ¬ (P (n + 1) = p ∧ ¬ P n = p)) : gbg P p (n + 1) = gbg P p n := by simp [gbg, h]
theorem gen_yes {P : Nat → Int32} {p : Int32} {n : Nat} (h : P (n + 1) = p ∧ ¬ P (n + 2) = p) : gen P p (n + 1) = gen P p n + 1 := by simp [gen, h]
theorem gen_no {P : Nat → Int32} {p : Int32} {n : Nat} (h : ¬ (P (n + 1) = p ∧ ¬ P (n + 2) = p)) : gen P p (n + 1) = gen P p n := by simp [gen, h]
theorem gbg_le (P : Nat → Int32) (p : Int32) : ∀ n, gbg P p n ≤ n
  | 0 => Nat.le_refl _
  | n + 1 => by
    have h := gbg_le P p n
    by_cases q : P (n + 1) = p ∧ ¬ P n = p
    · rw [gbg_yes q]; omega
    · rw [gbg_no q]; omega
theorem gen_le (P : Nat → Int32) (p : Int32) : ∀ n, gen P p n ≤ n
  | 0 => Nat.le_refl _
  | n + 1 => by
    have h := gen_le P p n
    by_cases q : P (n + 1) = p ∧ ¬ P (n + 2) = p
    · rw [gen_yes q]; omega
    · rw [gen_no q]; omega
theorem gbg_same {P : Nat → Int32} {p : Int32} {m : Nat} : ∀ d : Nat, (∀ j, m < j → j ≤ m + d → ¬ (P j = p ∧ ¬ P (j - 1) = p)) → gbg P p (m + d) = gbg P p m
  | 0, _ => rfl
  | d + 1, h => by
    have h1 := gbg_same (P := P) (p := p) (m := m) d (fun j a b => h j a (by omega))
    rw [← Nat.add_assoc, gbg_no (h (m + d + 1) (by omega) (by omega)), h1]
theorem gen_same {P : Nat → Int32} {p : Int32} {m : Nat} : ∀ d : Nat, (∀ j, m < j → j ≤ m + d → ¬ (P j = p ∧ ¬ P (j + 1) = p)) → gen P p (m + d) = gen P p m
  | 0, _ => rfl
  | d + 1, h => by
    have h1 := gen_same (P := P) (p := p) (m := m) d (fun j a b => h j a (by omega))
    rw [← Nat.add_assoc, gen_no (h (m + d + 1) (by omega) (by omega)), h1]
theorem gbg_mono (P : Nat → Int32) (p : Int32) {m : Nat} : ∀ d : Nat, gbg P p m ≤ gbg P p (m + d)
  | 0 => Nat.le_refl _
  | d + 1 => by
    have h1 := gbg_mono P p (m := m) d
    rw [← Nat.add_assoc]
    by_cases q : P (m + d + 1) = p ∧ ¬ P (m + d) = p
    · rw [gbg_yes q]; omega
    · rw [gbg_no q]; omega
theorem gen_mono (P : Nat → Int32) (p : Int32) {m : Nat} : ∀ d : Nat, gen P p m ≤ gen P p (m + d)
  | 0 => Nat.le_refl _
  | d + 1 => by
    have h1 := gen_mono P p (m := m) d
    rw [← Nat.add_assoc]
    by_cases q : P (m + d + 1) = p ∧ ¬ P (m + d + 2) = p
    · rw [gen_yes q]; omega
    · rw [gen_no q]; omega
/-- a stretch k to m of p, with another place before it: one more range begins -/
theorem gbg_to {P : Nat → Int32} {p : Int32} {k m : Nat} (hk : 1 ≤ k) (hm : k ≤ m) (h : ∀ j, k ≤ j → j ≤ m → P j = p) (h0 : ¬ P (k - 1) = p) : gbg P p m = gbg P p (k - 1) + 1 := by
  have h1 : gbg P p k = gbg P p (k - 1) + 1 := by
    have := gbg_yes (P := P) (p := p) (n := k - 1) ⟨by rw [show k - 1 + 1 = k by omega]; exact h k (by omega) hm, h0⟩
    rwa [show k - 1 + 1 = k by omega] at this
  have h2 := gbg_same (P := P) (p := p) (m := k) (m - k) (fun j a b q => q.2 (h (j - 1) (by omega) (by omega)))
  rw [show k + (m - k) = m by omega] at h2
  rw [h2, h1]
theorem gbg_past {P : Nat → Int32} {p : Int32} {k m : Nat} (hk : 1 ≤ k) (hm : k ≤ m + 1) (h : ∀ j, k ≤ j → j ≤ m → ¬ P j = p) : gbg P p m = gbg P p (k - 1) := by
  have := gbg_same (P := P) (p := p) (m := k - 1) (m + 1 - k) (fun j a b q => h j (by omega) (by omega) q.1)
  rwa [show k - 1 + (m + 1 - k) = m by omega] at this
theorem gen_to {P : Nat → Int32} {p : Int32} {k m : Nat} (hk : 1 ≤ k) (hm : k ≤ m) (h : ∀ j, k ≤ j → j ≤ m → P j = p) (h0 : ¬ P (m + 1) = p) : gen P p m = gen P p (k - 1) + 1 ∧ gen P p (m - 1) = gen P p (k - 1) := by
  have h2 := gen_same (P := P) (p := p) (m := k - 1) (m - k) (fun j a b q => q.2 (h (j + 1) (by omega) (by omega)))
  rw [show k - 1 + (m - k) = m - 1 by omega] at h2
  have h1 : gen P p m = gen P p (m - 1) + 1 := by
    have := gen_yes (P := P) (p := p) (n := m - 1) ⟨by rw [show m - 1 + 1 = m by omega]; exact h m (by omega) (by omega), by rw [show m - 1 + 2 = m + 1 by omega]; exact h0⟩
    rwa [show m - 1 + 1 = m by omega] at this
  exact ⟨by rw [h1, h2], h2⟩
theorem gen_past {P : Nat → Int32} {p : Int32} {k m : Nat} (hk : 1 ≤ k) (hm : k ≤ m + 1) (h : ∀ j, k ≤ j → j ≤ m → ¬ P j = p) : gen P p m = gen P p (k - 1) := by
  have := gen_same (P := P) (p := p) (m := k - 1) (m + 1 - k) (fun j a b q => h j (by omega) (by omega) q.1)
  rwa [show k - 1 + (m + 1 - k) = m by omega] at this
/-- v is the lowest number up to n of which p holds; 0 for none -/
def glow (q : Nat → Prop) (n v : Nat) : Prop := (v = 0 ∧ ∀ j, 1 ≤ j → j ≤ n → ¬ q j) ∨ (1 ≤ v ∧ v ≤ n ∧ q v ∧ ∀ j, 1 ≤ j → j < v → ¬ q j)
theorem glow_one {q : Nat → Prop} {n v w : Nat} (h : glow q n v) (h2 : glow q n w) : v = w := by
  rcases h with ⟨a, b⟩ | ⟨a1, a2, a3, a4⟩ <;> rcases h2 with ⟨c, d⟩ | ⟨c1, c2, c3, c4⟩
  · rw [a, c]
  · exact absurd c3 (b w c1 c2)
  · exact absurd a3 (d v a1 a2)
  · rcases Nat.lt_trichotomy v w with z | z | z
    · exact absurd a3 (c4 v a1 z)
    · exact z
    · exact absurd c3 (a4 w c1 z)
theorem glow_le {q : Nat → Prop} {n v : Nat} (h : glow q n v) : v ≤ n := by
  rcases h with ⟨a, b⟩ | ⟨a1, a2, a3, a4⟩
  · omega
  · exact a2
/-! the chain of stretches -/
def gch (L : List Nat) (S : gS) : Option Nat → List (Nat × Nat × Int32) → Prop
  | x, [] => x = none
  | x, d :: r => ∃ (a : Nat) (nx : Option Nat), x = some a ∧ a ∈ L ∧ S a = (d.1, d.2.1, d.2.2, nx) ∧ gch L S nx r
/-- they cover k to 5000 by rising numbers, and tell P -/
def gwf (P : Nat → Int32) : Nat → List (Nat × Nat × Int32) → Prop
  | k, [] => k = 5001
  | k, d :: r => d.1 = k ∧ k ≤ d.2.1 ∧ d.2.1 ≤ 5000 ∧ (∀ j, k ≤ j → j ≤ d.2.1 → P j = d.2.2) ∧ gwf P (d.2.1 + 1) r
/-- no two neighbours have one place -/
def gmx (P : Nat → Int32) : List (Nat × Nat × Int32) → Prop
  | [] => True
  | d :: r => (d.1 = 1 ∨ ¬ P (d.1 - 1) = d.2.2) ∧ gmx P r
theorem gwf_cong {P P' : Nat → Int32} : ∀ (g : List (Nat × Nat × Int32)) (k : Nat), gwf P k g → (∀ j, k ≤ j → j ≤ 5000 → P' j = P j) → gwf P' k g
  | [], _, h, _ => h
  | d :: r, k, h, hj => by
    obtain ⟨h1, h2, h3, h4, h5⟩ := h
    exact ⟨h1, h2, h3, fun j a b => (hj j a (by omega)).trans (h4 j a b), gwf_cong r (d.2.1 + 1) h5 (fun j a b => hj j (by omega) b)⟩
theorem gwf_le {P : Nat → Int32} : ∀ {g : List (Nat × Nat × Int32)} {k : Nat}, gwf P k g → k ≤ 5001
  | [], k, h => by have h : k = 5001 := h; omega
  | d :: r, k, h => by obtain ⟨h1, h2, h3, -⟩ := h; omega
/-- what isn't of the chain may change -/
theorem gch_frame {P : Nat → Int32} {L L' : List Nat} {S S' : gS} : ∀ (g : List (Nat × Nat × Int32)) (k : Nat) (x : Option Nat), gwf P k g → (∀ b ∈ L, k ≤ (S b).1 → b ∈ L' ∧ S' b = S b) → gch L S x g → gch L' S' x g
  | [], _, _, _, _, h => h
  | d :: r, k, x, hw, hf, h => by
    obtain ⟨h1, h2, h3, h4, h5⟩ := hw
    obtain ⟨a, nx, e1, e2, e3, e4⟩ := h
    obtain ⟨f1, f2⟩ := hf a e2 (by rw [e3]; show k ≤ d.1; omega)
    exact ⟨a, nx, e1, f1, by rw [f2]; exact e3, gch_frame r (d.2.1 + 1) nx h5 (fun b hb hk => hf b hb (by omega)) e4⟩
/-- some numbers move: of those at 'from', in their order, 'stay' stay, the next 'cnt' go -/
def gmv (P : Nat → Int32) (fr to : Int32) (stay cnt : Nat) : Nat → Int32 := fun j => if P j = fr ∧ stay < gct P fr j ∧ gct P fr j ≤ stay + cnt then to else P j
theorem gmv_in {P : Nat → Int32} {fr to : Int32} {stay cnt j : Nat} (h : P j = fr) (h1 : stay < gct P fr j) (h2 : gct P fr j ≤ stay + cnt) : gmv P fr to stay cnt j = to := by unfold gmv; rw [if_pos ⟨h, h1, h2⟩]
theorem gmv_out {P : Nat → Int32} {fr to : Int32} {stay cnt j : Nat} (h : ¬ P j = fr ∨ gct P fr j ≤ stay ∨ stay + cnt < gct P fr j) : gmv P fr to stay cnt j = P j := by
  unfold gmv
  rw [if_neg (fun q => by rcases h with z | z | z; exact z q.1; omega; omega)]
end
section
/-! the methods of Stretch -/
theorem g_nar {n : String} (x : Option Nat) : narrow (.object n) (va_rf x) = va_rf x := by cases x <;> rfl
theorem g_fit {n : String} (x : Option Nat) : fits (.object n) (va_rf x) = true := by cases x <;> rfl
theorem g_eqP {D : va_G} {H : Heap} {w1 w2 : va_W} (h : w1 = w2) (hd : va_P D vwCl w1 H) : va_P D vwCl w2 H := h ▸ hd
theorem g_eqD {A : Nat → Prop} {w1 w2 : va_W} (h : w1 = w2) (hd : va_D A w1) : va_D A w2 := h ▸ hd
theorem g_fresh {A : Nat → Prop} {X : va_W} {L : List Nat} {f : Nat → va_E} {q : Nat} {e : va_E} (hD : va_D A ((X ++ va_pl L f) ++ [(q, e)])) : q ∉ L := by
  intro h
  obtain ⟨k, hk⟩ := va_pl_get (X := X) (f := f) h
  have hl := (List.getElem?_eq_some_iff.mp hk).1
  have h2 : ((X ++ va_pl L f) ++ [(q, e)])[k]? = some (q, f q) := by rw [List.getElem?_append_left hl]; exact hk
  have h3 : ((X ++ va_pl L f) ++ [(q, e)])[(X ++ va_pl L f).length]? = some (q, e) := by rw [List.getElem?_append_right (Nat.le_refl _), Nat.sub_self]; rfl
  have := hD.1 _ _ _ _ h2 h3 rfl
  omega
section GTOP
variable {p : Program} {l : Launch} {e : Env} {R : Room} {s : State} {m : MethodId} {args : Array Value} {below : List Frame} {meth : Method} {c : Code} {H : Heap} {locs : List Loc} {cells slots : Nat} {Q : State → Prop} {pc : Nat} {ls : Array Slot} {rest : List Value}
theorem g_top {x y : Int32} (h : x = y) (k : W p l e R s m args below meth c H locs cells slots Q (F0 m pc ls (.int y :: rest))) : W p l e R s m args below meth c H locs cells slots Q (F0 m pc ls (.int x :: rest)) := by rw [h]; exact k
end GTOP
theorem i0_init : ∀ w ∈ u_ws RX0 TX0 4, w ∈ wsX0_init := by decide +kernel
theorem i0_length : ∀ w ∈ u_ws RX0 TX0 4, w ∈ wsX0_length := by decide +kernel
theorem i0_shortenTo : ∀ w ∈ u_ws RX0 TX0 4, w ∈ wsX0_shortenTo := by decide +kernel
theorem i0_absorb : ∀ w ∈ u_ws RX0 TX0 4, w ∈ wsX0_absorbNextOnesOfSamePlace := by decide +kernel
set_option maxHeartbeats 4000000 in
set_option maxRecDepth 100000 in
/-- length(): last - first + 1 -/
theorem c_len (l : Launch) (D : va_G) (tys : List (ClassId × FieldType)) (X : va_W) (L : List Nat) (S : gS) (sz : Nat) {a f la : Nat} {pl : Int32} {nx : Option Nat} (hL : a ∈ L) (hSa : S a = (f, la, pl, nx)) (hf : f ≤ la) : Met l yX0_length wsX0_length ({ frames := 0, cells := 0, slots := 0, locals := 0 }) (gP D tys [.ref a] (X ++ va_pl L (gE S)) sz (fun _ => True)) (va_Qi (fun (r : Int32) (_ : Unit) => r = nI (la - f + 1)) (fun _ t => gWd D tys (va_A (X ++ va_pl L (gE S)) sz) (X ++ va_pl L (gE S)) t) (va_A (X ++ va_pl L (gE S)) sz)) 0 0 (va_A (X ++ va_pl L (gE S)) sz) := by
  refine g_ofW (cc := cX0_length) (maxL := 1) (ret := some .int) (by decide) rfl (Nat.le_of_ble_eq_true rfl) ?_
  intro p e s m below meth c hx hb hr hml hts hown hlocks hin hsz hP hK hD hA hS hG ls hl
  subst hsz
  have hown : s.vm.findClass RX0 = some m.cls := hown
  have hl : lv_has ls 1 [(0, .ref a)] := hl
  have hi0 := i0_length
  have f_first := hts (.fieldLink RX0 7 "NumberGoblets$Stretch" "first" "I") (by decide +kernel)
  have f_last := hts (.fieldLink RX0 13 "NumberGoblets$Stretch" "last" "I") (by decide +kernel)
  obtain ⟨k, hk0, hk⟩ := gE_get (X := X) hL hSa
  refine lv_aload_n hx hb dX0_length_0 rfl (lv_at hl 0 rfl) ?_
  refine va_get (D := D) (ci := 0) (v := .int (nI la)) (C := RX0) (T := TX0) (N := 4) hx hb hts hi0 hown hK hP k hk rfl 1 (by decide) f_last (fun _ h9 => h9) rfl dX0_length_1 ?_
  refine lv_aload_n hx hb dX0_length_4 rfl (lv_at hl 0 rfl) ?_
  refine va_get (D := D) (ci := 0) (v := .int (nI f)) (C := RX0) (T := TX0) (N := 4) hx hb hts hi0 hown hK hP k hk rfl 0 (by decide) f_first (fun _ h9 => h9) rfl dX0_length_5 ?_
  refine lv_isub hx hb dX0_length_8 ?_
  refine g_top (y := nI (la - f)) (pk_sub hf) ?_
  refine lv_iconst (v := 1) hx hb dX0_length_9 (by decide) ?_
  refine lv_iadd hx hb dX0_length_10 ?_
  refine g_top (y := nI (la - f + 1)) (nI_1 _) ?_
  exact g_reti hx hb hr hlocks hK _ () hP hD hS (Nat.le_refl _) (Nat.le_refl _) rfl dX0_length_11
set_option maxHeartbeats 4000000 in
set_option maxRecDepth 100000 in
/-- Stretch(first, last, place, next) -/
theorem c_Sinit (l : Launch) (D : va_G) (tys : List (ClassId × FieldType)) (X : va_W) (L : List Nat) (S : gS) (sz : Nat) {a f0 l0 : Nat} {p0 : Int32} {n0 : Option Nat} (hL : a ∈ L) (hSa : S a = (f0, l0, p0, n0)) (f la : Nat) (pl : Int32) (nx : Option Nat) : Met l yX0_init wsX0_init ({ frames := 1, cells := 0, slots := 0, locals := 12 }) (gP D tys [.ref a, .int (nI f), .int (nI la), .int pl, va_rf nx] (X ++ va_pl L (gE S)) sz (fun _ => True)) (va_Qv (fun _ : Unit => True) (fun _ t => gWd D tys (va_A (X ++ va_pl L (gE S)) sz) (X ++ va_pl L (gE (va_up S a (f, la, pl, nx)))) t) (va_A (X ++ va_pl L (gE S)) sz)) 0 0 (va_A (X ++ va_pl L (gE S)) sz) := by
  refine g_ofW (cc := cX0_init) (maxL := 5) (ret := none) (by decide) rfl (by cases nx <;> exact Nat.le_of_ble_eq_true rfl) ?_
  intro p e s m below meth c hx hb hr hml hts hown hlocks hin hsz hP hK hD hA hS hG ls hl
  subst hsz
  have hown : s.vm.findClass RX0 = some m.cls := hown
  have hin : meth.name = "<init>" := hin
  have hl : lv_has ls 5 [(0, .ref a), (1, .int (nI f)), (2, .int (nI la)), (3, .int pl), (4, va_rf nx)] := hl
  have hi0 := i0_init
  have f_first := hts (.fieldLink RX0 7 "NumberGoblets$Stretch" "first" "I") (by decide +kernel)
  have f_last := hts (.fieldLink RX0 13 "NumberGoblets$Stretch" "last" "I") (by decide +kernel)
  have f_place := hts (.fieldLink RX0 16 "NumberGoblets$Stretch" "place" "I") (by decide +kernel)
  have f_next := hts (.fieldLink RX0 19 "NumberGoblets$Stretch" "next" "LNumberGoblets$Stretch;") (by decide +kernel)
  refine lv_aload_n hx hb dX0_init_0 rfl (lv_at hl 0 rfl) ?_
  refine W.objInit hx hb hown (hts (.methodLink RX0 1 objectInit) (by decide +kernel)) (hts (.instanceMethod objectInit) (by decide +kernel)) (hts _ (List.mem_cons_of_mem _ (List.mem_append_left _ (List.mem_of_getElem? (i := 2) rfl)))) rfl (by rw [hml]; exact hl.1) rfl dX0_init_1 (Nat.le_of_ble_eq_true rfl) (Nat.le_of_ble_eq_true rfl) ?_
  refine W.eq (g2 := F0 m 4 ls []) rfl ?_
  obtain ⟨k0, hk0, hk⟩ := gE_get (X := X) hL hSa
  refine lv_aload_n hx hb dX0_init_4 rfl (lv_at hl 0 rfl) ?_
  refine lv_iload_n hx hb dX0_init_5 rfl (lv_at hl 1 rfl) ?_
  have hw := gE_put (f := f) (la := l0) (pl := p0) (nx := n0) hD hL hk0
  refine va_putF (D := D) (ci := 0) (v := .int (nI f)) (ty := .int) (C := RX0) (T := TX0) (N := 4) hx hb hts hi0 tyX0 tyX0_ok nmX0 hown hK hP hD hS k0 hk rfl 0 (by decide) f_first (fun _ h9 => h9) rfl hin rfl (by decide +kernel) rfl rfl (Nat.le_of_ble_eq_true rfl) dX0_init_6 (fun H locs hP2 hD2 hS => ?_)
  have hP := g_eqP hw hP2
  have hD := g_eqD hw hD2
  obtain ⟨k1, hk0, hk⟩ := gE_get (X := X) (S := (va_up S a (f, l0, p0, n0))) hL (va_up_self _ _ _)
  refine lv_aload_n hx hb dX0_init_9 rfl (lv_at hl 0 rfl) ?_
  refine lv_iload_n hx hb dX0_init_10 rfl (lv_at hl 2 rfl) ?_
  have hw := gE_put (f := f) (la := la) (pl := p0) (nx := n0) hD hL hk0
  refine va_put (D := D) (ci := 0) (v := .int (nI la)) (ty := .int) (C := RX0) (T := TX0) (N := 4) hx hb hts hi0 tyX0 tyX0_ok nmX0 hown hK hP hD hS k1 hk rfl 1 (by decide) f_last (fun _ h9 => h9) rfl (by decide +kernel) rfl rfl (Nat.le_of_ble_eq_true rfl) dX0_init_11 (fun H locs hP2 hD2 hS => ?_)
  have hP := g_eqP hw hP2
  have hD := g_eqD hw hD2
  rw [bx_uu] at hP hD
  obtain ⟨k2, hk0, hk⟩ := gE_get (X := X) (S := (va_up S a (f, la, p0, n0))) hL (va_up_self _ _ _)
  refine lv_aload_n hx hb dX0_init_14 rfl (lv_at hl 0 rfl) ?_
  refine lv_iload_n hx hb dX0_init_15 rfl (lv_at hl 3 rfl) ?_
  have hw := gE_put (f := f) (la := la) (pl := pl) (nx := n0) hD hL hk0
  refine va_put (D := D) (ci := 0) (v := .int pl) (ty := .int) (C := RX0) (T := TX0) (N := 4) hx hb hts hi0 tyX0 tyX0_ok nmX0 hown hK hP hD hS k2 hk rfl 2 (by decide) f_place (fun _ h9 => h9) rfl (by decide +kernel) rfl rfl (Nat.le_of_ble_eq_true rfl) dX0_init_16 (fun H locs hP2 hD2 hS => ?_)
  have hP := g_eqP hw hP2
  have hD := g_eqD hw hD2
  rw [bx_uu] at hP hD
  obtain ⟨k3, hk0, hk⟩ := gE_get (X := X) (S := (va_up S a (f, la, pl, n0))) hL (va_up_self _ _ _)
  refine lv_aload_n hx hb dX0_init_19 rfl (lv_at hl 0 rfl) ?_
  refine lq_aload hx hb dX0_init_20 (lv_at hl 4 rfl) ?_
  have hw := gE_put (f := f) (la := la) (pl := pl) (nx := nx) hD hL hk0
  refine va_put (D := D) (ci := 0) (v := va_rf nx) (ty := .object "NumberGoblets$Stretch") (C := RX0) (T := TX0) (N := 4) hx hb hts hi0 tyX0 tyX0_ok nmX0 hown hK hP hD hS k3 hk rfl 3 (by decide) f_next (fun _ h9 => h9) rfl (by decide +kernel) (g_nar nx) (g_fit nx) (Nat.le_of_ble_eq_true rfl) dX0_init_22 (fun H locs hP2 hD2 hS => ?_)
  have hP := g_eqP hw hP2
  have hD := g_eqD hw hD2
  rw [bx_uu] at hP hD
  exact g_retv hx hb hr hlocks hK () hP hD hS (Nat.le_refl _) (Nat.le_refl _) trivial dX0_init_25
set_option maxHeartbeats 4000000 in
set_option maxRecDepth 100000 in
/-- shortenTo(most), where it is no longer than that -/
theorem c_shortA (l : Launch) (D : va_G) (tys : List (ClassId × FieldType)) (X : va_W) (L : List Nat) (S : gS) (sz : Nat) {a f la mo : Nat} {pl : Int32} {nx : Option Nat} (hL : a ∈ L) (hSa : S a = (f, la, pl, nx)) (hf : f ≤ la) (hm : mo < 2 ^ 31) (hle : la - f + 1 ≤ mo) : Met l yX0_shortenTo wsX0_shortenTo ({ frames := 1, cells := 0, slots := 0, locals := 20 }) (gP D tys [.ref a, .int (nI mo)] (X ++ va_pl L (gE S)) sz (fun _ => True)) (va_Qv (fun _ : Unit => True) (fun _ t => gWd D tys (va_A (X ++ va_pl L (gE S)) sz) (X ++ va_pl L (gE S)) t) (va_A (X ++ va_pl L (gE S)) sz)) 0 0 (va_A (X ++ va_pl L (gE S)) sz) := by
  refine g_ofW (cc := cX0_shortenTo) (maxL := 3) (ret := none) (by decide) rfl (Nat.le_of_ble_eq_true rfl) ?_
  intro p e s m below meth c hx hb hr hml hts hown hlocks hin hsz hP hK hD hA hS hG ls hl
  subst hsz
  have hown : s.vm.findClass RX0 = some m.cls := hown
  have hl : lv_has ls 3 [(0, .ref a), (1, .int (nI mo))] := hl
  obtain ⟨k, hk0, hk⟩ := gE_get (X := X) hL hSa
  refine lv_aload_n hx hb dX0_shortenTo_0 rfl (lv_at hl 0 rfl) ?_
  refine g_calli (va_runV (As := []) (rest := []) ⟨hx, hb, hml, hown, hts⟩ (c_len l D tys X L S s.heap.size hL hSa hf) (cwV 0 hts gX0_shortenTo_X0_length rfl rfl rfl (by decide +kernel) ⟨Nat.le_of_ble_eq_true rfl, Nat.le_of_ble_eq_true rfl⟩) (gP_V (va_recv hK hP (ci := 0) rfl hk) hP hK hD gBl_T (fun _ _ _ => trivial)) rfl rfl hl.1 rfl (lv_room (Nat.le_of_ble_eq_true rfl)) dX0_shortenTo_1 ⟨(Nat.zero_le _), (Nat.zero_le _)⟩) hD hS hA (fun r u H locs hr1 hP hD hS => ?_)
  subst hr1
  refine lv_iload_n hx hb dX0_shortenTo_4 rfl (lv_at hl 1 rfl) ?_
  refine lv_icmp_le (tgt := 48) hx hb dX0_shortenTo_5 (by decide) (fun c1 => ?_) (fun c1 => ?_)
  · exact g_retv hx hb hr hlocks hK () hP hD hS (Nat.le_refl _) (Nat.le_refl _) trivial dX0_shortenTo_48
  · exact absurd (nI_le hle hm) c1
set_option maxHeartbeats 4000000 in
set_option maxRecDepth 100000 in
/-- shortenTo(most), where it is longer: the others become a new stretch behind it -/
theorem c_shortB (l : Launch) (D : va_G) (tys : List (ClassId × FieldType)) (X : va_W) (L : List Nat) (S : gS) (sz : Nat) {a f la mo : Nat} {pl : Int32} {nx : Option Nat} (hL : a ∈ L) (hSa : S a = (f, la, pl, nx)) (hf : f ≤ la) (hm : 1 ≤ mo) (hle : mo < la - f + 1) (hla : la < 2 ^ 30) : Met l yX0_shortenTo wsX0_shortenTo ({ frames := 2, cells := 1, slots := 4, locals := 36 }) (gP D tys [.ref a, .int (nI mo)] (X ++ va_pl L (gE S)) sz (fun _ => True)) (va_Qv (fun q : Nat => q ∉ L) (fun q t => gWd D tys (va_A (X ++ va_pl L (gE S)) sz) (X ++ va_pl (L ++ [q]) (gE (va_up (va_up S q (f + mo, la, pl, nx)) a (f, f + mo - 1, pl, some q)))) t) (va_A (X ++ va_pl L (gE S)) sz)) 1 4 (va_A (X ++ va_pl L (gE S)) sz) := by
  refine g_ofW (cc := cX0_shortenTo) (maxL := 3) (ret := none) (by decide) rfl (Nat.le_of_ble_eq_true rfl) ?_
  intro p e s m below meth c hx hb hr hml hts hown hlocks hin hsz hP hK hD hA hS hG ls hl
  subst hsz
  have hown : s.vm.findClass RX0 = some m.cls := hown
  have hl : lv_has ls 3 [(0, .ref a), (1, .int (nI mo))] := hl
  have hi0 := i0_shortenTo
  have f_first := hts (.fieldLink RX0 7 "NumberGoblets$Stretch" "first" "I") (by decide +kernel)
  have f_last := hts (.fieldLink RX0 13 "NumberGoblets$Stretch" "last" "I") (by decide +kernel)
  have f_place := hts (.fieldLink RX0 16 "NumberGoblets$Stretch" "place" "I") (by decide +kernel)
  have f_next := hts (.fieldLink RX0 19 "NumberGoblets$Stretch" "next" "LNumberGoblets$Stretch;") (by decide +kernel)
  obtain ⟨k, hk0, hk⟩ := gE_get (X := X) hL hSa
  refine lv_aload_n hx hb dX0_shortenTo_0 rfl (lv_at hl 0 rfl) ?_
  refine g_calli (va_runV (As := []) (rest := []) ⟨hx, hb, hml, hown, hts⟩ (c_len l D tys X L S s.heap.size hL hSa hf) (cwV 0 hts gX0_shortenTo_X0_length rfl rfl rfl (by decide +kernel) ⟨Nat.le_of_ble_eq_true rfl, Nat.le_of_ble_eq_true rfl⟩) (gP_V (va_recv hK hP (ci := 0) rfl hk) hP hK hD gBl_T (fun _ _ _ => trivial)) rfl rfl hl.1 rfl (lv_room (Nat.le_of_ble_eq_true rfl)) dX0_shortenTo_1 ⟨(Nat.zero_le _), (Nat.zero_le _)⟩) hD hS hA (fun r u H locs hr1 hP hD hS => ?_)
  subst hr1
  refine lv_iload_n hx hb dX0_shortenTo_4 rfl (lv_at hl 1 rfl) ?_
  refine lv_icmp_le (tgt := 48) hx hb dX0_shortenTo_5 (by decide) (fun c1 => ?_) (fun c1 => ?_)
  · exact absurd c1 (nI_ge hle (by omega))
  · skip
    refine lv_aload_n hx hb dX0_shortenTo_8 rfl (lv_at hl 0 rfl) ?_
    refine va_get (D := D) (ci := 0) (v := .int (nI f)) (C := RX0) (T := TX0) (N := 4) hx hb hts hi0 hown hK hP k hk rfl 0 (by decide) f_first (fun _ h9 => h9) rfl dX0_shortenTo_9 ?_
    refine lv_iload_n hx hb dX0_shortenTo_12 rfl (lv_at hl 1 rfl) ?_
    refine lv_iadd hx hb dX0_shortenTo_13 ?_
    refine g_top (y := nI (f + mo)) (nI_add _ _) ?_
    refine lv_iconst (v := 1) hx hb dX0_shortenTo_14 (by decide) ?_
    refine lv_isub hx hb dX0_shortenTo_15 ?_
    refine g_top (y := nI (f + mo - 1)) (by rw [show (1 : Int32) = nI 1 from rfl]; exact pk_sub (by omega)) ?_
    refine lv_istore_n (lv' := [(2, .int (nI (f + mo - 1))), (0, .ref a), (1, .int (nI mo))]) hx hb dX0_shortenTo_16 rfl hl (by decide) rfl (fun ls hl => ?_)
    refine lv_aload_n hx hb dX0_shortenTo_17 rfl (lv_at hl 1 rfl) ?_
    refine va_new (ci := 0) (fs := [.int 0, .int 0, .int 0, .null]) (C := RX0) (T := TX0) (N := 4) hx hb hts hi0 tyX0 tyX0_ok hown (hts (.classLink RX0 8 RX0) (by decide +kernel)) (hts (.instantiable RX0 4) (by decide +kernel)) (hts (.initialized RX0) (by decide +kernel)) hK hP hD hS hA rfl (fun j hj => by rcases (show j = 0 ∨ j = 1 ∨ j = 2 ∨ j = 3 by omega) with rfl | rfl | rfl | rfl <;> rfl) (Nat.le_of_ble_eq_true rfl) (Nat.le_of_ble_eq_true rfl) dX0_shortenTo_18 (fun q H hP hD hS => ?_)
    have hq : q ∉ L := g_fresh hD
    have hqa : a ≠ q := fun z => hq (z ▸ hL)
    rw [gE_new hq] at hP hD
    have hSa1 : (va_up S q (0, 0, 0, none)) a = (f, la, pl, nx) := by rw [va_up_ne _ _ hqa]; exact hSa
    have hL1 : a ∈ L ++ [q] := List.mem_append_left _ hL
    have hq1 : q ∈ L ++ [q] := List.mem_append_right _ (List.mem_singleton.mpr rfl)
    obtain ⟨k2, hk20, hk2⟩ := gE_get (X := X) hL1 hSa1
    refine lv_dup hx hb dX0_shortenTo_21 rfl ?_
    refine lv_iload_n hx hb dX0_shortenTo_22 rfl (lv_at hl 0 rfl) ?_
    refine lv_iconst (v := 1) hx hb dX0_shortenTo_23 (by decide) ?_
    refine lv_iadd hx hb dX0_shortenTo_24 ?_
    refine g_top (y := nI (f + mo)) (by rw [nI_1, show f + mo - 1 + 1 = f + mo by omega]) ?_
    refine lv_aload_n hx hb dX0_shortenTo_25 rfl (lv_at hl 1 rfl) ?_
    refine va_get (D := D) (ci := 0) (v := .int (nI la)) (C := RX0) (T := TX0) (N := 4) hx hb hts hi0 hown hK hP k2 hk2 rfl 1 (by decide) f_last (fun _ h9 => h9) rfl dX0_shortenTo_26 ?_
    refine lv_aload_n hx hb dX0_shortenTo_29 rfl (lv_at hl 1 rfl) ?_
    refine va_get (D := D) (ci := 0) (v := .int pl) (C := RX0) (T := TX0) (N := 4) hx hb hts hi0 hown hK hP k2 hk2 rfl 2 (by decide) f_place (fun _ h9 => h9) rfl dX0_shortenTo_30 ?_
    refine lv_aload_n hx hb dX0_shortenTo_33 rfl (lv_at hl 1 rfl) ?_
    refine va_get (D := D) (ci := 0) (v := va_rf nx) (C := RX0) (T := TX0) (N := 4) hx hb hts hi0 hown hK hP k2 hk2 rfl 3 (by decide) f_next (fun _ h9 => h9) rfl dX0_shortenTo_34 ?_
    refine g_callv (va_runI (As := [.int (nI (f + mo)), .int (nI la), .int pl, va_rf nx]) (rest := [.ref q, .ref a]) ⟨hx, hb, hml, hown, hts⟩ (c_Sinit l D tys X (L ++ [q]) (va_up S q (0, 0, 0, none)) H.size hq1 (va_up_self _ _ _) (f + mo) la pl nx) (cwI 4 hts gX0_shortenTo_X0_init rfl rfl rfl (hts (.initialized RX0) (by decide +kernel)) (hts (.methodLink RX0 27 yX0_init) (by decide +kernel)) (hts (.instanceMethod yX0_init) (by decide +kernel)) rfl (by decide +kernel) ⟨Nat.le_of_ble_eq_true rfl, Nat.le_of_ble_eq_true rfl⟩) (gP_S hP hK hD gBl_T (fun _ _ _ => trivial)) rfl rfl hl.1 rfl (lv_room (Nat.le_of_ble_eq_true rfl)) dX0_shortenTo_37 ⟨Nat.le_of_ble_eq_true rfl, Nat.le_of_ble_eq_true rfl⟩) hD hS hA (fun u H locs _ hP hD hS => ?_)
    rw [bx_uu] at hP hD
    have hSa2 : (va_up S q (f + mo, la, pl, nx)) a = (f, la, pl, nx) := by rw [va_up_ne _ _ hqa]; exact hSa
    obtain ⟨k3, hk30, hk3⟩ := gE_get (X := X) hL1 hSa2
    have hw := gE_put (f := f) (la := la) (pl := pl) (nx := some q) hD hL1 hk30
    refine va_put (D := D) (ci := 0) (v := .ref q) (ty := .object "NumberGoblets$Stretch") (C := RX0) (T := TX0) (N := 4) hx hb hts hi0 tyX0 tyX0_ok nmX0 hown hK hP hD hS k3 hk3 rfl 3 (by decide) f_next (fun _ h9 => h9) rfl (by decide +kernel) rfl rfl (Nat.le_of_ble_eq_true rfl) dX0_shortenTo_40 (fun H locs hP2 hD2 hS => ?_)
    have hP := g_eqP hw hP2
    have hD := g_eqD hw hD2
    obtain ⟨k4, hk40, hk4⟩ := gE_get (X := X) (S := va_up (va_up S q (f + mo, la, pl, nx)) a (f, la, pl, some q)) hL1 (va_up_self _ _ _)
    refine lv_aload_n hx hb dX0_shortenTo_43 rfl (lv_at hl 1 rfl) ?_
    refine lv_iload_n hx hb dX0_shortenTo_44 rfl (lv_at hl 0 rfl) ?_
    have hw := gE_put (f := f) (la := f + mo - 1) (pl := pl) (nx := some q) hD hL1 hk40
    refine va_put (D := D) (ci := 0) (v := .int (nI (f + mo - 1))) (ty := .int) (C := RX0) (T := TX0) (N := 4) hx hb hts hi0 tyX0 tyX0_ok nmX0 hown hK hP hD hS k4 hk4 rfl 1 (by decide) f_last (fun _ h9 => h9) rfl (by decide +kernel) rfl rfl (Nat.le_of_ble_eq_true rfl) dX0_shortenTo_45 (fun H locs hP2 hD2 hS => ?_)
    rw [bx_uu] at hw
    have hP := g_eqP hw hP2
    have hD := g_eqD hw hD2
    exact g_retv hx hb hr hlocks hK q hP hD hS (Nat.le_of_ble_eq_true rfl) (Nat.le_of_ble_eq_true rfl) hq dX0_shortenTo_48
set_option maxHeartbeats 4000000 in
set_option maxRecDepth 100000 in
/-- absorbNextOnesOfSamePlace(): its loop, from its head to the end -/
theorem absorb_loop {p : Program} {l : Launch} {e : Env} {s : State} {m : MethodId} {args : Array Value} {below : List Frame} {meth : Method} {c : Code} {D : va_G} {tys : List (ClassId × FieldType)} {X : va_W} {L : List Nat} {S0 : gS} {P : Nat → Int32} {a f : Nat} {pl : Int32} {nx0 : Option Nat} {R : Room} (hL : a ∈ L) (hx : p.tables.exec = Jvm.exec) (hb : c.code = cX0_absorbNextOnesOfSamePlace) (hr : meth.sig.returnType = none) (hts : ∀ w ∈ wsX0_absorbNextOnesOfSamePlace, w.before args s = true) (hown : s.vm.findClass RX0 = some m.cls) (hlocks : meth.locks = false) (hK : va_K D vwCl tys s) :
    ∀ (n la : Nat) (r : List (Nat × Nat × Int32)) (y : Option Nat) (H : Heap) (locs : List Loc) (ls : Array Slot), 5001 - la < n → gwf P f ((f, la, pl) :: r) → gch L (va_up S0 a (f, la, pl, nx0)) y r → va_P D vwCl (X ++ va_pl L (gE (va_up S0 a (f, la, pl, nx0)))) H → va_D (va_A (X ++ va_pl L (gE S0)) s.heap.size) (X ++ va_pl L (gE (va_up S0 a (f, la, pl, nx0)))) → va_S (va_A (X ++ va_pl L (gE S0)) s.heap.size) s.heap H locs → lv_has ls 2 [(0, .ref a), (1, va_rf y)] →
    W p l e R s m args below meth c H locs 0 0 (MQ below (va_Qv (fun u : Nat × Option Nat => ∃ r', gch L (va_up S0 a (f, u.1, pl, u.2)) u.2 r' ∧ gwf P f ((f, u.1, pl) :: r') ∧ (r' = [] ∨ ¬ P (u.1 + 1) = pl)) (fun u t => gWd D tys (va_A (X ++ va_pl L (gE S0)) s.heap.size) (X ++ va_pl L (gE (va_up S0 a (f, u.1, pl, u.2)))) t) (va_A (X ++ va_pl L (gE S0)) s.heap.size)) args s 0 0 (va_A (X ++ va_pl L (gE S0)) s.heap.size)) (F0 m 5 ls []) := by
  have hi0 := i0_absorb
  have f_last := hts (.fieldLink RX0 13 "NumberGoblets$Stretch" "last" "I") (by decide +kernel)
  have f_place := hts (.fieldLink RX0 16 "NumberGoblets$Stretch" "place" "I") (by decide +kernel)
  have f_next := hts (.fieldLink RX0 19 "NumberGoblets$Stretch" "next" "LNumberGoblets$Stretch;") (by decide +kernel)
  intro n
  induction n with
  | zero => intro la r y H locs ls hn; exact absurd hn (Nat.not_lt_zero _)
  | succ n ih =>
    intro la r y H locs ls hn hw0 hch hP hD hS hl
    obtain ⟨k, hk0, hk⟩ := gE_get (X := X) (S := va_up S0 a (f, la, pl, nx0)) hL (va_up_self _ _ _)
    obtain ⟨z1, z2, z3, z4, z5⟩ := hw0
    have hend : (r = [] ∨ ¬ P (la + 1) = pl) → W p l e R s m args below meth c H locs 0 0 (MQ below (va_Qv (fun u : Nat × Option Nat => ∃ r', gch L (va_up S0 a (f, u.1, pl, u.2)) u.2 r' ∧ gwf P f ((f, u.1, pl) :: r') ∧ (r' = [] ∨ ¬ P (u.1 + 1) = pl)) (fun u t => gWd D tys (va_A (X ++ va_pl L (gE S0)) s.heap.size) (X ++ va_pl L (gE (va_up S0 a (f, u.1, pl, u.2)))) t) (va_A (X ++ va_pl L (gE S0)) s.heap.size)) args s 0 0 (va_A (X ++ va_pl L (gE S0)) s.heap.size)) (F0 m 36 ls []) := by
      intro hfin
      refine lv_aload_n hx hb dX0_absorbNextOnesOfSamePlace_36 rfl (lv_at hl 0 rfl) ?_
      refine lq_aload_n hx hb dX0_absorbNextOnesOfSamePlace_37 rfl (lv_at hl 1 rfl) ?_
      have hw := gE_put (f := f) (la := la) (pl := pl) (nx := y) hD hL hk0
      rw [bx_uu] at hw
      refine va_put (D := D) (ci := 0) (v := va_rf y) (ty := .object "NumberGoblets$Stretch") (C := RX0) (T := TX0) (N := 4) hx hb hts hi0 tyX0 tyX0_ok nmX0 hown hK hP hD hS k hk rfl 3 (by decide) f_next (fun _ h9 => h9) rfl (by decide +kernel) (g_nar y) (g_fit y) (Nat.le_of_ble_eq_true rfl) dX0_absorbNextOnesOfSamePlace_38 (fun H locs hP2 hD2 hS => ?_)
      have hP := g_eqP hw hP2
      have hD := g_eqD hw hD2
      refine g_retv (u := (la, y)) hx hb hr hlocks hK hP hD hS (Nat.le_refl _) (Nat.le_refl _) ⟨r, ?_, ⟨z1, z2, z3, z4, z5⟩, hfin⟩ dX0_absorbNextOnesOfSamePlace_41
      refine gch_frame r (la + 1) y z5 (fun b hb hk => ⟨hb, ?_⟩) hch
      have hba : b ≠ a := fun z => by subst z; rw [va_up_self] at hk; have hk : la + 1 ≤ f := hk; have z2 : f ≤ la := z2; omega
      rw [va_up_ne _ _ hba, va_up_ne _ _ hba]
    refine lq_aload_n hx hb dX0_absorbNextOnesOfSamePlace_5 rfl (lv_at hl 1 rfl) ?_
    refine lq_ifnull (tgt := 36) hx hb dX0_absorbNextOnesOfSamePlace_6 (by decide) (fun cy => ?_) (fun y1 cy => ?_)
    · refine hend ?_
      cases r with
      | nil => exact Or.inl rfl
      | cons d r => obtain ⟨a1, nx1, e1, -⟩ := hch; rw [cy] at e1; cases e1
    · subst cy
      cases r with
      | nil => have hch : some y1 = none := hch; cases hch
      | cons d r =>
        obtain ⟨a1, nx1, e1, e2, e3, e4⟩ := hch
        obtain rfl : y1 = a1 := Option.some.inj e1
        obtain ⟨df, dl, dp⟩ := d
        obtain ⟨x1, x2, x3, x4, x5⟩ := z5
        have x1 : df = la + 1 := x1
        subst x1
        have x2 : la + 1 ≤ dl := x2
        have x3 : dl ≤ 5000 := x3
        have z2 : f ≤ la := z2
        obtain ⟨k1, hk10, hk1⟩ := gE_get (X := X) e2 e3
        refine lv_aload_n hx hb dX0_absorbNextOnesOfSamePlace_9 rfl (lv_at hl 1 rfl) ?_
        refine va_get (D := D) (ci := 0) (v := .int dp) (C := RX0) (T := TX0) (N := 4) hx hb hts hi0 hown hK hP k1 hk1 rfl 2 (by decide) f_place (fun _ h9 => h9) rfl dX0_absorbNextOnesOfSamePlace_10 ?_
        refine lv_aload_n hx hb dX0_absorbNextOnesOfSamePlace_13 rfl (lv_at hl 0 rfl) ?_
        refine va_get (D := D) (ci := 0) (v := .int pl) (C := RX0) (T := TX0) (N := 4) hx hb hts hi0 hown hK hP k hk rfl 2 (by decide) f_place (fun _ h9 => h9) rfl dX0_absorbNextOnesOfSamePlace_14 ?_
        refine lv_icmp_ne (tgt := 36) hx hb dX0_absorbNextOnesOfSamePlace_17 (by decide) (fun cp => ?_) (fun cp => ?_)
        · exact hend (Or.inr (by rw [x4 (la + 1) (Nat.le_refl _) x2]; exact cp))
        · subst cp
          refine lv_aload_n hx hb dX0_absorbNextOnesOfSamePlace_20 rfl (lv_at hl 0 rfl) ?_
          refine lv_aload_n hx hb dX0_absorbNextOnesOfSamePlace_21 rfl (lv_at hl 1 rfl) ?_
          refine va_get (D := D) (ci := 0) (v := .int (nI dl)) (C := RX0) (T := TX0) (N := 4) hx hb hts hi0 hown hK hP k1 hk1 rfl 1 (by decide) f_last (fun _ h9 => h9) rfl dX0_absorbNextOnesOfSamePlace_22 ?_
          have hw := gE_put (f := f) (la := dl) (pl := dp) (nx := nx0) hD hL hk0
          rw [bx_uu] at hw
          refine va_put (D := D) (ci := 0) (v := .int (nI dl)) (ty := .int) (C := RX0) (T := TX0) (N := 4) hx hb hts hi0 tyX0 tyX0_ok nmX0 hown hK hP hD hS k hk rfl 1 (by decide) f_last (fun _ h9 => h9) rfl (by decide +kernel) rfl rfl (Nat.le_of_ble_eq_true rfl) dX0_absorbNextOnesOfSamePlace_25 (fun H locs hP2 hD2 hS => ?_)
          have hP := g_eqP hw hP2
          have hD := g_eqD hw hD2
          have hya : y1 ≠ a := fun z => by subst z; rw [va_up_self] at e3; have := congrArg Prod.fst e3; have this : f = la + 1 := this; omega
          have e5 : va_up S0 a (f, dl, dp, nx0) y1 = (la + 1, dl, dp, nx1) := by rw [va_up_ne _ _ hya]; rw [va_up_ne _ _ hya] at e3; exact e3
          obtain ⟨k2, hk20, hk2⟩ := gE_get (X := X) e2 e5
          refine lv_aload_n hx hb dX0_absorbNextOnesOfSamePlace_28 rfl (lv_at hl 1 rfl) ?_
          refine va_get (D := D) (ci := 0) (v := va_rf nx1) (C := RX0) (T := TX0) (N := 4) hx hb hts hi0 hown hK hP k2 hk2 rfl 3 (by decide) f_next (fun _ h9 => h9) rfl dX0_absorbNextOnesOfSamePlace_29 ?_
          refine lq_astore_n (lv' := [(1, va_rf nx1), (0, .ref a)]) hx hb dX0_absorbNextOnesOfSamePlace_32 rfl hl (by decide) rfl (fun ls hl => ?_)
          refine lv_goto (tgt := 5) hx hb dX0_absorbNextOnesOfSamePlace_33 (by decide) ?_
          refine ih dl r nx1 H locs ls (by omega) ⟨rfl, by show f ≤ dl; omega, x3, fun j h1 h2 => ?_, x5⟩ ?_ hP hD hS (lv_sub hl [1, 0] rfl)
          · by_cases hj : j ≤ la
            · exact z4 j h1 hj
            · exact x4 j (by omega) h2
          · refine gch_frame r (dl + 1) nx1 x5 (fun b hb hk => ⟨hb, ?_⟩) e4
            have hba : b ≠ a := fun z => by subst z; rw [va_up_self] at hk; have hk : dl + 1 ≤ f := hk; omega
            rw [va_up_ne _ _ hba, va_up_ne _ _ hba]
set_option maxHeartbeats 4000000 in
set_option maxRecDepth 100000 in
/-- absorbNextOnesOfSamePlace() -/
theorem c_absorb (l : Launch) (D : va_G) (tys : List (ClassId × FieldType)) (X : va_W) (L : List Nat) (S : gS) (sz : Nat) (P : Nat → Int32) {a f la : Nat} {pl : Int32} {nx : Option Nat} {r : List (Nat × Nat × Int32)} (hL : a ∈ L) (hSa : S a = (f, la, pl, nx)) (hw0 : gwf P f ((f, la, pl) :: r)) (hch : gch L S nx r) : Met l yX0_absorbNextOnesOfSamePlace wsX0_absorbNextOnesOfSamePlace ({ frames := 0, cells := 0, slots := 0, locals := 0 }) (gP D tys [.ref a] (X ++ va_pl L (gE S)) sz (fun _ => True)) (va_Qv (fun u : Nat × Option Nat => ∃ r', gch L (va_up S a (f, u.1, pl, u.2)) u.2 r' ∧ gwf P f ((f, u.1, pl) :: r') ∧ (r' = [] ∨ ¬ P (u.1 + 1) = pl)) (fun u t => gWd D tys (va_A (X ++ va_pl L (gE S)) sz) (X ++ va_pl L (gE (va_up S a (f, u.1, pl, u.2)))) t) (va_A (X ++ va_pl L (gE S)) sz)) 0 0 (va_A (X ++ va_pl L (gE S)) sz) := by
  refine g_ofW (cc := cX0_absorbNextOnesOfSamePlace) (maxL := 2) (ret := none) (by decide) rfl (Nat.le_of_ble_eq_true rfl) ?_
  intro p e s m below meth c hx hb hr hml hts hown hlocks hin hsz hP hK hD hA hS hG ls hl
  subst hsz
  have hown : s.vm.findClass RX0 = some m.cls := hown
  have hl : lv_has ls 2 [(0, .ref a)] := hl
  have hi0 := i0_absorb
  have f_next := hts (.fieldLink RX0 19 "NumberGoblets$Stretch" "next" "LNumberGoblets$Stretch;") (by decide +kernel)
  obtain ⟨k, hk0, hk⟩ := gE_get (X := X) hL hSa
  have hSS : va_up S a (f, la, pl, nx) = S := funext fun b => by by_cases z : b = a; subst z; rw [va_up_self, hSa]; rw [va_up_ne _ _ z]
  refine lv_aload_n hx hb dX0_absorbNextOnesOfSamePlace_0 rfl (lv_at hl 0 rfl) ?_
  refine va_get (D := D) (ci := 0) (v := va_rf nx) (C := RX0) (T := TX0) (N := 4) hx hb hts hi0 hown hK hP k hk rfl 3 (by decide) f_next (fun _ h9 => h9) rfl dX0_absorbNextOnesOfSamePlace_1 ?_
  refine lq_astore_n (lv' := [(1, va_rf nx), (0, .ref a)]) hx hb dX0_absorbNextOnesOfSamePlace_4 rfl hl (by decide) rfl (fun ls hl => ?_)
  exact absorb_loop (nx0 := nx) hL hx hb hr hts hown hlocks hK (5001 - la + 1) la r nx _ _ ls (by omega) hw0 (by rw [hSS]; exact hch) (by rw [hSS]; exact hP) (by rw [hSS]; exact hD) hS (lv_sub hl [1, 0] rfl)
end
section
/-! NumberGoblets: what asks the chain -/
theorem g_inX {X Y : va_W} {i : Nat} {q : Nat × va_E} (h : X[i]? = some q) : (X ++ Y)[i]? = some q := by rw [List.getElem?_append_left (List.getElem?_eq_some_iff.mp h).1]; exact h
/-- the object itself: its lowest stretch, size, round -/
abbrev gO (h0 lo : Nat) (sv rv : Int32) : Nat × va_E := (h0, .inr (1, [.ref lo, .int sv, .int rv]))
theorem i0_numbersAtBelow : ∀ w ∈ u_ws RX0 TX0 4, w ∈ wsX1_numbersAtBelow := by decide +kernel
theorem i1_numbersAtBelow : ∀ w ∈ u_ws RX1 TX1 3, w ∈ wsX1_numbersAtBelow := by decide +kernel
theorem i0_rangesAt : ∀ w ∈ u_ws RX0 TX0 4, w ∈ wsX1_rangesAt := by decide +kernel
theorem i1_rangesAt : ∀ w ∈ u_ws RX1 TX1 3, w ∈ wsX1_rangesAt := by decide +kernel
theorem i0_lowestAt : ∀ w ∈ u_ws RX0 TX0 4, w ∈ wsX1_lowestAt := by decide +kernel
theorem i1_lowestAt : ∀ w ∈ u_ws RX1 TX1 3, w ∈ wsX1_lowestAt := by decide +kernel
theorem i0_rangeOfJug : ∀ w ∈ u_ws RX0 TX0 4, w ∈ wsX1_rangeOfJug := by decide +kernel
theorem i1_rangeOfJug : ∀ w ∈ u_ws RX1 TX1 3, w ∈ wsX1_rangeOfJug := by decide +kernel
theorem i0_placeOf : ∀ w ∈ u_ws RX0 TX0 4, w ∈ wsX1_placeOf := by decide +kernel
theorem i1_placeOf : ∀ w ∈ u_ws RX1 TX1 3, w ∈ wsX1_placeOf := by decide +kernel
theorem i0_longestRange : ∀ w ∈ u_ws RX0 TX0 4, w ∈ wsX1_longestRange := by decide +kernel
theorem i1_longestRange : ∀ w ∈ u_ws RX1 TX1 3, w ∈ wsX1_longestRange := by decide +kernel
theorem i0_lowestLeft : ∀ w ∈ u_ws RX0 TX0 4, w ∈ wsX1_lowestLeft := by decide +kernel
theorem i1_lowestLeft : ∀ w ∈ u_ws RX1 TX1 3, w ∈ wsX1_lowestLeft := by decide +kernel
theorem i0_joinNeighbours : ∀ w ∈ u_ws RX0 TX0 4, w ∈ wsX1_joinNeighbours := by decide +kernel
theorem i1_joinNeighbours : ∀ w ∈ u_ws RX1 TX1 3, w ∈ wsX1_joinNeighbours := by decide +kernel
theorem i0_move : ∀ w ∈ u_ws RX0 TX0 4, w ∈ wsX1_move := by decide +kernel
theorem i1_move : ∀ w ∈ u_ws RX1 TX1 3, w ∈ wsX1_move := by decide +kernel
set_option maxHeartbeats 4000000 in
set_option maxRecDepth 100000 in
/-- numbersAtBelow: its loop, from its head to the end -/
theorem nab_loop {p : Program} {l : Launch} {e : Env} {s : State} {m : MethodId} {args : Array Value} {below : List Frame} {meth : Method} {c : Code} {D : va_G} {tys : List (ClassId × FieldType)} {X : va_W} {L : List Nat} {S : gS} {P : Nat → Int32} {h0 : Nat} {p0 : Int32} {nu : Nat} (hnu : 1 ≤ nu) (hnu2 : nu ≤ 5001) (hx : p.tables.exec = Jvm.exec) (hb : c.code = cX1_numbersAtBelow) (hr : meth.sig.returnType = some .int) (hml : c.maxLocals = 5) (hts : ∀ w ∈ wsX1_numbersAtBelow, w.before args s = true) (hown : s.vm.findClass RX1 = some m.cls) (hlocks : meth.locks = false) (hK : va_K D vwCl tys s) (hG : gN s) (hA : ∀ q : Nat, s.heap.size ≤ q → va_A (X ++ va_pl L (gE S)) s.heap.size q) :
    ∀ (n k : Nat) (g : List (Nat × Nat × Int32)) (x : Option Nat) (acc : Int32) (H : Heap) (locs : List Loc) (ls : Array Slot), 5001 - k < n → 1 ≤ k → gwf P k g → gmx P g → gch L S x g → acc = nI (gct P p0 (min (k - 1) (nu - 1))) → va_P D vwCl (X ++ va_pl L (gE S)) H → va_D (va_A (X ++ va_pl L (gE S)) s.heap.size) (X ++ va_pl L (gE S)) → va_S (va_A (X ++ va_pl L (gE S)) s.heap.size) s.heap H locs → lv_has ls 5 [(0, .ref h0), (1, .int p0), (2, .int (nI nu)), (3, .int acc), (4, va_rf x)] →
    W p l e ({ frames := 1, cells := 0, slots := 0, locals := 16 } : Room) s m args below meth c H locs 0 0 (MQ below (va_Qi (fun (r : Int32) (_ : Unit) => r = nI (gct P p0 (nu - 1))) (fun _ t => gWd D tys (va_A (X ++ va_pl L (gE S)) s.heap.size) (X ++ va_pl L (gE S)) t) (va_A (X ++ va_pl L (gE S)) s.heap.size)) args s 0 0 (va_A (X ++ va_pl L (gE S)) s.heap.size)) (F0 m 8 ls []) := by
  have hi0 := i0_numbersAtBelow
  obtain ⟨⟨nf_first, nf_last, nf_place, nf_next⟩, nm_init, nm_length, nm_short, nm_absorb⟩ := hG
  have f_first := va_Nw.use (A := args) rfl nf_first
  have f_last := va_Nw.use (A := args) rfl nf_last
  have f_place := va_Nw.use (A := args) rfl nf_place
  have f_next := va_Nw.use (A := args) rfl nf_next
  intro n
  induction n with
  | zero => intro k g x acc H locs ls hn; exact absurd hn (Nat.not_lt_zero _)
  | succ n ih =>
    intro k g x acc H locs ls hn hk1 hw0 hmx hch hacc hP hD hS hl
    cases g with
    | nil =>
      have hk5 : k = 5001 := hw0
      have hch : x = none := hch
      subst hch
      refine lv_aloadN hx hb dX1_numbersAtBelow_8 (lv_at hl 4 rfl) ?_
      refine lv_ifnullN (tgt := 63) hx hb dX1_numbersAtBelow_10 (by decide) ?_
      refine lv_iload_n hx hb dX1_numbersAtBelow_63 rfl (lv_at hl 3 rfl) ?_
      exact g_reti hx hb hr hlocks hK (acc) () hP hD hS (Nat.le_refl _) (Nat.le_refl _) (by rw [hacc, hk5, show min (5001 - 1) (nu - 1) = nu - 1 by omega]) dX1_numbersAtBelow_64
    | cons d r =>
      obtain ⟨a1, nx1, rfl, e2, e3, e4⟩ := hch
      obtain ⟨df, dl, dp⟩ := d
      obtain ⟨x1, x2, x3, x4, x5⟩ := hw0
      obtain ⟨m1, m2⟩ := hmx
      have x1 : df = k := x1
      subst x1
      have x2 : df ≤ dl := x2
      have x3 : dl ≤ 5000 := x3
      have x4 : ∀ j, df ≤ j → j ≤ dl → P j = dp := x4
      have x5 : gwf P (dl + 1) r := x5
      have m1 : df = 1 ∨ ¬ P (df - 1) = dp := m1
      obtain ⟨k1, hk10, hk1x⟩ := gE_get (X := X) e2 e3
      refine lv_aload hx hb dX1_numbersAtBelow_8 (lv_at hl 4 rfl) ?_
      refine lv_ifnull hx hb dX1_numbersAtBelow_10 ?_
      refine lv_aload hx hb dX1_numbersAtBelow_13 (lv_at hl 4 rfl) ?_
      refine va_getN (D := D) (ci := 0) (v := .int (nI df)) (C := RX0) (T := TX0) (N := 4) hx hb hts hi0 hown hK hP k1 hk1x rfl 0 (by decide) f_first (fun _ h9 => h9) rfl dX1_numbersAtBelow_15 ?_
      refine lv_iload_n hx hb dX1_numbersAtBelow_18 rfl (lv_at hl 2 rfl) ?_
      refine lv_icmp_ge (tgt := 63) hx hb dX1_numbersAtBelow_19 (by decide) (fun c1 => ?_) (fun c1 => ?_)
      · have hge : nu ≤ df := by rcases Nat.lt_or_ge df nu with z | z; exact absurd c1 (nI_ge z (by omega)); exact z
        refine lv_iload_n hx hb dX1_numbersAtBelow_63 rfl (lv_at hl 3 rfl) ?_
        exact g_reti hx hb hr hlocks hK (acc) () hP hD hS (Nat.le_refl _) (Nat.le_refl _) (by rw [hacc, show min (df - 1) (nu - 1) = nu - 1 by omega]) dX1_numbersAtBelow_64
      · have hlt : df < nu := by rcases Nat.lt_or_ge df nu with z | z; exact z; exact absurd (nI_le z (by omega)) c1
        rw [show min (df - 1) (nu - 1) = df - 1 by omega] at hacc
        refine lv_aload hx hb dX1_numbersAtBelow_22 (lv_at hl 4 rfl) ?_
        refine va_getN (D := D) (ci := 0) (v := .int dp) (C := RX0) (T := TX0) (N := 4) hx hb hts hi0 hown hK hP k1 hk1x rfl 2 (by decide) f_place (fun _ h9 => h9) rfl dX1_numbersAtBelow_24 ?_
        refine lv_iload_n hx hb dX1_numbersAtBelow_27 rfl (lv_at hl 1 rfl) ?_
        refine lv_icmp_ne (tgt := 53) hx hb dX1_numbersAtBelow_28 (by decide) (fun c2 => ?_) (fun c2 => ?_)
        · have h9 : gct P p0 (min dl (nu - 1)) = gct P p0 (df - 1) := gct_past (by omega) (fun j h1 h2 => by rw [x4 j h1 (by omega)]; exact c2)
          refine lv_aload hx hb dX1_numbersAtBelow_53 (lv_at hl 4 rfl) ?_
          refine va_getN (D := D) (ci := 0) (v := va_rf nx1) (C := RX0) (T := TX0) (N := 4) hx hb hts hi0 hown hK hP k1 hk1x rfl 3 (by decide) f_next (fun _ h9 => h9) rfl dX1_numbersAtBelow_55 ?_
          refine lq_astore (lv' := [(4, va_rf nx1), (0, .ref h0), (1, .int p0), (2, .int (nI nu)), (3, .int acc)]) hx hb dX1_numbersAtBelow_58 hl (by decide) rfl (fun ls hl => ?_)
          refine lv_goto (tgt := 8) hx hb dX1_numbersAtBelow_60 (by decide) ?_
          exact ih (dl + 1) r nx1 acc H locs ls (by omega) (by omega) x5 m2 e4 (by rw [hacc, show dl + 1 - 1 = dl by omega, h9]) hP hD hS (lv_sub hl [1, 2, 3, 4, 0] rfl)
        · have c2 := c2.symm
          subst c2
          have h9 : gct P p0 (min dl (nu - 1)) = gct P p0 (df - 1) + (min dl (nu - 1) - df + 1) := gct_to hk1 (by omega) (fun j h1 h2 => x4 j h1 (by omega))
          refine lv_iload_n hx hb dX1_numbersAtBelow_31 rfl (lv_at hl 3 rfl) ?_
          refine lv_aload hx hb dX1_numbersAtBelow_32 (lv_at hl 4 rfl) ?_
          refine va_getN (D := D) (ci := 0) (v := .int (nI dl)) (C := RX0) (T := TX0) (N := 4) hx hb hts hi0 hown hK hP k1 hk1x rfl 1 (by decide) f_last (fun _ h9 => h9) rfl dX1_numbersAtBelow_34 ?_
          refine lv_iload_n hx hb dX1_numbersAtBelow_37 rfl (lv_at hl 2 rfl) ?_
          refine lv_iconst (v := 1) hx hb dX1_numbersAtBelow_38 (by decide) ?_
          refine lv_isub hx hb dX1_numbersAtBelow_39 ?_
          refine g_top (y := nI (nu - 1)) (by rw [show (1 : Int32) = nI 1 from rfl]; exact pk_sub hnu) ?_
          refine va_mmin hx hb (hml.trans hl.1.symm) hown (hts (.methodLink RX1 119 Lib.Math.min.name) (by decide +kernel)) (hts (.static Lib.Math.min.name) (by decide +kernel)) (hts (.initialized "java/lang/Math") (by decide +kernel)) (hts (.code Lib.Math.min.name Lib.Math.min.code 2 (some .int)) (by decide +kernel)) (Nat.le_of_ble_eq_true rfl) (Nat.le_of_ble_eq_true rfl) (Nat.zero_le _) (Nat.zero_le _) dX1_numbersAtBelow_40 ?_
          refine g_top (y := nI (min dl (nu - 1))) (by by_cases z : nu - 1 < dl; rw [if_pos (nI_lt z (by omega)), show min dl (nu - 1) = nu - 1 by omega]; rw [if_neg (nI_nlt (by omega) (by omega)), show min dl (nu - 1) = dl by omega]) ?_
          refine lv_aload hx hb dX1_numbersAtBelow_43 (lv_at hl 4 rfl) ?_
          refine va_getN (D := D) (ci := 0) (v := .int (nI df)) (C := RX0) (T := TX0) (N := 4) hx hb hts hi0 hown hK hP k1 hk1x rfl 0 (by decide) f_first (fun _ h9 => h9) rfl dX1_numbersAtBelow_45 ?_
          refine lv_isub hx hb dX1_numbersAtBelow_48 ?_
          refine g_top (y := nI (min dl (nu - 1) - df)) (pk_sub (by omega)) ?_
          refine lv_iconst (v := 1) hx hb dX1_numbersAtBelow_49 (by decide) ?_
          refine lv_iadd hx hb dX1_numbersAtBelow_50 ?_
          refine g_top (y := nI (min dl (nu - 1) - df + 1)) (nI_1 _) ?_
          refine lv_iadd hx hb dX1_numbersAtBelow_51 ?_
          refine g_top (y := nI (gct P p0 (min dl (nu - 1)))) (by rw [hacc, nI_add, h9]) ?_
          refine lv_istore_n (lv' := [(3, .int (nI (gct P p0 (min dl (nu - 1))))), (0, .ref h0), (1, .int p0), (2, .int (nI nu)), (4, .ref a1)]) hx hb dX1_numbersAtBelow_52 rfl hl (by decide) rfl (fun ls hl => ?_)
          refine lv_aload hx hb dX1_numbersAtBelow_53 (lv_at hl 4 rfl) ?_
          refine va_getN (D := D) (ci := 0) (v := va_rf nx1) (C := RX0) (T := TX0) (N := 4) hx hb hts hi0 hown hK hP k1 hk1x rfl 3 (by decide) f_next (fun _ h9 => h9) rfl dX1_numbersAtBelow_55 ?_
          refine lq_astore (lv' := [(4, va_rf nx1), (3, .int (nI (gct P p0 (min dl (nu - 1))))), (0, .ref h0), (1, .int p0), (2, .int (nI nu))]) hx hb dX1_numbersAtBelow_58 hl (by decide) rfl (fun ls hl => ?_)
          refine lv_goto (tgt := 8) hx hb dX1_numbersAtBelow_60 (by decide) ?_
          exact ih (dl + 1) r nx1 _ H locs ls (by omega) (by omega) x5 m2 e4 (by rw [show dl + 1 - 1 = dl by omega]) hP hD hS (lv_sub hl [2, 3, 4, 1, 0] rfl)
set_option maxHeartbeats 4000000 in
set_option maxRecDepth 100000 in
/-- numbersAtBelow(place, number) -/
theorem c_nab (l : Launch) (D : va_G) (tys : List (ClassId × FieldType)) (X : va_W) (L : List Nat) (S : gS) (sz : Nat) {P : Nat → Int32} {i h0 lo : Nat} {sv rv : Int32} {g : List (Nat × Nat × Int32)} (hX : X[i]? = some (gO h0 lo sv rv)) (hw0 : gwf P 1 g) (hmx : gmx P g) (hch : gch L S (some lo) g) (p0 : Int32) {nu : Nat} (hnu : 1 ≤ nu) (hnu2 : nu ≤ 5001) : Met l yX1_numbersAtBelow wsX1_numbersAtBelow ({ frames := 1, cells := 0, slots := 0, locals := 16 } : Room) (gP D tys [.ref h0, .int p0, .int (nI nu)] (X ++ va_pl L (gE S)) sz gN) (va_Qi (fun (r : Int32) (_ : Unit) => r = nI (gct P p0 (nu - 1))) (fun _ t => gWd D tys (va_A (X ++ va_pl L (gE S)) sz) (X ++ va_pl L (gE S)) t) (va_A (X ++ va_pl L (gE S)) sz)) 0 0 (va_A (X ++ va_pl L (gE S)) sz) := by
  refine g_ofW (cc := cX1_numbersAtBelow) (maxL := 5) (ret := some .int) (by decide) rfl (Nat.le_of_ble_eq_true rfl) ?_
  intro p e s m below meth c hx hb hr hml hts hown hlocks hin hsz hP hK hD hA hS hG ls hl
  subst hsz
  have hown : s.vm.findClass RX1 = some m.cls := hown
  have hl : lv_has ls 5 [(0, .ref h0), (1, .int p0), (2, .int (nI nu))] := hl
  refine lv_iconst (v := 0) hx hb dX1_numbersAtBelow_0 (by decide) ?_
  refine lv_istore_n (lv' := [(3, .int 0), (0, .ref h0), (1, .int p0), (2, .int (nI nu))]) hx hb dX1_numbersAtBelow_1 rfl hl (by decide) rfl (fun ls hl => ?_)
  refine lv_aload_n hx hb dX1_numbersAtBelow_2 rfl (lv_at hl 1 rfl) ?_
  refine va_get (D := D) (ci := 1) (v := .ref lo) (C := RX1) (T := TX1) (N := 3) hx hb hts i1_numbersAtBelow hown hK hP i (g_inX hX) rfl 0 (by decide) (hts (.fieldLink RX1 14 "NumberGoblets" "lowest" "LNumberGoblets$Stretch;") (by decide +kernel)) (fun _ h9 => h9) rfl dX1_numbersAtBelow_3 ?_
  refine lv_astore (lv' := [(4, .ref lo), (3, .int 0), (0, .ref h0), (1, .int p0), (2, .int (nI nu))]) hx hb dX1_numbersAtBelow_6 hl (by decide) rfl (fun ls hl => ?_)
  exact nab_loop hnu hnu2 hx hb hr hml hts hown hlocks hK hG hA 5001 1 g (some lo) 0 _ _ ls (by omega) (Nat.le_refl _) hw0 hmx hch (by rw [show min (1 - 1) (nu - 1) = 0 by omega]; rfl) hP hD hS (lv_sub hl [2, 3, 4, 1, 0] rfl)
set_option maxHeartbeats 4000000 in
set_option maxRecDepth 100000 in
/-- rangesAt: its loop, from its head to the end -/
theorem ranges_loop {p : Program} {l : Launch} {e : Env} {s : State} {m : MethodId} {args : Array Value} {below : List Frame} {meth : Method} {c : Code} {D : va_G} {tys : List (ClassId × FieldType)} {X : va_W} {L : List Nat} {S : gS} {P : Nat → Int32} {h0 : Nat} {p0 : Int32} (hp0 : ¬ P 0 = p0) (hx : p.tables.exec = Jvm.exec) (hb : c.code = cX1_rangesAt) (hr : meth.sig.returnType = some .int) (hml : c.maxLocals = 4) (hts : ∀ w ∈ wsX1_rangesAt, w.before args s = true) (hown : s.vm.findClass RX1 = some m.cls) (hlocks : meth.locks = false) (hK : va_K D vwCl tys s) (hG : gN s) (hA : ∀ q : Nat, s.heap.size ≤ q → va_A (X ++ va_pl L (gE S)) s.heap.size q) :
    ∀ (n k : Nat) (g : List (Nat × Nat × Int32)) (x : Option Nat) (acc : Int32) (H : Heap) (locs : List Loc) (ls : Array Slot), 5001 - k < n → 1 ≤ k → gwf P k g → gmx P g → gch L S x g → acc = nI (gbg P p0 (k - 1)) → va_P D vwCl (X ++ va_pl L (gE S)) H → va_D (va_A (X ++ va_pl L (gE S)) s.heap.size) (X ++ va_pl L (gE S)) → va_S (va_A (X ++ va_pl L (gE S)) s.heap.size) s.heap H locs → lv_has ls 4 [(0, .ref h0), (1, .int p0), (2, .int acc), (3, va_rf x)] →
    W p l e ({ frames := 0, cells := 0, slots := 0, locals := 0 } : Room) s m args below meth c H locs 0 0 (MQ below (va_Qi (fun (r : Int32) (_ : Unit) => r = nI (gbg P p0 5000)) (fun _ t => gWd D tys (va_A (X ++ va_pl L (gE S)) s.heap.size) (X ++ va_pl L (gE S)) t) (va_A (X ++ va_pl L (gE S)) s.heap.size)) args s 0 0 (va_A (X ++ va_pl L (gE S)) s.heap.size)) (F0 m 7 ls []) := by
  have hi0 := i0_rangesAt
  obtain ⟨⟨nf_first, nf_last, nf_place, nf_next⟩, nm_init, nm_length, nm_short, nm_absorb⟩ := hG
  have f_place := va_Nw.use (A := args) rfl nf_place
  have f_next := va_Nw.use (A := args) rfl nf_next
  intro n
  induction n with
  | zero => intro k g x acc H locs ls hn; exact absurd hn (Nat.not_lt_zero _)
  | succ n ih =>
    intro k g x acc H locs ls hn hk1 hw0 hmx hch hacc hP hD hS hl
    cases g with
    | nil =>
      have hk5 : k = 5001 := hw0
      have hch : x = none := hch
      subst hch
      refine lv_aload_nN hx hb dX1_rangesAt_7 rfl (lv_at hl 3 rfl) ?_
      refine lv_ifnullN (tgt := 30) hx hb dX1_rangesAt_8 (by decide) ?_
      refine lv_iload_n hx hb dX1_rangesAt_30 rfl (lv_at hl 2 rfl) ?_
      exact g_reti hx hb hr hlocks hK (acc) () hP hD hS (Nat.le_refl _) (Nat.le_refl _) (by rw [hacc, hk5]) dX1_rangesAt_31
    | cons d r =>
      obtain ⟨a1, nx1, rfl, e2, e3, e4⟩ := hch
      obtain ⟨df, dl, dp⟩ := d
      obtain ⟨x1, x2, x3, x4, x5⟩ := hw0
      obtain ⟨m1, m2⟩ := hmx
      have x1 : df = k := x1
      subst x1
      have x2 : df ≤ dl := x2
      have x3 : dl ≤ 5000 := x3
      have x4 : ∀ j, df ≤ j → j ≤ dl → P j = dp := x4
      have x5 : gwf P (dl + 1) r := x5
      have m1 : df = 1 ∨ ¬ P (df - 1) = dp := m1
      obtain ⟨k1, hk10, hk1x⟩ := gE_get (X := X) e2 e3
      refine lv_aload_n hx hb dX1_rangesAt_7 rfl (lv_at hl 3 rfl) ?_
      refine lv_ifnull hx hb dX1_rangesAt_8 ?_
      refine lv_aload_n hx hb dX1_rangesAt_11 rfl (lv_at hl 3 rfl) ?_
      refine va_getN (D := D) (ci := 0) (v := .int dp) (C := RX0) (T := TX0) (N := 4) hx hb hts hi0 hown hK hP k1 hk1x rfl 2 (by decide) f_place (fun _ h9 => h9) rfl dX1_rangesAt_12 ?_
      refine lv_iload_n hx hb dX1_rangesAt_15 rfl (lv_at hl 1 rfl) ?_
      refine lv_icmp_ne (tgt := 22) hx hb dX1_rangesAt_16 (by decide) (fun c2 => ?_) (fun c2 => ?_)
      · have h9 : gbg P p0 dl = gbg P p0 (df - 1) := gbg_past hk1 (by omega) (fun j h1 h2 => by rw [x4 j h1 h2]; exact c2)
        refine lv_aload_n hx hb dX1_rangesAt_22 rfl (lv_at hl 3 rfl) ?_
        refine va_getN (D := D) (ci := 0) (v := va_rf nx1) (C := RX0) (T := TX0) (N := 4) hx hb hts hi0 hown hK hP k1 hk1x rfl 3 (by decide) f_next (fun _ h9 => h9) rfl dX1_rangesAt_23 ?_
        refine lq_astore_n (lv' := [(3, va_rf nx1), (0, .ref h0), (1, .int p0), (2, .int acc)]) hx hb dX1_rangesAt_26 rfl hl (by decide) rfl (fun ls hl => ?_)
        refine lv_goto (tgt := 7) hx hb dX1_rangesAt_27 (by decide) ?_
        exact ih (dl + 1) r nx1 acc H locs ls (by omega) (by omega) x5 m2 e4 (by rw [hacc, show dl + 1 - 1 = dl by omega, h9]) hP hD hS (lv_sub hl [1, 2, 3, 0] rfl)
      · have c2 := c2.symm
        subst c2
        have h9 : gbg P p0 dl = gbg P p0 (df - 1) + 1 := gbg_to hk1 x2 x4 (by rcases m1 with z | z; rw [z]; exact hp0; exact z)
        refine lv_iinc (v := nI (gbg P p0 dl)) (lv' := [(2, .int (nI (gbg P p0 dl))), (0, .ref h0), (1, .int p0), (3, .ref a1)]) hx hb dX1_rangesAt_19 hl (k := 2) rfl (by rw [hacc, h9, ← nI_1]; rfl) (by decide) rfl (fun ls hl => ?_)
        refine lv_aload_n hx hb dX1_rangesAt_22 rfl (lv_at hl 3 rfl) ?_
        refine va_getN (D := D) (ci := 0) (v := va_rf nx1) (C := RX0) (T := TX0) (N := 4) hx hb hts hi0 hown hK hP k1 hk1x rfl 3 (by decide) f_next (fun _ h9 => h9) rfl dX1_rangesAt_23 ?_
        refine lq_astore_n (lv' := [(3, va_rf nx1), (2, .int (nI (gbg P p0 dl))), (0, .ref h0), (1, .int p0)]) hx hb dX1_rangesAt_26 rfl hl (by decide) rfl (fun ls hl => ?_)
        refine lv_goto (tgt := 7) hx hb dX1_rangesAt_27 (by decide) ?_
        exact ih (dl + 1) r nx1 _ H locs ls (by omega) (by omega) x5 m2 e4 (by rw [show dl + 1 - 1 = dl by omega]) hP hD hS (lv_sub hl [2, 3, 1, 0] rfl)
set_option maxHeartbeats 4000000 in
set_option maxRecDepth 100000 in
/-- rangesAt(place) -/
theorem c_ranges (l : Launch) (D : va_G) (tys : List (ClassId × FieldType)) (X : va_W) (L : List Nat) (S : gS) (sz : Nat) {P : Nat → Int32} {i h0 lo : Nat} {sv rv : Int32} {g : List (Nat × Nat × Int32)} (hX : X[i]? = some (gO h0 lo sv rv)) (hw0 : gwf P 1 g) (hmx : gmx P g) (hch : gch L S (some lo) g) (p0 : Int32) (hp0 : ¬ P 0 = p0) : Met l yX1_rangesAt wsX1_rangesAt ({ frames := 0, cells := 0, slots := 0, locals := 0 } : Room) (gP D tys [.ref h0, .int p0] (X ++ va_pl L (gE S)) sz gN) (va_Qi (fun (r : Int32) (_ : Unit) => r = nI (gbg P p0 5000)) (fun _ t => gWd D tys (va_A (X ++ va_pl L (gE S)) sz) (X ++ va_pl L (gE S)) t) (va_A (X ++ va_pl L (gE S)) sz)) 0 0 (va_A (X ++ va_pl L (gE S)) sz) := by
  refine g_ofW (cc := cX1_rangesAt) (maxL := 4) (ret := some .int) (by decide) rfl (Nat.le_of_ble_eq_true rfl) ?_
  intro p e s m below meth c hx hb hr hml hts hown hlocks hin hsz hP hK hD hA hS hG ls hl
  subst hsz
  have hown : s.vm.findClass RX1 = some m.cls := hown
  have hl : lv_has ls 4 [(0, .ref h0), (1, .int p0)] := hl
  refine lv_iconst (v := 0) hx hb dX1_rangesAt_0 (by decide) ?_
  refine lv_istore_n (lv' := [(2, .int 0), (0, .ref h0), (1, .int p0)]) hx hb dX1_rangesAt_1 rfl hl (by decide) rfl (fun ls hl => ?_)
  refine lv_aload_n hx hb dX1_rangesAt_2 rfl (lv_at hl 1 rfl) ?_
  refine va_get (D := D) (ci := 1) (v := .ref lo) (C := RX1) (T := TX1) (N := 3) hx hb hts i1_rangesAt hown hK hP i (g_inX hX) rfl 0 (by decide) (hts (.fieldLink RX1 14 "NumberGoblets" "lowest" "LNumberGoblets$Stretch;") (by decide +kernel)) (fun _ h9 => h9) rfl dX1_rangesAt_3 ?_
  refine lv_astore_n (lv' := [(3, .ref lo), (2, .int 0), (0, .ref h0), (1, .int p0)]) hx hb dX1_rangesAt_6 rfl hl (by decide) rfl (fun ls hl => ?_)
  exact ranges_loop hp0 hx hb hr hml hts hown hlocks hK hG hA 5001 1 g (some lo) 0 _ _ ls (by omega) (Nat.le_refl _) hw0 hmx hch rfl hP hD hS (lv_sub hl [2, 3, 1, 0] rfl)
set_option maxHeartbeats 4000000 in
set_option maxRecDepth 100000 in
/-- lowestAt: its loop, from its head to the end -/
theorem lowest_loop {p : Program} {l : Launch} {e : Env} {s : State} {m : MethodId} {args : Array Value} {below : List Frame} {meth : Method} {c : Code} {D : va_G} {tys : List (ClassId × FieldType)} {X : va_W} {L : List Nat} {S : gS} {P : Nat → Int32} {h0 : Nat} {p0 : Int32} (hx : p.tables.exec = Jvm.exec) (hb : c.code = cX1_lowestAt) (hr : meth.sig.returnType = some .int) (hml : c.maxLocals = 3) (hts : ∀ w ∈ wsX1_lowestAt, w.before args s = true) (hown : s.vm.findClass RX1 = some m.cls) (hlocks : meth.locks = false) (hK : va_K D vwCl tys s) (hG : gN s) (hA : ∀ q : Nat, s.heap.size ≤ q → va_A (X ++ va_pl L (gE S)) s.heap.size q) :
    ∀ (n k : Nat) (g : List (Nat × Nat × Int32)) (x : Option Nat)  (H : Heap) (locs : List Loc) (ls : Array Slot), 5001 - k < n → 1 ≤ k → gwf P k g → gmx P g → gch L S x g → (∀ j, 1 ≤ j → j < k → ¬ P j = p0) → va_P D vwCl (X ++ va_pl L (gE S)) H → va_D (va_A (X ++ va_pl L (gE S)) s.heap.size) (X ++ va_pl L (gE S)) → va_S (va_A (X ++ va_pl L (gE S)) s.heap.size) s.heap H locs → lv_has ls 3 [(0, .ref h0), (1, .int p0), (2, va_rf x)] →
    W p l e ({ frames := 0, cells := 0, slots := 0, locals := 0 } : Room) s m args below meth c H locs 0 0 (MQ below (va_Qi (fun (r : Int32) (_ : Unit) => ∃ v, r = nI v ∧ glow (fun j => P j = p0) 5000 v) (fun _ t => gWd D tys (va_A (X ++ va_pl L (gE S)) s.heap.size) (X ++ va_pl L (gE S)) t) (va_A (X ++ va_pl L (gE S)) s.heap.size)) args s 0 0 (va_A (X ++ va_pl L (gE S)) s.heap.size)) (F0 m 5 ls []) := by
  have hi0 := i0_lowestAt
  obtain ⟨⟨nf_first, nf_last, nf_place, nf_next⟩, nm_init, nm_length, nm_short, nm_absorb⟩ := hG
  have f_first := va_Nw.use (A := args) rfl nf_first
  have f_place := va_Nw.use (A := args) rfl nf_place
  have f_next := va_Nw.use (A := args) rfl nf_next
  intro n
  induction n with
  | zero => intro k g x  H locs ls hn; exact absurd hn (Nat.not_lt_zero _)
  | succ n ih =>
    intro k g x  H locs ls hn hk1 hw0 hmx hch hno hP hD hS hl
    cases g with
    | nil =>
      have hk5 : k = 5001 := hw0
      have hch : x = none := hch
      subst hch
      refine lv_aload_nN hx hb dX1_lowestAt_5 rfl (lv_at hl 2 rfl) ?_
      refine lv_ifnullN (tgt := 30) hx hb dX1_lowestAt_6 (by decide) ?_
      refine lv_iconst (v := 0) hx hb dX1_lowestAt_30 (by decide) ?_
      exact g_reti hx hb hr hlocks hK (0) () hP hD hS (Nat.le_refl _) (Nat.le_refl _) (⟨0, rfl, Or.inl ⟨rfl, fun j h1 h2 => hno j h1 (by omega)⟩⟩) dX1_lowestAt_31
    | cons d r =>
      obtain ⟨a1, nx1, rfl, e2, e3, e4⟩ := hch
      obtain ⟨df, dl, dp⟩ := d
      obtain ⟨x1, x2, x3, x4, x5⟩ := hw0
      obtain ⟨m1, m2⟩ := hmx
      have x1 : df = k := x1
      subst x1
      have x2 : df ≤ dl := x2
      have x3 : dl ≤ 5000 := x3
      have x4 : ∀ j, df ≤ j → j ≤ dl → P j = dp := x4
      have x5 : gwf P (dl + 1) r := x5
      have m1 : df = 1 ∨ ¬ P (df - 1) = dp := m1
      obtain ⟨k1, hk10, hk1x⟩ := gE_get (X := X) e2 e3
      refine lv_aload_n hx hb dX1_lowestAt_5 rfl (lv_at hl 2 rfl) ?_
      refine lv_ifnull hx hb dX1_lowestAt_6 ?_
      refine lv_aload_n hx hb dX1_lowestAt_9 rfl (lv_at hl 2 rfl) ?_
      refine va_getN (D := D) (ci := 0) (v := .int dp) (C := RX0) (T := TX0) (N := 4) hx hb hts hi0 hown hK hP k1 hk1x rfl 2 (by decide) f_place (fun _ h9 => h9) rfl dX1_lowestAt_10 ?_
      refine lv_iload_n hx hb dX1_lowestAt_13 rfl (lv_at hl 1 rfl) ?_
      refine lv_icmp_ne (tgt := 22) hx hb dX1_lowestAt_14 (by decide) (fun c2 => ?_) (fun c2 => ?_)
      · skip
        refine lv_aload_n hx hb dX1_lowestAt_22 rfl (lv_at hl 2 rfl) ?_
        refine va_getN (D := D) (ci := 0) (v := va_rf nx1) (C := RX0) (T := TX0) (N := 4) hx hb hts hi0 hown hK hP k1 hk1x rfl 3 (by decide) f_next (fun _ h9 => h9) rfl dX1_lowestAt_23 ?_
        refine lq_astore_n (lv' := [(2, va_rf nx1), (0, .ref h0), (1, .int p0)]) hx hb dX1_lowestAt_26 rfl hl (by decide) rfl (fun ls hl => ?_)
        refine lv_goto (tgt := 5) hx hb dX1_lowestAt_27 (by decide) ?_
        exact ih (dl + 1) r nx1 H locs ls (by omega) (by omega) x5 m2 e4 (fun j h1 h2 => by by_cases z : j < df; exact hno j h1 z; rw [x4 j (by omega) (by omega)]; exact c2) hP hD hS (lv_sub hl [1, 2, 0] rfl)
      · have c2 := c2.symm
        subst c2
        refine lv_aload_n hx hb dX1_lowestAt_17 rfl (lv_at hl 2 rfl) ?_
        refine va_getN (D := D) (ci := 0) (v := .int (nI df)) (C := RX0) (T := TX0) (N := 4) hx hb hts hi0 hown hK hP k1 hk1x rfl 0 (by decide) f_first (fun _ h9 => h9) rfl dX1_lowestAt_18 ?_
        exact g_reti hx hb hr hlocks hK (nI df) () hP hD hS (Nat.le_refl _) (Nat.le_refl _) (⟨df, rfl, Or.inr ⟨hk1, by omega, x4 df (Nat.le_refl _) x2, hno⟩⟩) dX1_lowestAt_21
set_option maxHeartbeats 4000000 in
set_option maxRecDepth 100000 in
/-- lowestAt(place) -/
theorem c_lowest (l : Launch) (D : va_G) (tys : List (ClassId × FieldType)) (X : va_W) (L : List Nat) (S : gS) (sz : Nat) {P : Nat → Int32} {i h0 lo : Nat} {sv rv : Int32} {g : List (Nat × Nat × Int32)} (hX : X[i]? = some (gO h0 lo sv rv)) (hw0 : gwf P 1 g) (hmx : gmx P g) (hch : gch L S (some lo) g) (p0 : Int32) : Met l yX1_lowestAt wsX1_lowestAt ({ frames := 0, cells := 0, slots := 0, locals := 0 } : Room) (gP D tys [.ref h0, .int p0] (X ++ va_pl L (gE S)) sz gN) (va_Qi (fun (r : Int32) (_ : Unit) => ∃ v, r = nI v ∧ glow (fun j => P j = p0) 5000 v) (fun _ t => gWd D tys (va_A (X ++ va_pl L (gE S)) sz) (X ++ va_pl L (gE S)) t) (va_A (X ++ va_pl L (gE S)) sz)) 0 0 (va_A (X ++ va_pl L (gE S)) sz) := by
  refine g_ofW (cc := cX1_lowestAt) (maxL := 3) (ret := some .int) (by decide) rfl (Nat.le_of_ble_eq_true rfl) ?_
  intro p e s m below meth c hx hb hr hml hts hown hlocks hin hsz hP hK hD hA hS hG ls hl
  subst hsz
  have hown : s.vm.findClass RX1 = some m.cls := hown
  have hl : lv_has ls 3 [(0, .ref h0), (1, .int p0)] := hl
  refine lv_aload_n hx hb dX1_lowestAt_0 rfl (lv_at hl 0 rfl) ?_
  refine va_get (D := D) (ci := 1) (v := .ref lo) (C := RX1) (T := TX1) (N := 3) hx hb hts i1_lowestAt hown hK hP i (g_inX hX) rfl 0 (by decide) (hts (.fieldLink RX1 14 "NumberGoblets" "lowest" "LNumberGoblets$Stretch;") (by decide +kernel)) (fun _ h9 => h9) rfl dX1_lowestAt_1 ?_
  refine lv_astore_n (lv' := [(2, .ref lo), (0, .ref h0), (1, .int p0)]) hx hb dX1_lowestAt_4 rfl hl (by decide) rfl (fun ls hl => ?_)
  exact lowest_loop hx hb hr hml hts hown hlocks hK hG hA 5001 1 g (some lo) _ _ ls (by omega) (Nat.le_refl _) hw0 hmx hch (fun j h1 h2 => absurd h2 (by omega)) hP hD hS (lv_sub hl [1, 2, 0] rfl)
theorem g_between {v : Int32} {f la : Nat} (hf : f ≤ 5000) (hl : la ≤ 5000) (h1 : ¬ v < nI f) (h2 : ¬ nI la < v) : ∃ j : Nat, j ≤ 5000 ∧ v = nI j := by
  rw [Int32.lt_iff_toInt_lt] at h1 h2
  rw [nI_toInt (by omega)] at h1 h2
  refine ⟨v.toInt.toNat, by omega, ?_⟩
  rw [← Int32.toInt_inj, nI_toInt (by omega)]
  omega
set_option maxHeartbeats 4000000 in
set_option maxRecDepth 100000 in
/-- placeOf: its loop, from its head to the end -/
theorem place_loop {p : Program} {l : Launch} {e : Env} {s : State} {m : MethodId} {args : Array Value} {below : List Frame} {meth : Method} {c : Code} {D : va_G} {tys : List (ClassId × FieldType)} {X : va_W} {L : List Nat} {S : gS} {P : Nat → Int32} {h0 : Nat} {v0 : Int32} (hx : p.tables.exec = Jvm.exec) (hb : c.code = cX1_placeOf) (hr : meth.sig.returnType = some .int) (hml : c.maxLocals = 3) (hts : ∀ w ∈ wsX1_placeOf, w.before args s = true) (hown : s.vm.findClass RX1 = some m.cls) (hlocks : meth.locks = false) (hK : va_K D vwCl tys s) (hG : gN s) (hA : ∀ q : Nat, s.heap.size ≤ q → va_A (X ++ va_pl L (gE S)) s.heap.size q) :
    ∀ (n k : Nat) (g : List (Nat × Nat × Int32)) (x : Option Nat)  (H : Heap) (locs : List Loc) (ls : Array Slot), 5001 - k < n → 1 ≤ k → gwf P k g → gmx P g → gch L S x g → (∀ j, 1 ≤ j → j < k → ¬ v0 = nI j) → va_P D vwCl (X ++ va_pl L (gE S)) H → va_D (va_A (X ++ va_pl L (gE S)) s.heap.size) (X ++ va_pl L (gE S)) → va_S (va_A (X ++ va_pl L (gE S)) s.heap.size) s.heap H locs → lv_has ls 3 [(0, .ref h0), (1, .int v0), (2, va_rf x)] →
    W p l e ({ frames := 0, cells := 0, slots := 0, locals := 0 } : Room) s m args below meth c H locs 0 0 (MQ below (va_Qi (fun (r : Int32) (_ : Unit) => (∃ j : Nat, 1 ≤ j ∧ j ≤ 5000 ∧ v0 = nI j ∧ r = P j) ∨ (r = -1 ∧ ∀ j : Nat, 1 ≤ j → j ≤ 5000 → ¬ v0 = nI j)) (fun _ t => gWd D tys (va_A (X ++ va_pl L (gE S)) s.heap.size) (X ++ va_pl L (gE S)) t) (va_A (X ++ va_pl L (gE S)) s.heap.size)) args s 0 0 (va_A (X ++ va_pl L (gE S)) s.heap.size)) (F0 m 5 ls []) := by
  have hi0 := i0_placeOf
  obtain ⟨⟨nf_first, nf_last, nf_place, nf_next⟩, nm_init, nm_length, nm_short, nm_absorb⟩ := hG
  have f_first := va_Nw.use (A := args) rfl nf_first
  have f_last := va_Nw.use (A := args) rfl nf_last
  have f_place := va_Nw.use (A := args) rfl nf_place
  have f_next := va_Nw.use (A := args) rfl nf_next
  intro n
  induction n with
  | zero => intro k g x  H locs ls hn; exact absurd hn (Nat.not_lt_zero _)
  | succ n ih =>
    intro k g x  H locs ls hn hk1 hw0 hmx hch hno hP hD hS hl
    cases g with
    | nil =>
      have hk5 : k = 5001 := hw0
      have hch : x = none := hch
      subst hch
      refine lv_aload_nN hx hb dX1_placeOf_5 rfl (lv_at hl 2 rfl) ?_
      refine lv_ifnullN (tgt := 38) hx hb dX1_placeOf_6 (by decide) ?_
      refine lv_iconst (v := -1) hx hb dX1_placeOf_38 (by decide) ?_
      exact g_reti hx hb hr hlocks hK (-1) () hP hD hS (Nat.le_refl _) (Nat.le_refl _) (Or.inr ⟨rfl, fun j h1 h2 z => hno j h1 (by omega) z⟩) dX1_placeOf_39
    | cons d r =>
      obtain ⟨a1, nx1, rfl, e2, e3, e4⟩ := hch
      obtain ⟨df, dl, dp⟩ := d
      obtain ⟨x1, x2, x3, x4, x5⟩ := hw0
      obtain ⟨m1, m2⟩ := hmx
      have x1 : df = k := x1
      subst x1
      have x2 : df ≤ dl := x2
      have x3 : dl ≤ 5000 := x3
      have x4 : ∀ j, df ≤ j → j ≤ dl → P j = dp := x4
      have x5 : gwf P (dl + 1) r := x5
      have m1 : df = 1 ∨ ¬ P (df - 1) = dp := m1
      obtain ⟨k1, hk10, hk1x⟩ := gE_get (X := X) e2 e3
      refine lv_aload_n hx hb dX1_placeOf_5 rfl (lv_at hl 2 rfl) ?_
      refine lv_ifnull hx hb dX1_placeOf_6 ?_
      refine lv_iload_n hx hb dX1_placeOf_9 rfl (lv_at hl 1 rfl) ?_
      refine lv_aload_n hx hb dX1_placeOf_10 rfl (lv_at hl 2 rfl) ?_
      refine va_getN (D := D) (ci := 0) (v := .int (nI df)) (C := RX0) (T := TX0) (N := 4) hx hb hts hi0 hown hK hP k1 hk1x rfl 0 (by decide) f_first (fun _ h9 => h9) rfl dX1_placeOf_11 ?_
      refine lv_icmp_lt (tgt := 30) hx hb dX1_placeOf_14 (by decide) (fun c1 => ?_) (fun c1 => ?_)
      · skip
        refine lv_aload_n hx hb dX1_placeOf_30 rfl (lv_at hl 2 rfl) ?_
        refine va_getN (D := D) (ci := 0) (v := va_rf nx1) (C := RX0) (T := TX0) (N := 4) hx hb hts hi0 hown hK hP k1 hk1x rfl 3 (by decide) f_next (fun _ h9 => h9) rfl dX1_placeOf_31 ?_
        refine lq_astore_n (lv' := [(2, va_rf nx1), (0, .ref h0), (1, .int v0)]) hx hb dX1_placeOf_34 rfl hl (by decide) rfl (fun ls hl => ?_)
        refine lv_goto (tgt := 5) hx hb dX1_placeOf_35 (by decide) ?_
        exact ih (dl + 1) r nx1 H locs ls (by omega) (by omega) x5 m2 e4 (fun j h1 h2 z => by subst z; by_cases y : j < df; exact hno j h1 y rfl; exact absurd c1 (nI_nlt (by omega) (by omega))) hP hD hS (lv_sub hl [1, 2, 0] rfl)
      · skip
        refine lv_iload_n hx hb dX1_placeOf_17 rfl (lv_at hl 1 rfl) ?_
        refine lv_aload_n hx hb dX1_placeOf_18 rfl (lv_at hl 2 rfl) ?_
        refine va_getN (D := D) (ci := 0) (v := .int (nI dl)) (C := RX0) (T := TX0) (N := 4) hx hb hts hi0 hown hK hP k1 hk1x rfl 1 (by decide) f_last (fun _ h9 => h9) rfl dX1_placeOf_19 ?_
        refine lv_icmp_gt (tgt := 30) hx hb dX1_placeOf_22 (by decide) (fun c2 => ?_) (fun c2 => ?_)
        · skip
          refine lv_aload_n hx hb dX1_placeOf_30 rfl (lv_at hl 2 rfl) ?_
          refine va_getN (D := D) (ci := 0) (v := va_rf nx1) (C := RX0) (T := TX0) (N := 4) hx hb hts hi0 hown hK hP k1 hk1x rfl 3 (by decide) f_next (fun _ h9 => h9) rfl dX1_placeOf_31 ?_
          refine lq_astore_n (lv' := [(2, va_rf nx1), (0, .ref h0), (1, .int v0)]) hx hb dX1_placeOf_34 rfl hl (by decide) rfl (fun ls hl => ?_)
          refine lv_goto (tgt := 5) hx hb dX1_placeOf_35 (by decide) ?_
          exact ih (dl + 1) r nx1 H locs ls (by omega) (by omega) x5 m2 e4 (fun j h1 h2 z => by subst z; by_cases y : j < df; exact hno j h1 y rfl; exact absurd c2 (nI_nlt (by omega) (by omega))) hP hD hS (lv_sub hl [1, 2, 0] rfl)
        · obtain ⟨j, hj, rfl⟩ : ∃ j : Nat, j ≤ 5000 ∧ v0 = nI j := g_between (by omega) x3 c1 c2
          have h1 : df ≤ j := by rcases Nat.lt_or_ge j df with z | z; exact absurd (nI_lt z (by omega)) c1; exact z
          have h2 : j ≤ dl := by rcases Nat.lt_or_ge dl j with z | z; exact absurd (nI_lt z (by omega)) c2; exact z
          refine lv_aload_n hx hb dX1_placeOf_25 rfl (lv_at hl 2 rfl) ?_
          refine va_getN (D := D) (ci := 0) (v := .int dp) (C := RX0) (T := TX0) (N := 4) hx hb hts hi0 hown hK hP k1 hk1x rfl 2 (by decide) f_place (fun _ h9 => h9) rfl dX1_placeOf_26 ?_
          exact g_reti hx hb hr hlocks hK (dp) () hP hD hS (Nat.le_refl _) (Nat.le_refl _) (Or.inl ⟨j, by omega, hj, rfl, (x4 j h1 h2).symm⟩) dX1_placeOf_29
set_option maxHeartbeats 4000000 in
set_option maxRecDepth 100000 in
/-- placeOf(number) -/
theorem c_place (l : Launch) (D : va_G) (tys : List (ClassId × FieldType)) (X : va_W) (L : List Nat) (S : gS) (sz : Nat) {P : Nat → Int32} {i h0 lo : Nat} {sv rv : Int32} {g : List (Nat × Nat × Int32)} (hX : X[i]? = some (gO h0 lo sv rv)) (hw0 : gwf P 1 g) (hmx : gmx P g) (hch : gch L S (some lo) g) (v0 : Int32) : Met l yX1_placeOf wsX1_placeOf ({ frames := 0, cells := 0, slots := 0, locals := 0 } : Room) (gP D tys [.ref h0, .int v0] (X ++ va_pl L (gE S)) sz gN) (va_Qi (fun (r : Int32) (_ : Unit) => (∃ j : Nat, 1 ≤ j ∧ j ≤ 5000 ∧ v0 = nI j ∧ r = P j) ∨ (r = -1 ∧ ∀ j : Nat, 1 ≤ j → j ≤ 5000 → ¬ v0 = nI j)) (fun _ t => gWd D tys (va_A (X ++ va_pl L (gE S)) sz) (X ++ va_pl L (gE S)) t) (va_A (X ++ va_pl L (gE S)) sz)) 0 0 (va_A (X ++ va_pl L (gE S)) sz) := by
  refine g_ofW (cc := cX1_placeOf) (maxL := 3) (ret := some .int) (by decide) rfl (Nat.le_of_ble_eq_true rfl) ?_
  intro p e s m below meth c hx hb hr hml hts hown hlocks hin hsz hP hK hD hA hS hG ls hl
  subst hsz
  have hown : s.vm.findClass RX1 = some m.cls := hown
  have hl : lv_has ls 3 [(0, .ref h0), (1, .int v0)] := hl
  refine lv_aload_n hx hb dX1_placeOf_0 rfl (lv_at hl 0 rfl) ?_
  refine va_get (D := D) (ci := 1) (v := .ref lo) (C := RX1) (T := TX1) (N := 3) hx hb hts i1_placeOf hown hK hP i (g_inX hX) rfl 0 (by decide) (hts (.fieldLink RX1 14 "NumberGoblets" "lowest" "LNumberGoblets$Stretch;") (by decide +kernel)) (fun _ h9 => h9) rfl dX1_placeOf_1 ?_
  refine lv_astore_n (lv' := [(2, .ref lo), (0, .ref h0), (1, .int v0)]) hx hb dX1_placeOf_4 rfl hl (by decide) rfl (fun ls hl => ?_)
  exact place_loop hx hb hr hml hts hown hlocks hK hG hA 5001 1 g (some lo) _ _ ls (by omega) (Nat.le_refl _) hw0 hmx hch (fun j h1 h2 => absurd h2 (by omega)) hP hD hS (lv_sub hl [1, 2, 0] rfl)
set_option maxHeartbeats 4000000 in
set_option maxRecDepth 100000 in
/-- lowestLeft: its loop, from its head to the end -/
theorem left_loop {p : Program} {l : Launch} {e : Env} {s : State} {m : MethodId} {args : Array Value} {below : List Frame} {meth : Method} {c : Code} {D : va_G} {tys : List (ClassId × FieldType)} {X : va_W} {L : List Nat} {S : gS} {P : Nat → Int32} {h0 : Nat} (hx : p.tables.exec = Jvm.exec) (hb : c.code = cX1_lowestLeft) (hr : meth.sig.returnType = some .int) (hml : c.maxLocals = 2) (hts : ∀ w ∈ wsX1_lowestLeft, w.before args s = true) (hown : s.vm.findClass RX1 = some m.cls) (hlocks : meth.locks = false) (hK : va_K D vwCl tys s) (hG : gN s) (hA : ∀ q : Nat, s.heap.size ≤ q → va_A (X ++ va_pl L (gE S)) s.heap.size q) :
    ∀ (n k : Nat) (g : List (Nat × Nat × Int32)) (x : Option Nat)  (H : Heap) (locs : List Loc) (ls : Array Slot), 5001 - k < n → 1 ≤ k → gwf P k g → gmx P g → gch L S x g → (∀ j, 1 ≤ j → j < k → ¬ (¬ P j = 9 ∧ ¬ P j = -1)) → va_P D vwCl (X ++ va_pl L (gE S)) H → va_D (va_A (X ++ va_pl L (gE S)) s.heap.size) (X ++ va_pl L (gE S)) → va_S (va_A (X ++ va_pl L (gE S)) s.heap.size) s.heap H locs → lv_has ls 2 [(0, .ref h0), (1, va_rf x)] →
    W p l e ({ frames := 0, cells := 0, slots := 0, locals := 0 } : Room) s m args below meth c H locs 0 0 (MQ below (va_Qi (fun (r : Int32) (_ : Unit) => ∃ v, r = nI v ∧ glow (fun j => ¬ P j = 9 ∧ ¬ P j = -1) 5000 v) (fun _ t => gWd D tys (va_A (X ++ va_pl L (gE S)) s.heap.size) (X ++ va_pl L (gE S)) t) (va_A (X ++ va_pl L (gE S)) s.heap.size)) args s 0 0 (va_A (X ++ va_pl L (gE S)) s.heap.size)) (F0 m 5 ls []) := by
  have hi0 := i0_lowestLeft
  obtain ⟨⟨nf_first, nf_last, nf_place, nf_next⟩, nm_init, nm_length, nm_short, nm_absorb⟩ := hG
  have f_first := va_Nw.use (A := args) rfl nf_first
  have f_place := va_Nw.use (A := args) rfl nf_place
  have f_next := va_Nw.use (A := args) rfl nf_next
  intro n
  induction n with
  | zero => intro k g x  H locs ls hn; exact absurd hn (Nat.not_lt_zero _)
  | succ n ih =>
    intro k g x  H locs ls hn hk1 hw0 hmx hch hno hP hD hS hl
    cases g with
    | nil =>
      have hk5 : k = 5001 := hw0
      have hch : x = none := hch
      subst hch
      refine lv_aload_nN hx hb dX1_lowestLeft_5 rfl (lv_at hl 1 rfl) ?_
      refine lv_ifnullN (tgt := 39) hx hb dX1_lowestLeft_6 (by decide) ?_
      refine lv_iconst (v := 0) hx hb dX1_lowestLeft_39 (by decide) ?_
      exact g_reti hx hb hr hlocks hK (0) () hP hD hS (Nat.le_refl _) (Nat.le_refl _) (⟨0, rfl, Or.inl ⟨rfl, fun j h1 h2 => hno j h1 (by omega)⟩⟩) dX1_lowestLeft_40
    | cons d r =>
      obtain ⟨a1, nx1, rfl, e2, e3, e4⟩ := hch
      obtain ⟨df, dl, dp⟩ := d
      obtain ⟨x1, x2, x3, x4, x5⟩ := hw0
      obtain ⟨m1, m2⟩ := hmx
      have x1 : df = k := x1
      subst x1
      have x2 : df ≤ dl := x2
      have x3 : dl ≤ 5000 := x3
      have x4 : ∀ j, df ≤ j → j ≤ dl → P j = dp := x4
      have x5 : gwf P (dl + 1) r := x5
      have m1 : df = 1 ∨ ¬ P (df - 1) = dp := m1
      obtain ⟨k1, hk10, hk1x⟩ := gE_get (X := X) e2 e3
      refine lv_aload_n hx hb dX1_lowestLeft_5 rfl (lv_at hl 1 rfl) ?_
      refine lv_ifnull hx hb dX1_lowestLeft_6 ?_
      refine lv_aload_n hx hb dX1_lowestLeft_9 rfl (lv_at hl 1 rfl) ?_
      refine va_getN (D := D) (ci := 0) (v := .int dp) (C := RX0) (T := TX0) (N := 4) hx hb hts hi0 hown hK hP k1 hk1x rfl 2 (by decide) f_place (fun _ h9 => h9) rfl dX1_lowestLeft_10 ?_
      refine lv_bipush (v := 9) hx hb dX1_lowestLeft_13 (by decide) ?_
      refine lv_icmp_eq (tgt := 31) hx hb dX1_lowestLeft_15 (by decide) (fun c2 => ?_) (fun c2 => ?_)
      · skip
        refine lv_aload_n hx hb dX1_lowestLeft_31 rfl (lv_at hl 1 rfl) ?_
        refine va_getN (D := D) (ci := 0) (v := va_rf nx1) (C := RX0) (T := TX0) (N := 4) hx hb hts hi0 hown hK hP k1 hk1x rfl 3 (by decide) f_next (fun _ h9 => h9) rfl dX1_lowestLeft_32 ?_
        refine lq_astore_n (lv' := [(1, va_rf nx1), (0, .ref h0)]) hx hb dX1_lowestLeft_35 rfl hl (by decide) rfl (fun ls hl => ?_)
        refine lv_goto (tgt := 5) hx hb dX1_lowestLeft_36 (by decide) ?_
        exact ih (dl + 1) r nx1 H locs ls (by omega) (by omega) x5 m2 e4 (fun j h1 h2 => by by_cases z : j < df; exact hno j h1 z; rw [x4 j (by omega) (by omega)]; exact fun q => q.1 c2) hP hD hS (lv_sub hl [1, 0] rfl)
      · skip
        refine lv_aload_n hx hb dX1_lowestLeft_18 rfl (lv_at hl 1 rfl) ?_
        refine va_getN (D := D) (ci := 0) (v := .int dp) (C := RX0) (T := TX0) (N := 4) hx hb hts hi0 hown hK hP k1 hk1x rfl 2 (by decide) f_place (fun _ h9 => h9) rfl dX1_lowestLeft_19 ?_
        refine lv_iconst (v := -1) hx hb dX1_lowestLeft_22 (by decide) ?_
        refine lv_icmp_eq (tgt := 31) hx hb dX1_lowestLeft_23 (by decide) (fun c3 => ?_) (fun c3 => ?_)
        · skip
          refine lv_aload_n hx hb dX1_lowestLeft_31 rfl (lv_at hl 1 rfl) ?_
          refine va_getN (D := D) (ci := 0) (v := va_rf nx1) (C := RX0) (T := TX0) (N := 4) hx hb hts hi0 hown hK hP k1 hk1x rfl 3 (by decide) f_next (fun _ h9 => h9) rfl dX1_lowestLeft_32 ?_
          refine lq_astore_n (lv' := [(1, va_rf nx1), (0, .ref h0)]) hx hb dX1_lowestLeft_35 rfl hl (by decide) rfl (fun ls hl => ?_)
          refine lv_goto (tgt := 5) hx hb dX1_lowestLeft_36 (by decide) ?_
          exact ih (dl + 1) r nx1 H locs ls (by omega) (by omega) x5 m2 e4 (fun j h1 h2 => by by_cases z : j < df; exact hno j h1 z; rw [x4 j (by omega) (by omega)]; exact fun q => q.2 c3) hP hD hS (lv_sub hl [1, 0] rfl)
        · skip
          refine lv_aload_n hx hb dX1_lowestLeft_26 rfl (lv_at hl 1 rfl) ?_
          refine va_getN (D := D) (ci := 0) (v := .int (nI df)) (C := RX0) (T := TX0) (N := 4) hx hb hts hi0 hown hK hP k1 hk1x rfl 0 (by decide) f_first (fun _ h9 => h9) rfl dX1_lowestLeft_27 ?_
          exact g_reti hx hb hr hlocks hK (nI df) () hP hD hS (Nat.le_refl _) (Nat.le_refl _) (⟨df, rfl, Or.inr ⟨hk1, by omega, by show ¬ P df = 9 ∧ ¬ P df = -1; rw [x4 df (Nat.le_refl _) x2]; exact ⟨c2, c3⟩, hno⟩⟩) dX1_lowestLeft_30
set_option maxHeartbeats 4000000 in
set_option maxRecDepth 100000 in
/-- lowestLeft() -/
theorem c_left (l : Launch) (D : va_G) (tys : List (ClassId × FieldType)) (X : va_W) (L : List Nat) (S : gS) (sz : Nat) {P : Nat → Int32} {i h0 lo : Nat} {sv rv : Int32} {g : List (Nat × Nat × Int32)} (hX : X[i]? = some (gO h0 lo sv rv)) (hw0 : gwf P 1 g) (hmx : gmx P g) (hch : gch L S (some lo) g)  : Met l yX1_lowestLeft wsX1_lowestLeft ({ frames := 0, cells := 0, slots := 0, locals := 0 } : Room) (gP D tys [.ref h0] (X ++ va_pl L (gE S)) sz gN) (va_Qi (fun (r : Int32) (_ : Unit) => ∃ v, r = nI v ∧ glow (fun j => ¬ P j = 9 ∧ ¬ P j = -1) 5000 v) (fun _ t => gWd D tys (va_A (X ++ va_pl L (gE S)) sz) (X ++ va_pl L (gE S)) t) (va_A (X ++ va_pl L (gE S)) sz)) 0 0 (va_A (X ++ va_pl L (gE S)) sz) := by
  refine g_ofW (cc := cX1_lowestLeft) (maxL := 2) (ret := some .int) (by decide) rfl (Nat.le_of_ble_eq_true rfl) ?_
  intro p e s m below meth c hx hb hr hml hts hown hlocks hin hsz hP hK hD hA hS hG ls hl
  subst hsz
  have hown : s.vm.findClass RX1 = some m.cls := hown
  have hl : lv_has ls 2 [(0, .ref h0)] := hl
  refine lv_aload_n hx hb dX1_lowestLeft_0 rfl (lv_at hl 0 rfl) ?_
  refine va_get (D := D) (ci := 1) (v := .ref lo) (C := RX1) (T := TX1) (N := 3) hx hb hts i1_lowestLeft hown hK hP i (g_inX hX) rfl 0 (by decide) (hts (.fieldLink RX1 14 "NumberGoblets" "lowest" "LNumberGoblets$Stretch;") (by decide +kernel)) (fun _ h9 => h9) rfl dX1_lowestLeft_1 ?_
  refine lv_astore_n (lv' := [(1, .ref lo), (0, .ref h0)]) hx hb dX1_lowestLeft_4 rfl hl (by decide) rfl (fun ls hl => ?_)
  exact left_loop hx hb hr hml hts hown hlocks hK hG hA 5001 1 g (some lo) _ _ ls (by omega) (Nat.le_refl _) hw0 hmx hch (fun j h1 h2 => absurd h2 (by omega)) hP hD hS (lv_sub hl [1, 0] rfl)
set_option maxHeartbeats 4000000 in
set_option maxRecDepth 100000 in
/-- rangeOfJug: its loop, from its head to the end -/
theorem jug_loop {p : Program} {l : Launch} {e : Env} {s : State} {m : MethodId} {args : Array Value} {below : List Frame} {meth : Method} {c : Code} {D : va_G} {tys : List (ClassId × FieldType)} {X : va_W} {L : List Nat} {S : gS} {P : Nat → Int32} {h0 : Nat} {v0 : Int32} (h00 : P 0 = -1) (h51 : P 5001 = -1) (hx : p.tables.exec = Jvm.exec) (hb : c.code = cX1_rangeOfJug) (hr : meth.sig.returnType = some (.object "NumberGoblets$Stretch")) (hml : c.maxLocals = 4) (hts : ∀ w ∈ wsX1_rangeOfJug, w.before args s = true) (hown : s.vm.findClass RX1 = some m.cls) (hlocks : meth.locks = false) (hK : va_K D vwCl tys s) (hG : gN s) (hA : ∀ q : Nat, s.heap.size ≤ q → va_A (X ++ va_pl L (gE S)) s.heap.size q) :
    ∀ (n k : Nat) (g : List (Nat × Nat × Int32)) (x : Option Nat) (acc : Int32) (H : Heap) (locs : List Loc) (ls : Array Slot), 5001 - k < n → 1 ≤ k → gwf P k g → gmx P g → gch L S x g → acc = nI (gbg P 8 (k - 1)) → gen P 8 (k - 1) = gbg P 8 (k - 1) → (∀ j, 1 ≤ j → j < k → P j = 8 → ¬ P (j - 1) = 8 → ¬ v0 = nI (gbg P 8 (j - 1))) → va_P D vwCl (X ++ va_pl L (gE S)) H → va_D (va_A (X ++ va_pl L (gE S)) s.heap.size) (X ++ va_pl L (gE S)) → va_S (va_A (X ++ va_pl L (gE S)) s.heap.size) s.heap H locs → lv_has ls 4 [(0, .ref h0), (1, .int v0), (2, .int acc), (3, va_rf x)] →
    W p l e ({ frames := 0, cells := 0, slots := 0, locals := 0 } : Room) s m args below meth c H locs 0 0 (MQ below (va_Qq (fun (r : Option Nat) (_ : Unit) => (r = none ∧ ∀ j, 1 ≤ j → j ≤ 5000 → P j = 8 → ¬ P (j - 1) = 8 → ¬ v0 = nI (gbg P 8 (j - 1))) ∨ (∃ a f la nx, r = some a ∧ a ∈ L ∧ S a = (f, la, 8, nx) ∧ 1 ≤ f ∧ f ≤ la ∧ la ≤ 5000 ∧ (∀ j, f ≤ j → j ≤ la → P j = 8) ∧ ¬ P (f - 1) = 8 ∧ ¬ P (la + 1) = 8 ∧ v0 = nI (gbg P 8 (f - 1)) ∧ v0 = nI (gen P 8 (la - 1)))) (fun _ t => gWd D tys (va_A (X ++ va_pl L (gE S)) s.heap.size) (X ++ va_pl L (gE S)) t) (va_A (X ++ va_pl L (gE S)) s.heap.size)) args s 0 0 (va_A (X ++ va_pl L (gE S)) s.heap.size)) (F0 m 7 ls []) := by
  have hi0 := i0_rangeOfJug
  obtain ⟨⟨nf_first, nf_last, nf_place, nf_next⟩, nm_init, nm_length, nm_short, nm_absorb⟩ := hG
  have f_place := va_Nw.use (A := args) rfl nf_place
  have f_next := va_Nw.use (A := args) rfl nf_next
  intro n
  induction n with
  | zero => intro k g x acc H locs ls hn; exact absurd hn (Nat.not_lt_zero _)
  | succ n ih =>
    intro k g x acc H locs ls hn hk1 hw0 hmx hch hacc heq hno hP hD hS hl
    cases g with
    | nil =>
      have hk5 : k = 5001 := hw0
      have hch : x = none := hch
      subst hch
      refine lv_aload_nN hx hb dX1_rangeOfJug_7 rfl (lv_at hl 3 rfl) ?_
      refine lv_ifnullN (tgt := 38) hx hb dX1_rangeOfJug_8 (by decide) ?_
      refine lv_null hx hb dX1_rangeOfJug_38 ?_
      exact g_retq (r := none) hx hb hr hlocks hK () hP hD hS (Nat.le_refl _) (Nat.le_refl _) (Or.inl ⟨rfl, fun j h1 h2 h3 h4 => hno j h1 (by omega) h3 h4⟩) dX1_rangeOfJug_39
    | cons d r =>
      obtain ⟨a1, nx1, rfl, e2, e3, e4⟩ := hch
      obtain ⟨df, dl, dp⟩ := d
      obtain ⟨x1, x2, x3, x4, x5⟩ := hw0
      obtain ⟨m1, m2⟩ := hmx
      have x1 : df = k := x1
      subst x1
      have x2 : df ≤ dl := x2
      have x3 : dl ≤ 5000 := x3
      have x4 : ∀ j, df ≤ j → j ≤ dl → P j = dp := x4
      have x5 : gwf P (dl + 1) r := x5
      have m1 : df = 1 ∨ ¬ P (df - 1) = dp := m1
      obtain ⟨k1, hk10, hk1x⟩ := gE_get (X := X) e2 e3
      refine lv_aload_n hx hb dX1_rangeOfJug_7 rfl (lv_at hl 3 rfl) ?_
      refine lv_ifnull hx hb dX1_rangeOfJug_8 ?_
      refine lv_aload_n hx hb dX1_rangeOfJug_11 rfl (lv_at hl 3 rfl) ?_
      refine va_getN (D := D) (ci := 0) (v := .int dp) (C := RX0) (T := TX0) (N := 4) hx hb hts hi0 hown hK hP k1 hk1x rfl 2 (by decide) f_place (fun _ h9 => h9) rfl dX1_rangeOfJug_12 ?_
      refine lv_bipush (v := 8) hx hb dX1_rangeOfJug_15 (by decide) ?_
      refine lv_icmp_ne (tgt := 30) hx hb dX1_rangeOfJug_17 (by decide) (fun c2 => ?_) (fun c2 => ?_)
      · have h9 : gbg P 8 dl = gbg P 8 (df - 1) := gbg_past hk1 (by omega) (fun j h1 h2 => by rw [x4 j h1 h2]; exact c2)
        have h8 : gen P 8 dl = gen P 8 (df - 1) := gen_past hk1 (by omega) (fun j h1 h2 => by rw [x4 j h1 h2]; exact c2)
        refine lv_aload_n hx hb dX1_rangeOfJug_30 rfl (lv_at hl 3 rfl) ?_
        refine va_getN (D := D) (ci := 0) (v := va_rf nx1) (C := RX0) (T := TX0) (N := 4) hx hb hts hi0 hown hK hP k1 hk1x rfl 3 (by decide) f_next (fun _ h9 => h9) rfl dX1_rangeOfJug_31 ?_
        refine lq_astore_n (lv' := [(3, va_rf nx1), (0, .ref h0), (1, .int v0), (2, .int acc)]) hx hb dX1_rangeOfJug_34 rfl hl (by decide) rfl (fun ls hl => ?_)
        refine lv_goto (tgt := 7) hx hb dX1_rangeOfJug_35 (by decide) ?_
        exact ih (dl + 1) r nx1 acc H locs ls (by omega) (by omega) x5 m2 e4 (by rw [hacc, show dl + 1 - 1 = dl by omega, h9]) (by rw [show dl + 1 - 1 = dl by omega, h9, h8, heq]) (fun j h1 h2 h3 h4 => by by_cases z : j < df; exact hno j h1 z h3 h4; exact absurd ((x4 j (by omega) (by omega)).symm.trans h3) c2) hP hD hS (lv_sub hl [1, 2, 3, 0] rfl)
      · subst c2
        have hp1 : ¬ P (dl + 1) = 8 := by
          cases r with
          | nil => have z : dl + 1 = 5001 := x5; rw [z, h51]; decide
          | cons d2 r2 =>
            obtain ⟨y1, y2, y3, y4, y5⟩ := x5
            obtain ⟨z1, z2⟩ := m2
            rw [y4 (dl + 1) (Nat.le_refl _) y2]
            rw [y1] at z1
            rcases z1 with z | z
            · exact absurd z (by omega)
            · rw [Nat.add_sub_cancel, x4 dl x2 (Nat.le_refl _)] at z; exact fun q => z q.symm
        have m3 : ¬ P (df - 1) = 8 := by rcases m1 with z | z; rw [z, Nat.sub_self, h00]; decide; exact z
        have h9 : gbg P 8 dl = gbg P 8 (df - 1) + 1 := gbg_to hk1 x2 x4 m3
        obtain ⟨h8, h7⟩ := gen_to hk1 x2 x4 hp1
        refine lv_iload_n hx hb dX1_rangeOfJug_20 rfl (lv_at hl 2 rfl) ?_
        refine lv_iload_n hx hb dX1_rangeOfJug_21 rfl (lv_at hl 1 rfl) ?_
        refine lv_icmp_ne (tgt := 27) hx hb dX1_rangeOfJug_22 (by decide) (fun c3 => ?_) (fun c3 => ?_)
        · skip
          refine lv_iinc (v := nI (gbg P 8 dl)) (lv' := [(2, .int (nI (gbg P 8 dl))), (0, .ref h0), (1, .int v0), (3, .ref a1)]) hx hb dX1_rangeOfJug_27 hl (k := 2) rfl (by rw [hacc, h9, ← nI_1]; rfl) (by decide) rfl (fun ls hl => ?_)
          refine lv_aload_n hx hb dX1_rangeOfJug_30 rfl (lv_at hl 3 rfl) ?_
          refine va_getN (D := D) (ci := 0) (v := va_rf nx1) (C := RX0) (T := TX0) (N := 4) hx hb hts hi0 hown hK hP k1 hk1x rfl 3 (by decide) f_next (fun _ h9 => h9) rfl dX1_rangeOfJug_31 ?_
          refine lq_astore_n (lv' := [(3, va_rf nx1), (2, .int (nI (gbg P 8 dl))), (0, .ref h0), (1, .int v0)]) hx hb dX1_rangeOfJug_34 rfl hl (by decide) rfl (fun ls hl => ?_)
          refine lv_goto (tgt := 7) hx hb dX1_rangeOfJug_35 (by decide) ?_
          refine ih (dl + 1) r nx1 _ H locs ls (by omega) (by omega) x5 m2 e4 (by rw [show dl + 1 - 1 = dl by omega]) (by rw [show dl + 1 - 1 = dl by omega, h9, h8, heq]) (fun j h1 h2 h3 h4 => ?_) hP hD hS (lv_sub hl [2, 3, 1, 0] rfl)
          by_cases z : j < df
          · exact hno j h1 z h3 h4
          · by_cases y : j = df
            · subst y; exact fun q => c3 (by rw [hacc, q])
            · exact absurd (x4 (j - 1) (by omega) (by omega)) h4
        · skip
          refine lv_aload_n hx hb dX1_rangeOfJug_25 rfl (lv_at hl 3 rfl) ?_
          exact g_retq (r := some a1) hx hb hr hlocks hK () hP hD hS (Nat.le_refl _) (Nat.le_refl _) (Or.inr ⟨a1, df, dl, nx1, rfl, e2, e3, hk1, x2, x3, x4, m3, hp1, by rw [← hacc]; exact c3.symm, by rw [h7, heq, ← hacc]; exact c3.symm⟩) dX1_rangeOfJug_26
set_option maxHeartbeats 4000000 in
set_option maxRecDepth 100000 in
/-- rangeOfJug(range) -/
theorem c_jug (l : Launch) (D : va_G) (tys : List (ClassId × FieldType)) (X : va_W) (L : List Nat) (S : gS) (sz : Nat) {P : Nat → Int32} {i h0 lo : Nat} {sv rv : Int32} {g : List (Nat × Nat × Int32)} (hX : X[i]? = some (gO h0 lo sv rv)) (hw0 : gwf P 1 g) (hmx : gmx P g) (hch : gch L S (some lo) g) (v0 : Int32) (h00 : P 0 = -1) (h51 : P 5001 = -1) : Met l yX1_rangeOfJug wsX1_rangeOfJug ({ frames := 0, cells := 0, slots := 0, locals := 0 } : Room) (gP D tys [.ref h0, .int v0] (X ++ va_pl L (gE S)) sz gN) (va_Qq (fun (r : Option Nat) (_ : Unit) => (r = none ∧ ∀ j, 1 ≤ j → j ≤ 5000 → P j = 8 → ¬ P (j - 1) = 8 → ¬ v0 = nI (gbg P 8 (j - 1))) ∨ (∃ a f la nx, r = some a ∧ a ∈ L ∧ S a = (f, la, 8, nx) ∧ 1 ≤ f ∧ f ≤ la ∧ la ≤ 5000 ∧ (∀ j, f ≤ j → j ≤ la → P j = 8) ∧ ¬ P (f - 1) = 8 ∧ ¬ P (la + 1) = 8 ∧ v0 = nI (gbg P 8 (f - 1)) ∧ v0 = nI (gen P 8 (la - 1)))) (fun _ t => gWd D tys (va_A (X ++ va_pl L (gE S)) sz) (X ++ va_pl L (gE S)) t) (va_A (X ++ va_pl L (gE S)) sz)) 0 0 (va_A (X ++ va_pl L (gE S)) sz) := by
  refine g_ofW (cc := cX1_rangeOfJug) (maxL := 4) (ret := some (.object "NumberGoblets$Stretch")) (by decide) rfl (Nat.le_of_ble_eq_true rfl) ?_
  intro p e s m below meth c hx hb hr hml hts hown hlocks hin hsz hP hK hD hA hS hG ls hl
  subst hsz
  have hown : s.vm.findClass RX1 = some m.cls := hown
  have hl : lv_has ls 4 [(0, .ref h0), (1, .int v0)] := hl
  refine lv_iconst (v := 0) hx hb dX1_rangeOfJug_0 (by decide) ?_
  refine lv_istore_n (lv' := [(2, .int 0), (0, .ref h0), (1, .int v0)]) hx hb dX1_rangeOfJug_1 rfl hl (by decide) rfl (fun ls hl => ?_)
  refine lv_aload_n hx hb dX1_rangeOfJug_2 rfl (lv_at hl 1 rfl) ?_
  refine va_get (D := D) (ci := 1) (v := .ref lo) (C := RX1) (T := TX1) (N := 3) hx hb hts i1_rangeOfJug hown hK hP i (g_inX hX) rfl 0 (by decide) (hts (.fieldLink RX1 14 "NumberGoblets" "lowest" "LNumberGoblets$Stretch;") (by decide +kernel)) (fun _ h9 => h9) rfl dX1_rangeOfJug_3 ?_
  refine lv_astore_n (lv' := [(3, .ref lo), (2, .int 0), (0, .ref h0), (1, .int v0)]) hx hb dX1_rangeOfJug_6 rfl hl (by decide) rfl (fun ls hl => ?_)
  exact jug_loop h00 h51 hx hb hr hml hts hown hlocks hK hG hA 5001 1 g (some lo) 0 _ _ ls (by omega) (Nat.le_refl _) hw0 hmx hch rfl rfl (fun j h1 h2 => absurd h2 (by omega)) hP hD hS (lv_sub hl [2, 3, 1, 0] rfl)
end
section
/-! NumberGoblets: longestRange, numbersAt, joinNeighbours, move -/
/-- the longest range among the numbers up to n: its index and 1 (0 for none), its length, the length of the range that n ends -/
def glg (P : Nat → Int32) : Nat → Nat × Nat × Nat
  | 0 => (0, 0, 0)
  | n + 1 => if (glg P n).2.1 < (if P (n + 1) = 8 then (glg P n).2.2 + 1 else 0) then (gbg P 8 (n + 1), (if P (n + 1) = 8 then (glg P n).2.2 + 1 else 0), (if P (n + 1) = 8 then (glg P n).2.2 + 1 else 0)) else ((glg P n).1, (glg P n).2.1, (if P (n + 1) = 8 then (glg P n).2.2 + 1 else 0))
theorem glg_0 {P : Nat → Int32} {n : Nat} (h : ¬ P (n + 1) = 8) : glg P (n + 1) = ((glg P n).1, (glg P n).2.1, 0) := by simp [glg, h]
theorem glg_1 {P : Nat → Int32} {n : Nat} (h : P (n + 1) = 8) : glg P (n + 1) = if (glg P n).2.1 < (glg P n).2.2 + 1 then (gbg P 8 (n + 1), (glg P n).2.2 + 1, (glg P n).2.2 + 1) else ((glg P n).1, (glg P n).2.1, (glg P n).2.2 + 1) := by simp [glg, h]
theorem glg_past {P : Nat → Int32} {m : Nat} : ∀ d : Nat, (∀ j, m < j → j ≤ m + d → ¬ P j = 8) → (glg P (m + d)).1 = (glg P m).1 ∧ (glg P (m + d)).2.1 = (glg P m).2.1
  | 0, _ => ⟨rfl, rfl⟩
  | d + 1, h => by
    obtain ⟨h1, h2⟩ := glg_past (P := P) (m := m) d (fun j a b => h j a (by omega))
    rw [← Nat.add_assoc, glg_0 (h (m + d + 1) (by omega) (by omega))]
    exact ⟨h1, h2⟩
theorem glg_last {P : Nat → Int32} : ∀ m : Nat, ¬ P m = 8 → (glg P m).2.2 = 0
  | 0, _ => rfl
  | m + 1, h => by rw [glg_0 h]
theorem glg_run {P : Nat → Int32} {m : Nat} (h0 : ¬ P m = 8) : ∀ d : Nat, (∀ j, m < j → j ≤ m + d → P j = 8) → glg P (m + d) = if (glg P m).2.1 < d then (gbg P 8 m + 1, d, d) else ((glg P m).1, (glg P m).2.1, d)
  | 0, _ => by
    rw [if_neg (Nat.not_lt_zero _)]
    have := glg_last m h0
    rw [Nat.add_zero]
    exact Prod.ext rfl (Prod.ext rfl this)
  | d + 1, h => by
    have h1 := glg_run (P := P) (m := m) h0 d (fun j a b => h j a (by omega))
    have hb : gbg P 8 (m + d + 1) = gbg P 8 m + 1 := by
      have := gbg_to (P := P) (p := 8) (k := m + 1) (m := m + d + 1) (by omega) (by omega) (fun j a b => h j (by omega) (by omega)) (by rw [Nat.add_sub_cancel]; exact h0)
      rwa [Nat.add_sub_cancel] at this
    rw [← Nat.add_assoc, glg_1 (h (m + d + 1) (by omega) (by omega)), h1, hb]
    by_cases z : (glg P m).2.1 < d
    · rw [if_pos z, if_pos (show d < d + 1 by omega), if_pos (show (glg P m).2.1 < d + 1 by omega)]
    · rw [if_neg z]
theorem glg_to {P : Nat → Int32} {k m : Nat} (hk : 1 ≤ k) (hm : k ≤ m) (h : ∀ j, k ≤ j → j ≤ m → P j = 8) (h0 : ¬ P (k - 1) = 8) : glg P m = if (glg P (k - 1)).2.1 < m - k + 1 then (gbg P 8 (k - 1) + 1, m - k + 1, m - k + 1) else ((glg P (k - 1)).1, (glg P (k - 1)).2.1, m - k + 1) := by
  have := glg_run (P := P) (m := k - 1) h0 (m - k + 1) (fun j a b => h j (by omega) (by omega))
  rwa [show k - 1 + (m - k + 1) = m by omega] at this
theorem glg_no {P : Nat → Int32} {k m : Nat} (hk : 1 ≤ k) (hm : k ≤ m + 1) (h : ∀ j, k ≤ j → j ≤ m → ¬ P j = 8) : (glg P m).1 = (glg P (k - 1)).1 ∧ (glg P m).2.1 = (glg P (k - 1)).2.1 := by
  have := glg_past (P := P) (m := k - 1) (m + 1 - k) (fun j a b => h j (by omega) (by omega))
  rwa [show k - 1 + (m + 1 - k) = m by omega] at this
theorem glg_le (P : Nat → Int32) : ∀ n : Nat, (glg P n).1 ≤ n ∧ (glg P n).2.1 ≤ n ∧ (glg P n).2.2 ≤ n
  | 0 => ⟨Nat.le_refl _, Nat.le_refl _, Nat.le_refl _⟩
  | n + 1 => by
    obtain ⟨h1, h2, h3⟩ := glg_le P n
    have h4 := gbg_le P 8 (n + 1)
    by_cases z : P (n + 1) = 8
    · rw [glg_1 z]
      split
      · exact ⟨h4, by show (glg P n).2.2 + 1 ≤ n + 1; omega, by show (glg P n).2.2 + 1 ≤ n + 1; omega⟩
      · exact ⟨by show (glg P n).1 ≤ n + 1; omega, by show (glg P n).2.1 ≤ n + 1; omega, by show (glg P n).2.2 + 1 ≤ n + 1; omega⟩
    · rw [glg_0 z]
      exact ⟨by show (glg P n).1 ≤ n + 1; omega, by show (glg P n).2.1 ≤ n + 1; omega, Nat.zero_le _⟩
set_option maxHeartbeats 4000000 in
set_option maxRecDepth 100000 in
/-- numbersAt(place) -/
theorem c_numbers (l : Launch) (D : va_G) (tys : List (ClassId × FieldType)) (X : va_W) (L : List Nat) (S : gS) (sz : Nat) {P : Nat → Int32} {i h0 lo : Nat} {sv rv : Int32} {g : List (Nat × Nat × Int32)} (hX : X[i]? = some (gO h0 lo sv rv)) (hw0 : gwf P 1 g) (hmx : gmx P g) (hch : gch L S (some lo) g) (p0 : Int32) : Met l yX1_numbersAt wsX1_numbersAt ({ frames := 2, cells := 0, slots := 0, locals := 40 } : Room) (gP D tys [.ref h0, .int p0] (X ++ va_pl L (gE S)) sz gN) (va_Qi (fun (r : Int32) (_ : Unit) => r = nI (gct P p0 5000)) (fun _ t => gWd D tys (va_A (X ++ va_pl L (gE S)) sz) (X ++ va_pl L (gE S)) t) (va_A (X ++ va_pl L (gE S)) sz)) 0 0 (va_A (X ++ va_pl L (gE S)) sz) := by
  refine g_ofW (cc := cX1_numbersAt) (maxL := 2) (ret := some .int) (by decide) rfl (Nat.le_of_ble_eq_true rfl) ?_
  intro p e s m below meth c hx hb hr hml hts hown hlocks hin hsz hP hK hD hA hS hG ls hl
  subst hsz
  have hown : s.vm.findClass RX1 = some m.cls := hown
  have hl : lv_has ls 2 [(0, .ref h0), (1, .int p0)] := hl
  refine lv_aload_n hx hb dX1_numbersAt_0 rfl (lv_at hl 0 rfl) ?_
  refine lv_iload_n hx hb dX1_numbersAt_1 rfl (lv_at hl 1 rfl) ?_
  refine lv_sipush (v := 5001) hx hb dX1_numbersAt_2 (by decide) ?_
  refine g_calli (va_runV (As := [.int p0, .int 5001]) (rest := []) ⟨hx, hb, hml, hown, hts⟩ (c_nab l D tys X L S s.heap.size hX hw0 hmx hch p0 (nu := 5001) (by decide) (Nat.le_refl _)) (cwV 2 hts gX1_numbersAt_X1_numbersAtBelow rfl rfl rfl (by decide +kernel) ⟨Nat.le_of_ble_eq_true rfl, Nat.le_of_ble_eq_true rfl⟩) (gP_V (va_recv hK hP (ci := 1) rfl (g_inX hX)) hP hK hD gBl_N (fun U _ hW => hG.warm hW)) rfl rfl hl.1 rfl (lv_room (Nat.le_of_ble_eq_true rfl)) dX1_numbersAt_5 ⟨(Nat.zero_le _), (Nat.zero_le _)⟩) hD hS hA (fun r u H locs hr1 hP hD hS => ?_)
  exact g_reti hx hb hr hlocks hK r () hP hD hS (Nat.le_refl _) (Nat.le_refl _) hr1 dX1_numbersAt_8
set_option maxHeartbeats 4000000 in
set_option maxRecDepth 100000 in
/-- longestRange: its loop, from its head to the end -/
theorem longest_loop {p : Program} {l : Launch} {e : Env} {s : State} {m : MethodId} {args : Array Value} {below : List Frame} {meth : Method} {c : Code} {D : va_G} {tys : List (ClassId × FieldType)} {X : va_W} {L : List Nat} {S : gS} {P : Nat → Int32} {h0 : Nat} (h00 : P 0 = -1) (hx : p.tables.exec = Jvm.exec) (hb : c.code = cX1_longestRange) (hr : meth.sig.returnType = some .int) (hml : c.maxLocals = 5) (hts : ∀ w ∈ wsX1_longestRange, w.before args s = true) (hown : s.vm.findClass RX1 = some m.cls) (hlocks : meth.locks = false) (hK : va_K D vwCl tys s) (hG : gN s) (hA : ∀ q : Nat, s.heap.size ≤ q → va_A (X ++ va_pl L (gE S)) s.heap.size q) :
    ∀ (n k : Nat) (g : List (Nat × Nat × Int32)) (x : Option Nat) (bb mm rg : Int32) (H : Heap) (locs : List Loc) (ls : Array Slot), 5001 - k < n → 1 ≤ k → gwf P k g → gmx P g → gch L S x g → bb = nI (glg P (k - 1)).1 - 1 → mm = nI (glg P (k - 1)).2.1 → rg = nI (gbg P 8 (k - 1)) → va_P D vwCl (X ++ va_pl L (gE S)) H → va_D (va_A (X ++ va_pl L (gE S)) s.heap.size) (X ++ va_pl L (gE S)) → va_S (va_A (X ++ va_pl L (gE S)) s.heap.size) s.heap H locs → lv_has ls 5 [(0, .ref h0), (1, .int bb), (2, .int mm), (3, .int rg), (4, va_rf x)] →
    W p l e ({ frames := 1, cells := 0, slots := 0, locals := 20 } : Room) s m args below meth c H locs 0 0 (MQ below (va_Qi (fun (r : Int32) (_ : Unit) => r = nI (glg P 5000).1 - 1) (fun _ t => gWd D tys (va_A (X ++ va_pl L (gE S)) s.heap.size) (X ++ va_pl L (gE S)) t) (va_A (X ++ va_pl L (gE S)) s.heap.size)) args s 0 0 (va_A (X ++ va_pl L (gE S)) s.heap.size)) (F0 m 12 ls []) := by
  have hi0 := i0_longestRange
  obtain ⟨⟨nf_first, nf_last, nf_place, nf_next⟩, nm_init, nm_length, nm_short, nm_absorb⟩ := hG
  have f_place := va_Nw.use (A := args) rfl nf_place
  have f_next := va_Nw.use (A := args) rfl nf_next
  intro n
  induction n with
  | zero => intro k g x bb mm rg H locs ls hn; exact absurd hn (Nat.not_lt_zero _)
  | succ n ih =>
    intro k g x bb mm rg H locs ls hn hk1 hw0 hmx hch hbb hmm hrg hP hD hS hl
    cases g with
    | nil =>
      have hk5 : k = 5001 := hw0
      have hch : x = none := hch
      subst hch
      refine lv_aloadN hx hb dX1_longestRange_12 (lv_at hl 4 rfl) ?_
      refine lv_ifnullN (tgt := 57) hx hb dX1_longestRange_14 (by decide) ?_
      refine lv_iload_n hx hb dX1_longestRange_57 rfl (lv_at hl 1 rfl) ?_
      exact g_reti hx hb hr hlocks hK (bb) () hP hD hS (Nat.le_refl _) (Nat.le_refl _) (by rw [hbb, hk5]) dX1_longestRange_58
    | cons d r =>
      obtain ⟨a1, nx1, rfl, e2, e3, e4⟩ := hch
      obtain ⟨df, dl, dp⟩ := d
      obtain ⟨x1, x2, x3, x4, x5⟩ := hw0
      obtain ⟨m1, m2⟩ := hmx
      have x1 : df = k := x1
      subst x1
      have x2 : df ≤ dl := x2
      have x3 : dl ≤ 5000 := x3
      have x4 : ∀ j, df ≤ j → j ≤ dl → P j = dp := x4
      have x5 : gwf P (dl + 1) r := x5
      have m1 : df = 1 ∨ ¬ P (df - 1) = dp := m1
      obtain ⟨k1, hk10, hk1x⟩ := gE_get (X := X) e2 e3
      have hle := glg_le P (df - 1)
      refine lv_aload hx hb dX1_longestRange_12 (lv_at hl 4 rfl) ?_
      refine lv_ifnull hx hb dX1_longestRange_14 ?_
      refine lv_aload hx hb dX1_longestRange_17 (lv_at hl 4 rfl) ?_
      refine va_getN (D := D) (ci := 0) (v := .int dp) (C := RX0) (T := TX0) (N := 4) hx hb hts hi0 hown hK hP k1 hk1x rfl 2 (by decide) f_place (fun _ h9 => h9) rfl dX1_longestRange_19 ?_
      refine lv_bipush (v := 8) hx hb dX1_longestRange_22 (by decide) ?_
      refine lv_icmp_ne (tgt := 47) hx hb dX1_longestRange_24 (by decide) (fun c2 => ?_) (fun c2 => ?_)
      · have h9 : gbg P 8 dl = gbg P 8 (df - 1) := gbg_past hk1 (by omega) (fun j h1 h2 => by rw [x4 j h1 h2]; exact c2)
        obtain ⟨h8, h7⟩ := glg_no (P := P) (m := dl) hk1 (by omega) (fun j h1 h2 => by rw [x4 j h1 h2]; exact c2)
        refine lv_aload hx hb dX1_longestRange_47 (lv_at hl 4 rfl) ?_
        refine va_getN (D := D) (ci := 0) (v := va_rf nx1) (C := RX0) (T := TX0) (N := 4) hx hb hts hi0 hown hK hP k1 hk1x rfl 3 (by decide) f_next (fun _ h9 => h9) rfl dX1_longestRange_49 ?_
        refine lq_astore (lv' := [(4, va_rf nx1), (0, .ref h0), (1, .int bb), (2, .int mm), (3, .int rg)]) hx hb dX1_longestRange_52 hl (by decide) rfl (fun ls hl => ?_)
        refine lv_goto (tgt := 12) hx hb dX1_longestRange_54 (by decide) ?_
        exact ih (dl + 1) r nx1 bb mm rg H locs ls (by omega) (by omega) x5 m2 e4 (by rw [hbb, show dl + 1 - 1 = dl by omega, h8]) (by rw [hmm, show dl + 1 - 1 = dl by omega, h7]) (by rw [hrg, show dl + 1 - 1 = dl by omega, h9]) hP hD hS (lv_sub hl [1, 2, 3, 4, 0] rfl)
      · subst c2
        have m3 : ¬ P (df - 1) = 8 := by rcases m1 with z | z; rw [z, Nat.sub_self, h00]; decide; exact z
        have h9 : gbg P 8 dl = gbg P 8 (df - 1) + 1 := gbg_to hk1 x2 x4 m3
        have h8 := glg_to hk1 x2 x4 m3
        refine lv_aload hx hb dX1_longestRange_27 (lv_at hl 4 rfl) ?_
        refine g_calli (va_runVN (C := RX0) (As := []) (rest := []) ⟨hx, hb, hml, hown, hts⟩ (c_len l D tys X L S H.size e2 e3 x2) ⟨va_cnB 0 hts gX1_longestRange_X0_length_n99 rfl rfl rfl nm_length (hts (.initialized RX0) (by decide +kernel)) (by decide +kernel) ⟨Nat.le_of_ble_eq_true rfl, Nat.le_of_ble_eq_true rfl⟩, hts (.instanceMethod yX0_length) (by decide +kernel), hts (.selects RX0 yX0_length yX0_length) (by decide +kernel)⟩ (gP_V (va_recv hK hP (ci := 0) rfl hk1x) hP hK hD gBl_T (fun _ _ _ => trivial)) rfl rfl hl.1 rfl (lv_room (Nat.le_of_ble_eq_true rfl)) dX1_longestRange_29 ⟨(Nat.zero_le _), (Nat.zero_le _)⟩) hD hS hA (fun r u H locs hr1 hP hD hS => ?_)
        subst hr1
        refine lv_iload_n hx hb dX1_longestRange_32 rfl (lv_at hl 2 rfl) ?_
        refine lv_icmp_le (tgt := 44) hx hb dX1_longestRange_33 (by decide) (fun c3 => ?_) (fun c3 => ?_)
        · have hz : ¬ (glg P (df - 1)).2.1 < dl - df + 1 := fun z => by rw [hmm] at c3; exact nI_ge z (by omega) c3
          rw [if_neg hz] at h8
          refine lv_iinc (v := nI (gbg P 8 dl)) (lv' := [(3, .int (nI (gbg P 8 dl))), (0, .ref h0), (1, .int bb), (2, .int mm), (4, .ref a1)]) hx hb dX1_longestRange_44 hl (k := 3) rfl (by rw [hrg, h9, ← nI_1]; rfl) (by decide) rfl (fun ls hl => ?_)
          refine lv_aload hx hb dX1_longestRange_47 (lv_at hl 4 rfl) ?_
          refine va_getN (D := D) (ci := 0) (v := va_rf nx1) (C := RX0) (T := TX0) (N := 4) hx hb hts hi0 hown hK hP k1 hk1x rfl 3 (by decide) f_next (fun _ h9 => h9) rfl dX1_longestRange_49 ?_
          refine lq_astore (lv' := [(4, va_rf nx1), (3, .int (nI (gbg P 8 dl))), (0, .ref h0), (1, .int bb), (2, .int mm)]) hx hb dX1_longestRange_52 hl (by decide) rfl (fun ls hl => ?_)
          refine lv_goto (tgt := 12) hx hb dX1_longestRange_54 (by decide) ?_
          exact ih (dl + 1) r nx1 bb mm _ H locs ls (by omega) (by omega) x5 m2 e4 (by rw [hbb, show dl + 1 - 1 = dl by omega, h8]) (by rw [hmm, show dl + 1 - 1 = dl by omega, h8]) (by rw [show dl + 1 - 1 = dl by omega]) hP hD hS (lv_sub hl [2, 3, 4, 1, 0] rfl)
        · have hz : (glg P (df - 1)).2.1 < dl - df + 1 := by rcases Nat.lt_or_ge (glg P (df - 1)).2.1 (dl - df + 1) with z | z; exact z; exact absurd (by rw [hmm]; exact nI_le z (by omega)) c3
          rw [if_pos hz] at h8
          refine lv_aload hx hb dX1_longestRange_36 (lv_at hl 4 rfl) ?_
          refine g_calli (va_runVN (C := RX0) (As := []) (rest := []) ⟨hx, hb, hml, hown, hts⟩ (c_len l D tys X L S H.size e2 e3 x2) ⟨va_cnB 0 hts gX1_longestRange_X0_length_n99 rfl rfl rfl nm_length (hts (.initialized RX0) (by decide +kernel)) (by decide +kernel) ⟨Nat.le_of_ble_eq_true rfl, Nat.le_of_ble_eq_true rfl⟩, hts (.instanceMethod yX0_length) (by decide +kernel), hts (.selects RX0 yX0_length yX0_length) (by decide +kernel)⟩ (gP_V (va_recv hK hP (ci := 0) rfl hk1x) hP hK hD gBl_T (fun _ _ _ => trivial)) rfl rfl hl.1 rfl (lv_room (Nat.le_of_ble_eq_true rfl)) dX1_longestRange_38 ⟨(Nat.zero_le _), (Nat.zero_le _)⟩) hD hS hA (fun r u H locs hr1 hP hD hS => ?_)
          subst hr1
          refine lv_istore_n (lv' := [(2, .int (nI (dl - df + 1))), (0, .ref h0), (1, .int bb), (3, .int rg), (4, .ref a1)]) hx hb dX1_longestRange_41 rfl hl (by decide) rfl (fun ls hl => ?_)
          refine lv_iload_n hx hb dX1_longestRange_42 rfl (lv_at hl 3 rfl) ?_
          refine lv_istore_n (lv' := [(1, .int rg), (2, .int (nI (dl - df + 1))), (0, .ref h0), (3, .int rg), (4, .ref a1)]) hx hb dX1_longestRange_43 rfl hl (by decide) rfl (fun ls hl => ?_)
          refine lv_iinc (v := nI (gbg P 8 dl)) (lv' := [(3, .int (nI (gbg P 8 dl))), (1, .int rg), (2, .int (nI (dl - df + 1))), (0, .ref h0), (4, .ref a1)]) hx hb dX1_longestRange_44 hl (k := 3) rfl (by rw [hrg, h9, ← nI_1]; rfl) (by decide) rfl (fun ls hl => ?_)
          refine lv_aload hx hb dX1_longestRange_47 (lv_at hl 4 rfl) ?_
          refine va_getN (D := D) (ci := 0) (v := va_rf nx1) (C := RX0) (T := TX0) (N := 4) hx hb hts hi0 hown hK hP k1 hk1x rfl 3 (by decide) f_next (fun _ h9 => h9) rfl dX1_longestRange_49 ?_
          refine lq_astore (lv' := [(4, va_rf nx1), (3, .int (nI (gbg P 8 dl))), (1, .int rg), (2, .int (nI (dl - df + 1))), (0, .ref h0)]) hx hb dX1_longestRange_52 hl (by decide) rfl (fun ls hl => ?_)
          refine lv_goto (tgt := 12) hx hb dX1_longestRange_54 (by decide) ?_
          exact ih (dl + 1) r nx1 _ _ _ H locs ls (by omega) (by omega) x5 m2 e4 (by rw [hrg, show dl + 1 - 1 = dl by omega, h8, nI_pred]) (by rw [show dl + 1 - 1 = dl by omega, h8]) (by rw [show dl + 1 - 1 = dl by omega]) hP hD hS (lv_sub hl [4, 2, 3, 1, 0] rfl)
set_option maxHeartbeats 4000000 in
set_option maxRecDepth 100000 in
/-- longestRange() -/
theorem c_longest (l : Launch) (D : va_G) (tys : List (ClassId × FieldType)) (X : va_W) (L : List Nat) (S : gS) (sz : Nat) {P : Nat → Int32} {i h0 lo : Nat} {sv rv : Int32} {g : List (Nat × Nat × Int32)} (hX : X[i]? = some (gO h0 lo sv rv)) (hw0 : gwf P 1 g) (hmx : gmx P g) (hch : gch L S (some lo) g) (h00 : P 0 = -1) : Met l yX1_longestRange wsX1_longestRange ({ frames := 1, cells := 0, slots := 0, locals := 20 } : Room) (gP D tys [.ref h0] (X ++ va_pl L (gE S)) sz gN) (va_Qi (fun (r : Int32) (_ : Unit) => r = nI (glg P 5000).1 - 1) (fun _ t => gWd D tys (va_A (X ++ va_pl L (gE S)) sz) (X ++ va_pl L (gE S)) t) (va_A (X ++ va_pl L (gE S)) sz)) 0 0 (va_A (X ++ va_pl L (gE S)) sz) := by
  refine g_ofW (cc := cX1_longestRange) (maxL := 5) (ret := some .int) (by decide) rfl (Nat.le_of_ble_eq_true rfl) ?_
  intro p e s m below meth c hx hb hr hml hts hown hlocks hin hsz hP hK hD hA hS hG ls hl
  subst hsz
  have hown : s.vm.findClass RX1 = some m.cls := hown
  have hl : lv_has ls 5 [(0, .ref h0)] := hl
  refine lv_iconst (v := -1) hx hb dX1_longestRange_0 (by decide) ?_
  refine lv_istore_n (lv' := [(1, .int (-1)), (0, .ref h0)]) hx hb dX1_longestRange_1 rfl hl (by decide) rfl (fun ls hl => ?_)
  refine lv_iconst (v := 0) hx hb dX1_longestRange_2 (by decide) ?_
  refine lv_istore_n (lv' := [(2, .int 0), (1, .int (-1)), (0, .ref h0)]) hx hb dX1_longestRange_3 rfl hl (by decide) rfl (fun ls hl => ?_)
  refine lv_iconst (v := 0) hx hb dX1_longestRange_4 (by decide) ?_
  refine lv_istore_n (lv' := [(3, .int 0), (2, .int 0), (1, .int (-1)), (0, .ref h0)]) hx hb dX1_longestRange_5 rfl hl (by decide) rfl (fun ls hl => ?_)
  refine lv_aload_n hx hb dX1_longestRange_6 rfl (lv_at hl 3 rfl) ?_
  refine va_get (D := D) (ci := 1) (v := .ref lo) (C := RX1) (T := TX1) (N := 3) hx hb hts i1_longestRange hown hK hP i (g_inX hX) rfl 0 (by decide) (hts (.fieldLink RX1 14 "NumberGoblets" "lowest" "LNumberGoblets$Stretch;") (by decide +kernel)) (fun _ h9 => h9) rfl dX1_longestRange_7 ?_
  refine lv_astore (lv' := [(4, .ref lo), (3, .int 0), (2, .int 0), (1, .int (-1)), (0, .ref h0)]) hx hb dX1_longestRange_10 hl (by decide) rfl (fun ls hl => ?_)
  exact longest_loop h00 hx hb hr hml hts hown hlocks hK hG hA 5001 1 g (some lo) (-1) 0 0 _ _ ls (by omega) (Nat.le_refl _) hw0 hmx hch (show (-1 : Int32) = nI 0 - 1 by decide) rfl rfl hP hD hS (lv_sub hl [4, 3, 2, 1, 0] rfl)
set_option maxHeartbeats 4000000 in
set_option maxRecDepth 100000 in
/-- joinNeighbours: its loop, from its head on; what lies behind it is the caller's -/
theorem join_loop {p : Program} {l : Launch} {e : Env} {s : State} {m : MethodId} {args : Array Value} {below : List Frame} {meth : Method} {c : Code} {Q : State → Prop} {R : Room} {D : va_G} {tys : List (ClassId × FieldType)} {X w0 : va_W} {L : List Nat} {P : Nat → Int32} {h0 : Nat} (hR : 1 ≤ R.frames ∧ 21 ≤ R.locals) (hx : p.tables.exec = Jvm.exec) (hb : c.code = cX1_joinNeighbours) (hml : c.maxLocals = 2) (hts : ∀ w ∈ wsX1_joinNeighbours, w.before args s = true) (hown : s.vm.findClass RX1 = some m.cls) (hK : va_K D vwCl tys s) (hG : gN s) (hA : ∀ q : Nat, s.heap.size ≤ q → va_A w0 s.heap.size q) :
    ∀ (n k : Nat) (g : List (Nat × Nat × Int32)) (x : Option Nat) (S : gS) (H : Heap) (locs : List Loc) (ls : Array Slot), 5001 - k < n → 1 ≤ k → gwf P k g → (g = [] ∨ k = 1 ∨ ¬ P (k - 1) = P k) → gch L S x g → va_P D vwCl (X ++ va_pl L (gE S)) H → va_D (va_A w0 s.heap.size) (X ++ va_pl L (gE S)) → va_S (va_A w0 s.heap.size) s.heap H locs → lv_has ls 2 [(0, .ref h0), (1, va_rf x)] →
    (∀ (S' : gS) (g' : List (Nat × Nat × Int32)) (H : Heap) (locs : List Loc) (ls : Array Slot), gch L S' x g' → gwf P k g' → gmx P g' → (∀ b ∈ L, (S b).1 < k → S' b = S b) → va_P D vwCl (X ++ va_pl L (gE S')) H → va_D (va_A w0 s.heap.size) (X ++ va_pl L (gE S')) → va_S (va_A w0 s.heap.size) s.heap H locs → W p l e R s m args below meth c H locs 0 0 Q (F0 m 21 ls [])) →
    W p l e R s m args below meth c H locs 0 0 Q (F0 m 5 ls []) := by
  have hi0 := i0_joinNeighbours
  obtain ⟨⟨nf_first, nf_last, nf_place, nf_next⟩, nm_init, nm_length, nm_short, nm_absorb⟩ := id hG
  have f_next := va_Nw.use (A := args) rfl nf_next
  intro n
  induction n with
  | zero => intro k g x S H locs ls hn; exact absurd hn (Nat.not_lt_zero _)
  | succ n ih =>
    intro k g x S H locs ls hn hk1 hw0 hhd hch hP hD hS hl hend
    cases g with
    | nil =>
      have hx0 : x = none := hch
      subst hx0
      refine lv_aload_nN hx hb dX1_joinNeighbours_5 rfl (lv_at hl 1 rfl) ?_
      refine lv_ifnullN (tgt := 21) hx hb dX1_joinNeighbours_6 (by decide) ?_
      exact hend S [] H locs ls rfl hw0 trivial (fun _ _ _ => rfl) hP hD hS
    | cons d r =>
      obtain ⟨a1, nx1, rfl, e2, e3, e4⟩ := hch
      obtain ⟨df, dl, dp⟩ := d
      obtain ⟨x1, x2, x3, x4, x5⟩ := id hw0
      have x1 : df = k := x1
      subst x1
      have x2 : df ≤ dl := x2
      have x4 : ∀ j, df ≤ j → j ≤ dl → P j = dp := x4
      have e3 : S a1 = (df, dl, dp, nx1) := e3
      obtain ⟨k1, hk10, hk1x⟩ := gE_get (X := X) e2 e3
      refine lv_aload_n hx hb dX1_joinNeighbours_5 rfl (lv_at hl 1 rfl) ?_
      refine lv_ifnull hx hb dX1_joinNeighbours_6 ?_
      refine lv_aload_n hx hb dX1_joinNeighbours_9 rfl (lv_at hl 1 rfl) ?_
      refine g_callv (va_runVN (C := RX0) (As := []) (rest := []) ⟨hx, hb, hml, hown, hts⟩ (c_absorb l D tys X L S H.size P e2 e3 hw0 e4) ⟨va_cnB 0 hts gX1_joinNeighbours_X0_absorbNextOnesOfSamePlace_n116 rfl rfl rfl nm_absorb (hts (.initialized RX0) (by decide +kernel)) (by decide +kernel) ⟨hR.1, hR.2⟩, hts (.instanceMethod yX0_absorbNextOnesOfSamePlace) (by decide +kernel), hts (.selects RX0 yX0_absorbNextOnesOfSamePlace yX0_absorbNextOnesOfSamePlace) (by decide +kernel)⟩ (gP_V (va_recv hK hP (ci := 0) rfl hk1x) hP hK hD gBl_T (fun _ _ _ => trivial)) rfl rfl hl.1 rfl (lv_room (Nat.le_of_ble_eq_true rfl)) dX1_joinNeighbours_10 ⟨(Nat.zero_le _), (Nat.zero_le _)⟩) hD hS hA (fun u H locs hu hP hD hS => ?_)
      obtain ⟨la, y⟩ := u
      obtain ⟨r', f1, f2, f3⟩ := hu
      have f1 : gch L (va_up S a1 (df, la, dp, y)) y r' := f1
      obtain ⟨y1, y2, y3, y4, y5⟩ := f2
      have y2 : df ≤ la := y2
      have y3 : la ≤ 5000 := y3
      have y4 : ∀ j, df ≤ j → j ≤ la → P j = dp := y4
      have y5 : gwf P (la + 1) r' := y5
      have f3 : r' = [] ∨ ¬ P (la + 1) = dp := f3
      obtain ⟨k2, hk20, hk2⟩ := gE_get (X := X) (S := va_up S a1 (df, la, dp, y)) e2 (va_up_self _ _ _)
      refine lv_aload_n hx hb dX1_joinNeighbours_13 rfl (lv_at hl 1 rfl) ?_
      refine va_getN (D := D) (ci := 0) (v := va_rf y) (C := RX0) (T := TX0) (N := 4) hx hb hts hi0 hown hK hP k2 hk2 rfl 3 (by decide) f_next (fun _ h9 => h9) rfl dX1_joinNeighbours_14 ?_
      refine lq_astore_n (lv' := [(1, va_rf y), (0, .ref h0)]) hx hb dX1_joinNeighbours_17 rfl hl (by decide) rfl (fun ls hl => ?_)
      refine lv_goto (tgt := 5) hx hb dX1_joinNeighbours_18 (by decide) ?_
      refine ih (la + 1) r' y _ H locs ls (by omega) (by omega) y5 ?_ f1 hP hD hS (lv_sub hl [1, 0] rfl) ?_
      · rcases f3 with z | z
        · exact Or.inl z
        · exact Or.inr (Or.inr (by rw [Nat.add_sub_cancel, y4 la y2 (Nat.le_refl _)]; exact fun q => z q.symm))
      · intro S2 g2 H locs ls q1 q2 q3 q4 hP hD hS
        have q5 : S2 a1 = (df, la, dp, y) := by
          have := q4 a1 e2 (by rw [va_up_self]; show df < la + 1; omega)
          rw [this, va_up_self]
        refine hend S2 ((df, la, dp) :: g2) H locs ls ⟨a1, y, rfl, e2, q5, q1⟩ ⟨rfl, y2, y3, y4, q2⟩ ⟨?_, q3⟩ (fun b hb hk => ?_) hP hD hS
        · rcases hhd with z | z | z
          · cases z
          · exact Or.inl z
          · exact Or.inr (by show ¬ P (df - 1) = dp; rw [← x4 df (Nat.le_refl _) x2]; exact z)
        · have hba : b ≠ a1 := fun z => by subst z; rw [e3] at hk; have hk : df < df := hk; omega
          rw [q4 b hb (by rw [va_up_ne _ _ hba]; omega), va_up_ne _ _ hba]
set_option maxHeartbeats 4000000 in
set_option maxRecDepth 100000 in
/-- joinNeighbours() -/
theorem c_join (l : Launch) (D : va_G) (tys : List (ClassId × FieldType)) (X : va_W) (L : List Nat) (S : gS) (sz : Nat) {P : Nat → Int32} {i h0 lo : Nat} {sv rv : Int32} {g : List (Nat × Nat × Int32)} (hX : X[i]? = some (gO h0 lo sv rv)) (hw0 : gwf P 1 g) (hch : gch L S (some lo) g) : Met l yX1_joinNeighbours wsX1_joinNeighbours ({ frames := 1, cells := 0, slots := 0, locals := 21 } : Room) (gP D tys [.ref h0] (X ++ va_pl L (gE S)) sz gN) (va_Qv (fun S' : gS => ∃ g', gch L S' (some lo) g' ∧ gwf P 1 g' ∧ gmx P g') (fun S' t => gWd D tys (va_A (X ++ va_pl L (gE S)) sz) (X ++ va_pl L (gE S')) t) (va_A (X ++ va_pl L (gE S)) sz)) 0 0 (va_A (X ++ va_pl L (gE S)) sz) := by
  refine g_ofW (cc := cX1_joinNeighbours) (maxL := 2) (ret := none) (by decide) rfl (Nat.le_of_ble_eq_true rfl) ?_
  intro p e s m below meth c hx hb hr hml hts hown hlocks hin hsz hP hK hD hA hS hG ls hl
  subst hsz
  have hown : s.vm.findClass RX1 = some m.cls := hown
  have hl : lv_has ls 2 [(0, .ref h0)] := hl
  refine lv_aload_n hx hb dX1_joinNeighbours_0 rfl (lv_at hl 0 rfl) ?_
  refine va_get (D := D) (ci := 1) (v := .ref lo) (C := RX1) (T := TX1) (N := 3) hx hb hts i1_joinNeighbours hown hK hP i (g_inX hX) rfl 0 (by decide) (hts (.fieldLink RX1 14 "NumberGoblets" "lowest" "LNumberGoblets$Stretch;") (by decide +kernel)) (fun _ h9 => h9) rfl dX1_joinNeighbours_1 ?_
  refine lv_astore_n (lv' := [(1, .ref lo), (0, .ref h0)]) hx hb dX1_joinNeighbours_4 rfl hl (by decide) rfl (fun ls hl => ?_)
  refine join_loop ⟨Nat.le_refl _, Nat.le_refl _⟩ hx hb hml hts hown hK hG hA 5001 1 g (some lo) S _ _ ls (by omega) (Nat.le_refl _) hw0 (Or.inr (Or.inl rfl)) hch hP hD hS (lv_sub hl [1, 0] rfl) (fun S' g' H locs ls q1 q2 q3 _ hP hD hS => ?_)
  exact g_retv hx hb hr hlocks hK S' hP hD hS (Nat.le_refl _) (Nat.le_refl _) ⟨g', q1, q2, q3⟩ dX1_joinNeighbours_21
end
section
/-! NumberGoblets: move, moveAll -/
theorem gct_step {P : Nat → Int32} {p : Int32} {k j : Nat} (hk : 1 ≤ k) (h : k ≤ j) (hj : P j = p) : gct P p (k - 1) + 1 ≤ gct P p j := by
  have h1 := gct_mono' P p (m := k - 1) (n := j - 1) (by omega)
  have h2 : gct P p j = gct P p (j - 1) + 1 := by
    have := gct_yes (P := P) (p := p) (n := j - 1) (by rw [show j - 1 + 1 = j by omega]; exact hj)
    rwa [show j - 1 + 1 = j by omega] at this
  omega
set_option maxHeartbeats 4000000 in
set_option maxRecDepth 100000 in
/-- move: its loop, from its head on; what lies behind it is the caller's -/
theorem move_loop {p : Program} {l : Launch} {e : Env} {s : State} {m : MethodId} {args : Array Value} {below : List Frame} {meth : Method} {c : Code} {Q : State → Prop} {R : Room} {D : va_G} {tys : List (ClassId × FieldType)} {X w0 : va_W} {P : Nat → Int32} {h0 stay cnt : Nat} {fr to : Int32} (hstay : stay ≤ 5000) (hc1 : 1 ≤ cnt) (hc2 : cnt ≤ 5000) (hR : 3 ≤ R.frames ∧ 58 ≤ R.locals ∧ 2 ≤ R.cells ∧ 8 ≤ R.slots) (hx : p.tables.exec = Jvm.exec) (hb : c.code = cX1_move) (hml : c.maxLocals = 8) (hts : ∀ w ∈ wsX1_move, w.before args s = true) (hown : s.vm.findClass RX1 = some m.cls) (hK : va_K D vwCl tys s) (hG : gN s) (hA : ∀ q : Nat, s.heap.size ≤ q → va_A w0 s.heap.size q) :
    ∀ (n k : Nat) (g : List (Nat × Nat × Int32)) (x : Option Nat) (L : List Nat) (S : gS) (st mv kc ns : Nat) (H : Heap) (locs : List Loc) (ls : Array Slot), 5001 - k < n → 1 ≤ k → gwf P k g → gch L S x g → st = stay - gct P fr (k - 1) → mv = cnt - (gct P fr (k - 1) - stay) → kc + min st 1 + min mv 1 ≤ 2 → ns + 4 * min st 1 + 4 * min mv 1 ≤ 8 → va_P D vwCl (X ++ va_pl L (gE S)) H → va_D (va_A w0 s.heap.size) (X ++ va_pl L (gE S)) → va_S (va_A w0 s.heap.size) s.heap H locs → lv_has ls 8 [(0, .ref h0), (1, .int fr), (2, .int to), (3, .int (nI stay)), (4, .int (nI cnt)), (5, .int (nI st)), (6, .int (nI mv)), (7, va_rf x)] →
    (∀ (L' : List Nat) (S' : gS) (g' : List (Nat × Nat × Int32)) (mv' kc' ns' : Nat) (H : Heap) (locs : List Loc) (ls : Array Slot), gch L' S' x g' → gwf (gmv P fr to stay cnt) k g' → (∀ b ∈ L, (S b).1 < k → b ∈ L' ∧ S' b = S b) → mv' ≤ cnt → cnt - mv' = min cnt (gct P fr 5000 - stay) → kc' ≤ 2 → ns' ≤ 8 → va_P D vwCl (X ++ va_pl L' (gE S')) H → va_D (va_A w0 s.heap.size) (X ++ va_pl L' (gE S')) → va_S (va_A w0 s.heap.size) s.heap H locs → lv_has ls 8 [(0, .ref h0), (4, .int (nI cnt)), (6, .int (nI mv'))] → W p l e R s m args below meth c H locs kc' ns' Q (F0 m 99 ls [])) →
    W p l e R s m args below meth c H locs kc ns Q (F0 m 13 ls []) := by
  have hi0 := i0_move
  obtain ⟨⟨nf_first, nf_last, nf_place, nf_next⟩, nm_init, nm_length, nm_short, nm_absorb⟩ := id hG
  have f_place := va_Nw.use (A := args) rfl nf_place
  have f_next := va_Nw.use (A := args) rfl nf_next
  intro n
  induction n with
  | zero => intro k g x L S st mv kc ns H locs ls hn; exact absurd hn (Nat.not_lt_zero _)
  | succ n ih =>
    intro k g x L S st mv kc ns H locs ls hn hk1 hw0 hch hst hmv hkc hns hP hD hS hl hend
    have hk5 := gwf_le hw0
    have hgc := gct_le P fr (k - 1)
    cases g with
    | nil =>
      have hx0 : x = none := hch
      subst hx0
      have hk6 : k = 5001 := hw0
      refine lv_aloadN hx hb dX1_move_13 (lv_at hl 7 rfl) ?_
      refine lv_ifnullN (tgt := 99) hx hb dX1_move_15 (by decide) ?_
      refine hend L S [] mv kc ns H locs ls rfl hk6 (fun b hb _ => ⟨hb, rfl⟩) (by omega) ?_ (by omega) (by omega) hP hD hS (lv_sub hl [0, 4, 6] rfl)
      have hmv : mv = cnt - (gct P fr 5000 - stay) := by rw [hmv, hk6]
      omega
    | cons d r =>
      obtain ⟨a1, nx1, rfl, e2, e3, e4⟩ := id hch
      obtain ⟨df, dl, dp⟩ := d
      obtain ⟨x1, x2, x3, x4, x5⟩ := id hw0
      have x1 : df = k := x1
      subst x1
      have x2 : df ≤ dl := x2
      have x3 : dl ≤ 5000 := x3
      have x4 : ∀ j, df ≤ j → j ≤ dl → P j = dp := x4
      have x5 : gwf P (dl + 1) r := x5
      have e3 : S a1 = (df, dl, dp, nx1) := e3
      have e4 : gch L S nx1 r := e4
      obtain ⟨k1, hk10, hk1x⟩ := gE_get (X := X) e2 e3
      have hfin : ∀ (L1 : List Nat) (S1 : gS) (en : Nat) (np : Int32) (nx2 : Option Nat) (g1 : List (Nat × Nat × Int32)) (st2 mv2 kc2 ns2 : Nat) (H : Heap) (locs : List Loc) (ls : Array Slot), df ≤ en → en ≤ 5000 → gwf P (en + 1) g1 → (∀ j, df ≤ j → j ≤ en → gmv P fr to stay cnt j = np) → S1 a1 = (df, en, np, nx2) → a1 ∈ L1 → gch L1 S1 nx2 g1 → (∀ b ∈ L, b ≠ a1 → b ∈ L1 ∧ S1 b = S b) → st2 = stay - gct P fr en → mv2 = cnt - (gct P fr en - stay) → kc2 + min st2 1 + min mv2 1 ≤ 2 → ns2 + 4 * min st2 1 + 4 * min mv2 1 ≤ 8 → va_P D vwCl (X ++ va_pl L1 (gE S1)) H → va_D (va_A w0 s.heap.size) (X ++ va_pl L1 (gE S1)) → va_S (va_A w0 s.heap.size) s.heap H locs → lv_has ls 8 [(0, .ref h0), (1, .int fr), (2, .int to), (3, .int (nI stay)), (4, .int (nI cnt)), (5, .int (nI st2)), (6, .int (nI mv2)), (7, .ref a1)] → W p l e R s m args below meth c H locs kc2 ns2 Q (F0 m 89 ls []) := by
        intro L1 S1 en np nx2 g1 st2 mv2 kc2 ns2 H locs ls f1 f2 f3 f4 f5 f6 f7 f8 f9 f10 f11 f12 hP hD hS hl
        obtain ⟨k2, hk20, hk2⟩ := gE_get (X := X) f6 f5
        refine lv_aload hx hb dX1_move_89 (lv_at hl 7 rfl) ?_
        refine va_getN (D := D) (ci := 0) (v := va_rf nx2) (C := RX0) (T := TX0) (N := 4) hx hb hts hi0 hown hK hP k2 hk2 rfl 3 (by decide) f_next (fun _ h9 => h9) rfl dX1_move_91 ?_
        refine lq_astore (lv' := [(7, va_rf nx2), (0, .ref h0), (1, .int fr), (2, .int to), (3, .int (nI stay)), (4, .int (nI cnt)), (5, .int (nI st2)), (6, .int (nI mv2))]) hx hb dX1_move_94 hl (by decide) rfl (fun ls hl => ?_)
        refine lv_goto (tgt := 13) hx hb dX1_move_96 (by decide) ?_
        refine ih (en + 1) g1 nx2 L1 S1 st2 mv2 kc2 ns2 H locs ls (by omega) (by omega) f3 f7 (by rw [Nat.add_sub_cancel]; exact f9) (by rw [Nat.add_sub_cancel]; exact f10) f11 f12 hP hD hS (lv_sub hl [1, 2, 3, 4, 5, 6, 7, 0] rfl) ?_
        intro L' S' g' mv' kc' ns' H locs ls q1 q2 q3 q4 q5 q6 q7 hP hD hS hl
        obtain ⟨r1, r2⟩ := q3 a1 f6 (by rw [f5]; show df < en + 1; omega)
        refine hend L' S' ((df, en, np) :: g') mv' kc' ns' H locs ls ⟨a1, nx2, rfl, r1, r2.trans f5, q1⟩ ⟨rfl, f1, f2, f4, q2⟩ (fun b hb hk => ?_) q4 q5 q6 q7 hP hD hS hl
        have hba : b ≠ a1 := fun z => by subst z; rw [e3] at hk; have hk : df < df := hk; omega
        obtain ⟨t1, t2⟩ := f8 b hb hba
        obtain ⟨t3, t4⟩ := q3 b t1 (by rw [t2]; omega)
        exact ⟨t3, t4.trans t2⟩
      refine lv_aload hx hb dX1_move_13 (lv_at hl 7 rfl) ?_
      refine lv_ifnull hx hb dX1_move_15 ?_
      refine lv_iload hx hb dX1_move_18 (lv_at hl 6 rfl) ?_
      refine lv_if_le (tgt := 99) hx hb dX1_move_20 (by decide) (fun c1 => ?_) (fun c1 => ?_)
      · have hmv0 : mv = 0 := by rcases Nat.eq_zero_or_pos mv with z | z; exact z; exact absurd c1 (nI_nle z (by omega))
        have hm := gct_mono' P fr (m := df - 1) (n := 5000) (by omega)
        refine hend L S ((df, dl, dp) :: r) mv kc ns H locs ls hch (gwf_cong _ df hw0 (fun j h1 h2 => gmv_out ?_)) (fun b hb _ => ⟨hb, rfl⟩) (by omega) (by omega) (by omega) (by omega) hP hD hS (lv_sub hl [0, 4, 6] rfl)
        by_cases z : P j = fr
        · have := gct_step hk1 h1 z; exact Or.inr (Or.inr (by omega))
        · exact Or.inl z
      · have hmv1 : 1 ≤ mv := by rcases Nat.eq_zero_or_pos mv with z | z; exact absurd (by rw [z]; exact Int32.le_refl _) c1; exact z
        have hskip : ¬ dp = fr → ∀ (ls : Array Slot), lv_has ls 8 [(0, .ref h0), (1, .int fr), (2, .int to), (3, .int (nI stay)), (4, .int (nI cnt)), (5, .int (nI st)), (6, .int (nI mv)), (7, .ref a1)] → W p l e R s m args below meth c H locs kc ns Q (F0 m 57 ls []) := by
          intro hne ls hl
          have h9 : gct P fr dl = gct P fr (df - 1) := gct_past (by omega) (fun j h1 h2 => by rw [x4 j h1 h2]; exact hne)
          refine lv_aload hx hb dX1_move_57 (lv_at hl 7 rfl) ?_
          refine va_getN (D := D) (ci := 0) (v := .int dp) (C := RX0) (T := TX0) (N := 4) hx hb hts hi0 hown hK hP k1 hk1x rfl 2 (by decide) f_place (fun _ h9 => h9) rfl dX1_move_59 ?_
          refine lv_iload_n hx hb dX1_move_62 rfl (lv_at hl 1 rfl) ?_
          refine lv_icmp_ne (tgt := 89) hx hb dX1_move_63 (by decide) (fun c2 => ?_) (fun c2 => ?_)
          · exact hfin L S dl dp nx1 r st mv kc ns H locs ls x2 x3 x5 (fun j h1 h2 => by rw [gmv_out (Or.inl (by rw [x4 j h1 h2]; exact hne)), x4 j h1 h2]) e3 e2 e4 (fun b hb _ => ⟨hb, rfl⟩) (by rw [h9]; exact hst) (by rw [h9]; exact hmv) hkc hns hP hD hS hl
          · exact absurd c2 hne
        refine lv_aload hx hb dX1_move_23 (lv_at hl 7 rfl) ?_
        refine va_getN (D := D) (ci := 0) (v := .int dp) (C := RX0) (T := TX0) (N := 4) hx hb hts hi0 hown hK hP k1 hk1x rfl 2 (by decide) f_place (fun _ h9 => h9) rfl dX1_move_25 ?_
        refine lv_iload_n hx hb dX1_move_28 rfl (lv_at hl 1 rfl) ?_
        refine lv_icmp_ne (tgt := 57) hx hb dX1_move_29 (by decide) (fun c2 => ?_) (fun c2 => ?_)
        · exact hskip c2 ls hl
        · have c2 := c2.symm
          subst c2
          have h9 : ∀ e, df ≤ e → e ≤ dl → gct P fr e = gct P fr (df - 1) + (e - df + 1) := fun e h1 h2 => gct_to hk1 h1 (fun j h3 h4 => x4 j h3 (by omega))
          refine lv_iload hx hb dX1_move_32 (lv_at hl 5 rfl) ?_
          refine lv_if_le (tgt := 57) hx hb dX1_move_34 (by decide) (fun c3 => ?_) (fun c3 => ?_)
          · have hst0 : st = 0 := by rcases Nat.eq_zero_or_pos st with z | z; exact z; exact absurd c3 (nI_nle z (by omega))
            refine lv_aload hx hb dX1_move_57 (lv_at hl 7 rfl) ?_
            refine va_getN (D := D) (ci := 0) (v := .int fr) (C := RX0) (T := TX0) (N := 4) hx hb hts hi0 hown hK hP k1 hk1x rfl 2 (by decide) f_place (fun _ h9 => h9) rfl dX1_move_59 ?_
            refine lv_iload_n hx hb dX1_move_62 rfl (lv_at hl 1 rfl) ?_
            refine lv_icmp_ne (tgt := 89) hx hb dX1_move_63 (by decide) (fun c4 => ?_) (fun c4 => ?_)
            · exact absurd rfl c4
            · skip
              refine lv_aload hx hb dX1_move_66 (lv_at hl 7 rfl) ?_
              refine lv_iload hx hb dX1_move_68 (lv_at hl 6 rfl) ?_
              rcases Nat.lt_or_ge mv (dl - df + 1) with hlt | hle
              · skip
                refine g_callv (va_runVN (C := RX0) (As := [.int (nI mv)]) (rest := []) ⟨hx, hb, hml, hown, hts⟩ (c_shortB l D tys X L S H.size e2 e3 x2 (by omega) hlt (by omega)) ⟨va_cnB 1 hts gX1_move_X0_shortenTo_n110 rfl rfl rfl nm_short (hts (.initialized RX0) (by decide +kernel)) (by decide +kernel) ⟨by show 2 + 1 ≤ R.frames; omega, by show 8 + (3 + 11) + 36 ≤ R.locals; omega⟩, hts (.instanceMethod yX0_shortenTo) (by decide +kernel), hts (.selects RX0 yX0_shortenTo yX0_shortenTo) (by decide +kernel)⟩ (gP_V (va_recv hK hP (ci := 0) rfl hk1x) hP hK hD gBl_T (fun _ _ _ => trivial)) rfl rfl hl.1 rfl (lv_room (Nat.le_of_ble_eq_true rfl)) dX1_move_70 ⟨by omega, by omega⟩) hD hS hA (fun q H locs hq hP hD hS => ?_)
                have hqa : a1 ≠ q := fun z => hq (z ▸ e2)
                have hL1 : a1 ∈ L ++ [q] := List.mem_append_left _ e2
                obtain ⟨S1, hS1⟩ : ∃ z, z = va_up (va_up S q (df + mv, dl, fr, nx1)) a1 (df, df + mv - 1, fr, some q) := ⟨_, rfl⟩
                rw [← hS1] at hP hD
                have g1 : S1 a1 = (df, df + mv - 1, fr, some q) := by rw [hS1, va_up_self]
                have g2 : S1 q = (df + mv, dl, fr, nx1) := by rw [hS1, va_up_ne _ _ (Ne.symm hqa), va_up_self]
                have g3 : ∀ b ∈ L, b ≠ a1 → b ∈ L ++ [q] ∧ S1 b = S b := fun b hb hba => ⟨List.mem_append_left _ hb, by rw [hS1, va_up_ne _ _ hba, va_up_ne _ _ (show b ≠ q from fun z => hq (by rw [← z]; exact hb))]⟩
                obtain ⟨k3, hk30, hk3⟩ := gE_get (X := X) hL1 g1
                refine lv_iload hx hb dX1_move_73 (lv_at hl 6 rfl) ?_
                refine lv_aload hx hb dX1_move_75 (lv_at hl 7 rfl) ?_
                refine g_calli (va_runVN (C := RX0) (As := []) (rest := [.int (nI mv)]) ⟨hx, hb, hml, hown, hts⟩ (c_len l D tys X (L ++ [q]) S1 H.size hL1 g1 (by omega)) ⟨va_cnB 0 hts gX1_move_X0_length_n99 rfl rfl rfl nm_length (hts (.initialized RX0) (by decide +kernel)) (by decide +kernel) ⟨by show 0 + 1 ≤ R.frames; omega, by show 8 + (1 + 11) + 0 ≤ R.locals; omega⟩, hts (.instanceMethod yX0_length) (by decide +kernel), hts (.selects RX0 yX0_length yX0_length) (by decide +kernel)⟩ (gP_V (va_recv hK hP (ci := 0) rfl hk3) hP hK hD gBl_T (fun _ _ _ => trivial)) rfl rfl hl.1 rfl (lv_room (Nat.le_of_ble_eq_true rfl)) dX1_move_77 ⟨by omega, by omega⟩) hD hS hA (fun r9 u H locs hr1 hP hD hS => ?_)
                subst hr1
                refine lv_isub hx hb dX1_move_80 ?_
                refine g_top (y := nI 0) (by rw [show df + mv - 1 - df + 1 = mv by omega, pk_sub (Nat.le_refl _), Nat.sub_self]) ?_
                refine lv_istore (lv' := [(6, .int (nI 0)), (0, .ref h0), (1, .int fr), (2, .int to), (3, .int (nI stay)), (4, .int (nI cnt)), (5, .int (nI st)), (7, .ref a1)]) hx hb dX1_move_81 hl (by decide) rfl (fun ls hl => ?_)
                refine lv_aload hx hb dX1_move_83 (lv_at hl 7 rfl) ?_
                refine lv_iload_n hx hb dX1_move_85 rfl (lv_at hl 3 rfl) ?_
                have hw := gE_put (f := df) (la := df + mv - 1) (pl := to) (nx := some q) hD hL1 hk30
                refine va_putN (D := D) (ci := 0) (v := .int to) (ty := .int) (C := RX0) (T := TX0) (N := 4) hx hb hts hi0 tyX0 tyX0_ok nmX0 hown hK hP hD hS k3 hk3 rfl 2 (by decide) f_place (fun _ h9 => h9) rfl (by decide +kernel) rfl rfl (Nat.le_of_ble_eq_true rfl) dX1_move_86 (fun H locs hP2 hD2 hS => ?_)
                have hP := g_eqP hw hP2
                have hD := g_eqD hw hD2
                refine hfin (L ++ [q]) _ (df + mv - 1) to (some q) ((df + mv, dl, fr) :: r) st 0 (kc + 1) (ns + 4) H locs ls (by omega) (by omega) ⟨by show df + mv = df + mv - 1 + 1; omega, by show df + mv - 1 + 1 ≤ dl; omega, x3, fun j h1 h2 => x4 j (by omega) h2, x5⟩ (fun j h1 h2 => ?_) (va_up_self _ _ _) hL1 ⟨q, nx1, rfl, List.mem_append_right _ (List.mem_singleton.mpr rfl), ?_, ?_⟩ (fun b hb hba => ⟨(g3 b hb hba).1, by rw [va_up_ne _ _ hba]; exact (g3 b hb hba).2⟩) ?_ ?_ (by omega) (by omega) hP hD hS (lv_sub hl [1, 2, 3, 4, 5, 6, 0, 7] rfl)
                · have := h9 j h1 (by omega); exact gmv_in (x4 j h1 (by omega)) (by omega) (by omega)
                · rw [va_up_ne _ _ (Ne.symm hqa)]; exact g2
                · refine gch_frame r (dl + 1) nx1 x5 (fun b hb hk => ?_) e4
                  have hba : b ≠ a1 := fun z => by subst z; rw [e3] at hk; have hk : dl + 1 ≤ df := hk; omega
                  exact ⟨(g3 b hb hba).1, by rw [va_up_ne _ _ hba]; exact (g3 b hb hba).2⟩
                · have := h9 (df + mv - 1) (by omega) (by omega); omega
                · have := h9 (df + mv - 1) (by omega) (by omega); omega
              · skip
                refine g_callv (va_runVN (C := RX0) (As := [.int (nI mv)]) (rest := []) ⟨hx, hb, hml, hown, hts⟩ (c_shortA l D tys X L S H.size e2 e3 x2 (by omega) hle) ⟨va_cnB 1 hts gX1_move_X0_shortenTo_n110 rfl rfl rfl nm_short (hts (.initialized RX0) (by decide +kernel)) (by decide +kernel) ⟨by show 1 + 1 ≤ R.frames; omega, by show 8 + (3 + 11) + 20 ≤ R.locals; omega⟩, hts (.instanceMethod yX0_shortenTo) (by decide +kernel), hts (.selects RX0 yX0_shortenTo yX0_shortenTo) (by decide +kernel)⟩ (gP_V (va_recv hK hP (ci := 0) rfl hk1x) hP hK hD gBl_T (fun _ _ _ => trivial)) rfl rfl hl.1 rfl (lv_room (Nat.le_of_ble_eq_true rfl)) dX1_move_70 ⟨by omega, by omega⟩) hD hS hA (fun u H locs _ hP hD hS => ?_)
                refine lv_iload hx hb dX1_move_73 (lv_at hl 6 rfl) ?_
                refine lv_aload hx hb dX1_move_75 (lv_at hl 7 rfl) ?_
                refine g_calli (va_runVN (C := RX0) (As := []) (rest := [.int (nI mv)]) ⟨hx, hb, hml, hown, hts⟩ (c_len l D tys X L S H.size e2 e3 x2) ⟨va_cnB 0 hts gX1_move_X0_length_n99 rfl rfl rfl nm_length (hts (.initialized RX0) (by decide +kernel)) (by decide +kernel) ⟨by show 0 + 1 ≤ R.frames; omega, by show 8 + (1 + 11) + 0 ≤ R.locals; omega⟩, hts (.instanceMethod yX0_length) (by decide +kernel), hts (.selects RX0 yX0_length yX0_length) (by decide +kernel)⟩ (gP_V (va_recv hK hP (ci := 0) rfl hk1x) hP hK hD gBl_T (fun _ _ _ => trivial)) rfl rfl hl.1 rfl (lv_room (Nat.le_of_ble_eq_true rfl)) dX1_move_77 ⟨by omega, by omega⟩) hD hS hA (fun r9 u H locs hr1 hP hD hS => ?_)
                subst hr1
                refine lv_isub hx hb dX1_move_80 ?_
                refine g_top (y := nI (mv - (dl - df + 1))) (pk_sub hle) ?_
                refine lv_istore (lv' := [(6, .int (nI (mv - (dl - df + 1)))), (0, .ref h0), (1, .int fr), (2, .int to), (3, .int (nI stay)), (4, .int (nI cnt)), (5, .int (nI st)), (7, .ref a1)]) hx hb dX1_move_81 hl (by decide) rfl (fun ls hl => ?_)
                refine lv_aload hx hb dX1_move_83 (lv_at hl 7 rfl) ?_
                refine lv_iload_n hx hb dX1_move_85 rfl (lv_at hl 3 rfl) ?_
                have hw := gE_put (f := df) (la := dl) (pl := to) (nx := nx1) hD e2 hk10
                refine va_putN (D := D) (ci := 0) (v := .int to) (ty := .int) (C := RX0) (T := TX0) (N := 4) hx hb hts hi0 tyX0 tyX0_ok nmX0 hown hK hP hD hS k1 hk1x rfl 2 (by decide) f_place (fun _ h9 => h9) rfl (by decide +kernel) rfl rfl (Nat.le_of_ble_eq_true rfl) dX1_move_86 (fun H locs hP2 hD2 hS => ?_)
                have hP := g_eqP hw hP2
                have hD := g_eqD hw hD2
                have h8 := h9 dl x2 (Nat.le_refl _)
                refine hfin L _ dl to nx1 r st (mv - (dl - df + 1)) kc ns H locs ls x2 x3 x5 (fun j h1 h2 => ?_) (va_up_self _ _ _) e2 ?_ (fun b hb hba => ⟨hb, va_up_ne _ _ hba⟩) (by omega) (by omega) (by omega) (by omega) hP hD hS (lv_sub hl [1, 2, 3, 4, 5, 6, 0, 7] rfl)
                · have := h9 j h1 h2; exact gmv_in (x4 j h1 h2) (by omega) (by omega)
                · refine gch_frame r (dl + 1) nx1 x5 (fun b hb hk => ⟨hb, ?_⟩) e4
                  have hba : b ≠ a1 := fun z => by subst z; rw [e3] at hk; have hk : dl + 1 ≤ df := hk; omega
                  exact va_up_ne _ _ hba
          · have hst1 : 1 ≤ st := by rcases Nat.eq_zero_or_pos st with z | z; exact absurd (by rw [z]; exact Int32.le_refl _) c3; exact z
            refine lv_aload hx hb dX1_move_37 (lv_at hl 7 rfl) ?_
            refine lv_iload hx hb dX1_move_39 (lv_at hl 5 rfl) ?_
            rcases Nat.lt_or_ge st (dl - df + 1) with hlt | hle
            · skip
              refine g_callv (va_runVN (C := RX0) (As := [.int (nI st)]) (rest := []) ⟨hx, hb, hml, hown, hts⟩ (c_shortB l D tys X L S H.size e2 e3 x2 (by omega) hlt (by omega)) ⟨va_cnB 1 hts gX1_move_X0_shortenTo_n110 rfl rfl rfl nm_short (hts (.initialized RX0) (by decide +kernel)) (by decide +kernel) ⟨by show 2 + 1 ≤ R.frames; omega, by show 8 + (3 + 11) + 36 ≤ R.locals; omega⟩, hts (.instanceMethod yX0_shortenTo) (by decide +kernel), hts (.selects RX0 yX0_shortenTo yX0_shortenTo) (by decide +kernel)⟩ (gP_V (va_recv hK hP (ci := 0) rfl hk1x) hP hK hD gBl_T (fun _ _ _ => trivial)) rfl rfl hl.1 rfl (lv_room (Nat.le_of_ble_eq_true rfl)) dX1_move_41 ⟨by omega, by omega⟩) hD hS hA (fun q H locs hq hP hD hS => ?_)
              have hqa : a1 ≠ q := fun z => hq (z ▸ e2)
              have hL1 : a1 ∈ L ++ [q] := List.mem_append_left _ e2
              obtain ⟨S1, hS1⟩ : ∃ z, z = va_up (va_up S q (df + st, dl, fr, nx1)) a1 (df, df + st - 1, fr, some q) := ⟨_, rfl⟩
              rw [← hS1] at hP hD
              have g1 : S1 a1 = (df, df + st - 1, fr, some q) := by rw [hS1, va_up_self]
              have g2 : S1 q = (df + st, dl, fr, nx1) := by rw [hS1, va_up_ne _ _ (Ne.symm hqa), va_up_self]
              have g3 : ∀ b ∈ L, b ≠ a1 → b ∈ L ++ [q] ∧ S1 b = S b := fun b hb hba => ⟨List.mem_append_left _ hb, by rw [hS1, va_up_ne _ _ hba, va_up_ne _ _ (show b ≠ q from fun z => hq (by rw [← z]; exact hb))]⟩
              obtain ⟨k3, hk30, hk3⟩ := gE_get (X := X) hL1 g1
              refine lv_iload hx hb dX1_move_44 (lv_at hl 5 rfl) ?_
              refine lv_aload hx hb dX1_move_46 (lv_at hl 7 rfl) ?_
              refine g_calli (va_runVN (C := RX0) (As := []) (rest := [.int (nI st)]) ⟨hx, hb, hml, hown, hts⟩ (c_len l D tys X (L ++ [q]) S1 H.size hL1 g1 (by omega)) ⟨va_cnB 0 hts gX1_move_X0_length_n99 rfl rfl rfl nm_length (hts (.initialized RX0) (by decide +kernel)) (by decide +kernel) ⟨by show 0 + 1 ≤ R.frames; omega, by show 8 + (1 + 11) + 0 ≤ R.locals; omega⟩, hts (.instanceMethod yX0_length) (by decide +kernel), hts (.selects RX0 yX0_length yX0_length) (by decide +kernel)⟩ (gP_V (va_recv hK hP (ci := 0) rfl hk3) hP hK hD gBl_T (fun _ _ _ => trivial)) rfl rfl hl.1 rfl (lv_room (Nat.le_of_ble_eq_true rfl)) dX1_move_48 ⟨by omega, by omega⟩) hD hS hA (fun r9 u H locs hr1 hP hD hS => ?_)
              subst hr1
              refine lv_isub hx hb dX1_move_51 ?_
              refine g_top (y := nI 0) (by rw [show df + st - 1 - df + 1 = st by omega, pk_sub (Nat.le_refl _), Nat.sub_self]) ?_
              refine lv_istore (lv' := [(5, .int (nI 0)), (0, .ref h0), (1, .int fr), (2, .int to), (3, .int (nI stay)), (4, .int (nI cnt)), (6, .int (nI mv)), (7, .ref a1)]) hx hb dX1_move_52 hl (by decide) rfl (fun ls hl => ?_)
              refine lv_goto (tgt := 89) hx hb dX1_move_54 (by decide) ?_
              refine hfin (L ++ [q]) S1 (df + st - 1) fr (some q) ((df + st, dl, fr) :: r) 0 mv (kc + 1) (ns + 4) H locs ls (by omega) (by omega) ⟨by show df + st = df + st - 1 + 1; omega, by show df + st - 1 + 1 ≤ dl; omega, x3, fun j h1 h2 => x4 j (by omega) h2, x5⟩ (fun j h1 h2 => ?_) g1 hL1 ⟨q, nx1, rfl, List.mem_append_right _ (List.mem_singleton.mpr rfl), g2, ?_⟩ g3 ?_ ?_ (by omega) (by omega) hP hD hS (lv_sub hl [1, 2, 3, 4, 5, 0, 6, 7] rfl)
              · have := h9 j h1 (by omega); rw [gmv_out (Or.inr (Or.inl (by omega))), x4 j h1 (by omega)]
              · refine gch_frame r (dl + 1) nx1 x5 (fun b hb hk => ?_) e4
                have hba : b ≠ a1 := fun z => by subst z; rw [e3] at hk; have hk : dl + 1 ≤ df := hk; omega
                exact g3 b hb hba
              · have := h9 (df + st - 1) (by omega) (by omega); omega
              · have := h9 (df + st - 1) (by omega) (by omega); omega
            · skip
              refine g_callv (va_runVN (C := RX0) (As := [.int (nI st)]) (rest := []) ⟨hx, hb, hml, hown, hts⟩ (c_shortA l D tys X L S H.size e2 e3 x2 (by omega) hle) ⟨va_cnB 1 hts gX1_move_X0_shortenTo_n110 rfl rfl rfl nm_short (hts (.initialized RX0) (by decide +kernel)) (by decide +kernel) ⟨by show 1 + 1 ≤ R.frames; omega, by show 8 + (3 + 11) + 20 ≤ R.locals; omega⟩, hts (.instanceMethod yX0_shortenTo) (by decide +kernel), hts (.selects RX0 yX0_shortenTo yX0_shortenTo) (by decide +kernel)⟩ (gP_V (va_recv hK hP (ci := 0) rfl hk1x) hP hK hD gBl_T (fun _ _ _ => trivial)) rfl rfl hl.1 rfl (lv_room (Nat.le_of_ble_eq_true rfl)) dX1_move_41 ⟨by omega, by omega⟩) hD hS hA (fun u H locs _ hP hD hS => ?_)
              refine lv_iload hx hb dX1_move_44 (lv_at hl 5 rfl) ?_
              refine lv_aload hx hb dX1_move_46 (lv_at hl 7 rfl) ?_
              refine g_calli (va_runVN (C := RX0) (As := []) (rest := [.int (nI st)]) ⟨hx, hb, hml, hown, hts⟩ (c_len l D tys X L S H.size e2 e3 x2) ⟨va_cnB 0 hts gX1_move_X0_length_n99 rfl rfl rfl nm_length (hts (.initialized RX0) (by decide +kernel)) (by decide +kernel) ⟨by show 0 + 1 ≤ R.frames; omega, by show 8 + (1 + 11) + 0 ≤ R.locals; omega⟩, hts (.instanceMethod yX0_length) (by decide +kernel), hts (.selects RX0 yX0_length yX0_length) (by decide +kernel)⟩ (gP_V (va_recv hK hP (ci := 0) rfl hk1x) hP hK hD gBl_T (fun _ _ _ => trivial)) rfl rfl hl.1 rfl (lv_room (Nat.le_of_ble_eq_true rfl)) dX1_move_48 ⟨by omega, by omega⟩) hD hS hA (fun r9 u H locs hr1 hP hD hS => ?_)
              subst hr1
              refine lv_isub hx hb dX1_move_51 ?_
              refine g_top (y := nI (st - (dl - df + 1))) (pk_sub hle) ?_
              refine lv_istore (lv' := [(5, .int (nI (st - (dl - df + 1)))), (0, .ref h0), (1, .int fr), (2, .int to), (3, .int (nI stay)), (4, .int (nI cnt)), (6, .int (nI mv)), (7, .ref a1)]) hx hb dX1_move_52 hl (by decide) rfl (fun ls hl => ?_)
              refine lv_goto (tgt := 89) hx hb dX1_move_54 (by decide) ?_
              have h8 := h9 dl x2 (Nat.le_refl _)
              refine hfin L S dl fr nx1 r (st - (dl - df + 1)) mv kc ns H locs ls x2 x3 x5 (fun j h1 h2 => ?_) e3 e2 e4 (fun b hb _ => ⟨hb, rfl⟩) (by omega) (by omega) (by omega) (by omega) hP hD hS (lv_sub hl [1, 2, 3, 4, 5, 0, 6, 7] rfl)
              have := h9 j h1 h2; rw [gmv_out (Or.inr (Or.inl (by omega))), x4 j h1 h2]
set_option maxHeartbeats 4000000 in
set_option maxRecDepth 100000 in
/-- move(from, to, staying, count) -/
theorem c_move (l : Launch) (D : va_G) (tys : List (ClassId × FieldType)) (X : va_W) (L : List Nat) (S : gS) (sz : Nat) {P : Nat → Int32} {i h0 lo : Nat} {sv rv : Int32} {g : List (Nat × Nat × Int32)} (hX : X[i]? = some (gO h0 lo sv rv)) (hw0 : gwf P 1 g) (hmx : gmx P g) (hch : gch L S (some lo) g) (fr to : Int32) {stay cnt : Nat} (hstay : stay ≤ 5000) (hc1 : 1 ≤ cnt) (hc2 : cnt ≤ 5000) : Met l yX1_move wsX1_move ({ frames := 3, cells := 2, slots := 8, locals := 58 } : Room) (gP D tys [.ref h0, .int fr, .int to, .int (nI stay), .int (nI cnt)] (X ++ va_pl L (gE S)) sz gN) (va_Qi (fun (r : Int32) (u : List Nat × gS) => r = nI (min cnt (gct P fr 5000 - stay)) ∧ ∃ g', gch u.1 u.2 (some lo) g' ∧ gwf (gmv P fr to stay cnt) 1 g' ∧ gmx (gmv P fr to stay cnt) g') (fun u t => gWd D tys (va_A (X ++ va_pl L (gE S)) sz) (X ++ va_pl u.1 (gE u.2)) t) (va_A (X ++ va_pl L (gE S)) sz)) 2 8 (va_A (X ++ va_pl L (gE S)) sz) := by
  refine g_ofW (cc := cX1_move) (maxL := 8) (ret := some .int) (by decide) rfl (Nat.le_of_ble_eq_true rfl) ?_
  intro p e s m below meth c hx hb hr hml hts hown hlocks hin hsz hP hK hD hA hS hG ls hl
  subst hsz
  have hown : s.vm.findClass RX1 = some m.cls := hown
  have hl : lv_has ls 8 [(0, .ref h0), (1, .int fr), (2, .int to), (3, .int (nI stay)), (4, .int (nI cnt))] := hl
  refine lv_iload_n hx hb dX1_move_0 rfl (lv_at hl 3 rfl) ?_
  refine lv_istore (lv' := [(5, .int (nI stay)), (0, .ref h0), (1, .int fr), (2, .int to), (3, .int (nI stay)), (4, .int (nI cnt))]) hx hb dX1_move_1 hl (by decide) rfl (fun ls hl => ?_)
  refine lv_iload hx hb dX1_move_3 (lv_at hl 5 rfl) ?_
  refine lv_istore (lv' := [(6, .int (nI cnt)), (5, .int (nI stay)), (0, .ref h0), (1, .int fr), (2, .int to), (3, .int (nI stay)), (4, .int (nI cnt))]) hx hb dX1_move_5 hl (by decide) rfl (fun ls hl => ?_)
  refine lv_aload_n hx hb dX1_move_7 rfl (lv_at hl 2 rfl) ?_
  refine va_get (D := D) (ci := 1) (v := .ref lo) (C := RX1) (T := TX1) (N := 3) hx hb hts i1_move hown hK hP i (g_inX hX) rfl 0 (by decide) (hts (.fieldLink RX1 14 "NumberGoblets" "lowest" "LNumberGoblets$Stretch;") (by decide +kernel)) (fun _ h9 => h9) rfl dX1_move_8 ?_
  refine lv_astore (lv' := [(7, .ref lo), (6, .int (nI cnt)), (5, .int (nI stay)), (0, .ref h0), (1, .int fr), (2, .int to), (3, .int (nI stay)), (4, .int (nI cnt))]) hx hb dX1_move_11 hl (by decide) rfl (fun ls hl => ?_)
  refine move_loop hstay hc1 hc2 ⟨Nat.le_refl _, Nat.le_refl _, Nat.le_refl _, Nat.le_refl _⟩ hx hb hml hts hown hK hG hA 5001 1 g (some lo) L S stay cnt 0 0 _ _ ls (by omega) (Nat.le_refl _) hw0 hch (by show stay = stay - 0; omega) (by show cnt = cnt - (0 - stay); omega) (by omega) (by omega) hP hD hS (lv_sub hl [3, 4, 5, 6, 7, 2, 1, 0] rfl) (fun L' S' g' mv' kc' ns' H locs ls q1 q2 _ q4 q5 q6 q7 hP hD hS hl => ?_)
  refine lv_aload_n hx hb dX1_move_99 rfl (lv_at hl 0 rfl) ?_
  refine W.widen q6 q7 ?_
  refine g_callv (va_runV (As := []) (rest := []) ⟨hx, hb, hml, hown, hts⟩ (c_join l D tys X L' S' H.size hX q2 q1) (cwV 0 hts gX1_move_X1_joinNeighbours rfl rfl rfl (by decide +kernel) ⟨Nat.le_of_ble_eq_true rfl, Nat.le_of_ble_eq_true rfl⟩) (gP_V (va_recv hK hP (ci := 1) rfl (g_inX hX)) hP hK hD gBl_N (fun U _ hW => hG.warm hW)) rfl rfl hl.1 rfl (lv_room (Nat.le_of_ble_eq_true rfl)) dX1_move_100 ⟨Nat.le_of_ble_eq_true rfl, Nat.le_of_ble_eq_true rfl⟩) hD hS hA (fun S2 H locs hu hP hD hS => ?_)
  obtain ⟨g2, t1, t2, t3⟩ := hu
  refine lv_iload hx hb dX1_move_103 (lv_at hl 1 rfl) ?_
  refine lv_iload hx hb dX1_move_105 (lv_at hl 2 rfl) ?_
  refine lv_isub hx hb dX1_move_107 ?_
  refine g_top (y := nI (cnt - mv')) (pk_sub q4) ?_
  exact g_reti hx hb hr hlocks hK _ (L', S2) hP hD hS (Nat.le_refl _) (Nat.le_refl _) ⟨by rw [q5], g2, t1, t2, t3⟩ dX1_move_108
set_option maxHeartbeats 4000000 in
set_option maxRecDepth 100000 in
/-- moveAll(from, to) -/
theorem c_moveAll (l : Launch) (D : va_G) (tys : List (ClassId × FieldType)) (X : va_W) (L : List Nat) (S : gS) (sz : Nat) {P : Nat → Int32} {i h0 lo : Nat} {sv rv : Int32} {g : List (Nat × Nat × Int32)} (hX : X[i]? = some (gO h0 lo sv rv)) (hw0 : gwf P 1 g) (hmx : gmx P g) (hch : gch L S (some lo) g) (fr to : Int32) : Met l yX1_moveAll wsX1_moveAll ({ frames := 4, cells := 2, slots := 8, locals := 86 } : Room) (gP D tys [.ref h0, .int fr, .int to] (X ++ va_pl L (gE S)) sz gN) (va_Qi (fun (r : Int32) (u : List Nat × gS) => r = nI (gct P fr 5000) ∧ ∃ g', gch u.1 u.2 (some lo) g' ∧ gwf (gmv P fr to 0 5000) 1 g' ∧ gmx (gmv P fr to 0 5000) g') (fun u t => gWd D tys (va_A (X ++ va_pl L (gE S)) sz) (X ++ va_pl u.1 (gE u.2)) t) (va_A (X ++ va_pl L (gE S)) sz)) 2 8 (va_A (X ++ va_pl L (gE S)) sz) := by
  refine g_ofW (cc := cX1_moveAll) (maxL := 3) (ret := some .int) (by decide) rfl (Nat.le_of_ble_eq_true rfl) ?_
  intro p e s m below meth c hx hb hr hml hts hown hlocks hin hsz hP hK hD hA hS hG ls hl
  subst hsz
  have hown : s.vm.findClass RX1 = some m.cls := hown
  have hl : lv_has ls 3 [(0, .ref h0), (1, .int fr), (2, .int to)] := hl
  refine lv_aload_n hx hb dX1_moveAll_0 rfl (lv_at hl 0 rfl) ?_
  refine lv_iload_n hx hb dX1_moveAll_1 rfl (lv_at hl 1 rfl) ?_
  refine lv_iload_n hx hb dX1_moveAll_2 rfl (lv_at hl 2 rfl) ?_
  refine lv_iconst (v := 0) hx hb dX1_moveAll_3 (by decide) ?_
  refine lv_sipush (v := 5000) hx hb dX1_moveAll_4 (by decide) ?_
  refine g_calli (va_runV (As := [.int fr, .int to, .int 0, .int 5000]) (rest := []) ⟨hx, hb, hml, hown, hts⟩ (c_move l D tys X L S s.heap.size hX hw0 hmx hch fr to (stay := 0) (cnt := 5000) (by omega) (by omega) (Nat.le_refl _)) (cwV 4 hts gX1_moveAll_X1_move rfl rfl rfl (by decide +kernel) ⟨Nat.le_of_ble_eq_true rfl, Nat.le_of_ble_eq_true rfl⟩) (gP_V (va_recv hK hP (ci := 1) rfl (g_inX hX)) hP hK hD gBl_N (fun U _ hW => hG.warm hW)) rfl rfl hl.1 rfl (lv_room (Nat.le_of_ble_eq_true rfl)) dX1_moveAll_7 ⟨Nat.le_of_ble_eq_true rfl, Nat.le_of_ble_eq_true rfl⟩) hD hS hA (fun r u H locs hu hP hD hS => ?_)
  have hle := gct_le P fr 5000
  exact g_reti hx hb hr hlocks hK _ u hP hD hS (Nat.le_refl _) (Nat.le_refl _) ⟨by rw [hu.1, Nat.sub_zero, Nat.min_eq_right hle], hu.2⟩ dX1_moveAll_10
end
section
/-! NumberGoblets: throwing -/
abbrev xIAE : String := "java/lang/IllegalArgumentException"
abbrev xISE : String := "java/lang/IllegalStateException"
abbrev xIOB : String := "java/lang/IndexOutOfBoundsException"
abbrev xNM : List String := ["java/lang/RuntimeException", "java/lang/Exception"]
/-- the words of the throws that no list of a method holds -/
def gB : List Cond := [.declares (Bundle.initS "java/lang/RuntimeException"), .declares (Bundle.initS "java/lang/Exception"), .declares (Bundle.initS "java/lang/Throwable"), .castable xIAE xIAE, .castable xISE xISE, .castable xIOB xIOB]
def gSt : List (Nat × String) := [(27, "the size is not above the old one and up to 5000"), (106, "there is no such goblet"), (108, "the count is not 1 to 200"), (52, "the jug is empty"), (55, "the goblet and the jug are empty"), (61, "both goblets are the same"), (71, "the number is not drunk"), (76, "the jug or some goblet is not empty"), (87, "the jug has no such range")]
theorem gB_warm {s U : State} (hW : s.WarmedH U.vm) (h : ∀ w ∈ gB, va_Nw w s) : ∀ w ∈ gB, va_Nw w U := by
  intro w hw
  have h1 := h w hw
  simp only [gB, List.mem_cons, List.not_mem_nil, or_false] at hw
  rcases hw with rfl | rfl | rfl | rfl | rfl | rfl
  · exact va_Nw.warmD hW h1
  · exact va_Nw.warmD hW h1
  · exact va_Nw.warmD hW h1
  · exact va_Nw.warmC hW h1
  · exact va_Nw.warmC hW h1
  · exact va_Nw.warmC hW h1
/-- all that a method of NumberGoblets may need of the start, A: what may be written -/
def gG (A : Nat → Prop) (U : State) : Prop := gN U ∧ (∀ w ∈ gB, va_Nw w U) ∧ (∀ q ∈ gSt, ∃ a, vk_R RX1 q.1 q.2 a U) ∧ vx_Zq Bundle.tN "UNASSIGNED_STACK" Bundle.steD A U U.heap ∧ vx_Zq Bundle.tN "SUPPRESSED_SENTINEL" Bundle.listD A U U.heap
theorem gG.call {A B : Nat → Prop} {s : State} {H : Heap} {locs : List Loc} (h : gG A s) (hS : va_S A s.heap H locs) (hAB : ∀ q, B q → A q) (U : State) (hU : U.heap = H) (hW : s.WarmedH U.vm) : gG B U := by
  obtain ⟨h1, h2, h3, h4, h5⟩ := h
  refine ⟨h1.warm hW, gB_warm hW h2, fun q hq => ?_, ?_, ?_⟩
  · obtain ⟨a, ha⟩ := h3 q hq
    exact ⟨a, vk_R.warm hW ha⟩
  · rw [hU]; exact vx_Zq.moved hW.alike ((h4.kept hS.2.1).narrow hAB)
  · rw [hU]; exact vx_Zq.moved hW.alike ((h5.kept hS.2.1).narrow hAB)
theorem gBl_G {A : Nat → Prop} : gBl (gG A) := fun U g mk a h => gG.call (s := U) (H := U.heap) (locs := []) (U := U.calling g mk a) h va_S.rf (fun _ q => q) rfl (State.WarmedH.refl U)
/-- what a throw leaves -/
def gX {SX : Type} (cond : String → SX → Prop) (wx : SX → va_W) (D : va_G) (tys : List (ClassId × FieldType)) (A : Nat → Prop) : String → State → State → Prop := vx_X (fun _ : SX => True) (fun E u t => cond E u ∧ gWd D tys A (wx u) t) A
section GTHROW
variable {p : Program} {l : Launch} {e : Env} {R : Room} {s : State} {m : MethodId} {args : Array Value} {below : List Frame} {meth : Method} {c : Code} {H : Heap} {locs : List Loc} {cells slots : Nat} {Q : State → Prop}
variable {pc : Nat} {ls : Array Slot} {rest st0 : List Value} {a : Array Value} {A : Nat → Prop} {mc ms : Nat} {D : va_G} {tys : List (ClassId × FieldType)} {w : va_W} {cc : ByteArray}
variable {SX : Type} {cond : String → SX → Prop} {wx : SX → va_W} {Qc : Array Value → State → Outcome → State → Prop}
theorem g_throw {Ts : List Cond} {cls text : String} {ik is ic : Nat} (hx : p.tables.exec = Jvm.exec) (hb : c.code = cc) (hl9 : l.stackTraces = false) (hts : ∀ w ∈ Ts, w.before args s = true) (hown : s.vm.findClass RX1 = some m.cls) (hlocks : meth.locks = false) (hK : va_K D vwCl tys s) (hGG : gG A s) (hsize : ls.size = c.maxLocals) (hout : ∀ x ∈ c.exceptionTable.toList, False)
    (hcls : Bundle.fit cls = true) (hk : Cond.classLink RX1 ik cls ∈ Ts) (hini : Cond.initialized cls ∈ Ts) (hst : (is, text) ∈ gSt) (hin : ∀ w ∈ (vx_atS RX1 ic cls xNM).filter goodWord, w ∈ Ts) (hbad : ∀ w ∈ (vx_atS RX1 ic cls xNM).filter (fun w => !goodWord w), w ∈ gB) (hgood : ∀ w ∈ Cond.classLink RX1 ik cls :: Cond.initialized cls :: vx_atS RX1 ic cls xNM, vx_ot w = true)
    (d0 : decode cc pc = .ok (.new ik, 3)) (d3 : decode cc (pc + 3) = .ok (.dup, 1)) (d4 : decode cc (pc + 4) = .ok (.ldc is, 2)) (d6 : decode cc (pc + 6) = .ok (.invokespecial ic, 3)) (d9 : decode cc (pc + 9) = .ok (.athrow, 1))
    (hR : 6 ≤ R.frames ∧ (rest.map fun v => v.category).sum + 82 ≤ R.locals ∧ cells + 1 ≤ R.cells ∧ slots + 6 ≤ R.slots) (hc : cells + 1 ≤ mc) (hs : slots + 6 ≤ ms) (u : SX) (hcond : cond cls u) (hP : va_P D vwCl (wx u) H) (hD : va_D A (wx u)) (hS : va_S A s.heap H locs) :
    W p l e R s m args below meth c H locs cells slots (vx_MQ below Qc (gX cond wx D tys A) args s mc ms A) (F0 m pc ls rest) := by
  obtain ⟨-, h2, h3, h4, h5⟩ := hGG
  obtain ⟨sa, hsa⟩ := h3 _ hst
  refine vx_throwS hx hb hl9 hown hcls (by decide +kernel) (hts _ hk) (hts _ hini) hsa (vx_hat (B := gB) (fun w hw => hts w (hin w hw)) hbad (fun w hw => va_Nw.use ?_ (h2 w hw))) hgood h4 h5 hS hsize d0 d3 d4 d6 d9 (fun x hx => (hout x hx).elim) (by show 2 + 3 < R.frames; omega) (by show _ + (13 * (2 + 1) + 43) ≤ R.locals; omega) hR.2.2.1 hR.2.2.2 hlocks ?_ hS.2.2 hc hs
  · revert w hw; decide +kernel
  · intro t hal hz hq
    exact ⟨u, trivial, ⟨hcond, hP.kept (fun k q hk => hq q.1 ((hP k q hk).lt)), va_K.moved hal hK, hD⟩, Nat.le_trans hS.1 hz, fun q h1 h2 => (hq q (Nat.lt_of_lt_of_le h1 hS.1)).trans (hS.2.1 q h1 h2)⟩
/-- uncaught: on to the caller -/
theorem g_out {E : String} {ce : Cell} {q : Addr} (hout : ∀ x ∈ c.exceptionTable.toList, False) (hlocks : meth.locks = false) (hK : va_K D vwCl tys s) (hcell : H[q]? = some ce) (hv : ce.vm = .none) (hcl : s.vm.findClass E = some ce.cls) (hc : cells ≤ mc) (hs : slots ≤ ms) (u : SX) (hcond : cond E u) (hP : va_P D vwCl (wx u) H) (hD : va_D A (wx u)) (hS : va_S A s.heap H locs) :
    vx_W p l e R s m args below meth c H locs cells slots (vx_MQ below Qc (gX cond wx D tys A) args s mc ms A) (F0 m pc ls rest) q :=
  vx_out (fun x hx => (hout x hx).elim) hlocks hcell hv hcl (fun t ht hal => ⟨u, trivial, ⟨hcond, by rw [ht]; exact hP, va_K.moved hal hK, hD⟩, hS.F ht⟩) hS.2.2 hc hs
variable {H0 : Heap}
theorem g_xcalli {S : Type} {post : Int32 → S → Prop} {wo : S → va_W} (hr : vx_Run p l e R s m args below meth c H locs cells slots mc ms (F0 m pc ls st0) rest (va_Qi post (fun u t => gWd D tys (va_A w H.size) (wo u) t) (va_A w H.size) a) (gX cond wx D tys (va_A w H.size)) (va_A w H.size)) (hD : va_D A w) (hS : va_S A H0 H locs) (hA : ∀ q, H0.size ≤ q → A q)
    (kx : ∀ (E : String) (ce : Cell) (q9 : Addr) (u : SX) (H1 : Heap) (locs1 : List Loc), cond E u → va_P D vwCl (wx u) H1 → va_D A (wx u) → va_S A H0 H1 locs1 → H1[q9]? = some ce → ce.vm = .none → s.vm.findClass E = some ce.cls → vx_W p l e R s m args below meth c H1 locs1 (cells + mc) (slots + ms) Q (F0 m pc ls rest) q9)
    (kk : ∀ (r : Int32) (u : S) (H1 : Heap) (locs1 : List Loc), post r u → va_P D vwCl (wo u) H1 → va_D A (wo u) → va_S A H0 H1 locs1 → W p l e R s m args below meth c H1 locs1 (cells + mc) (slots + ms) Q (F0 m (pc + 3) ls (.int r :: rest))) : W p l e R s m args below meth c H locs cells slots Q (F0 m pc ls st0) :=
  vx_calli hr hS (fun q _ h => gA_sub hD hS hA q h) (gA_sub hD hS hA) (fun q _ h => gA_sub hD hS hA q h)
    (fun E ce q9 u t H1 locs1 ht _ _ hB _ _ hS1 h1 h2 h3 => kx E ce q9 u H1 locs1 hB.1 (by rw [← ht]; exact hB.2.1) (hB.2.2.2.weaken (fun _ q _ h => gA_sub hD hS hA q.1 h)) hS1 h1 h2 h3)
    (fun r u t H1 locs1 ht _ hp hB _ _ hS1 => kk r u H1 locs1 hp (by rw [← ht]; exact hB.1) (hB.2.2.weaken (fun _ q _ h => gA_sub hD hS hA q.1 h)) hS1)
theorem g_xcallv {S : Type} {post : S → Prop} {wo : S → va_W} (hr : vx_Run p l e R s m args below meth c H locs cells slots mc ms (F0 m pc ls st0) rest (va_Qv post (fun u t => gWd D tys (va_A w H.size) (wo u) t) (va_A w H.size) a) (gX cond wx D tys (va_A w H.size)) (va_A w H.size)) (hD : va_D A w) (hS : va_S A H0 H locs) (hA : ∀ q, H0.size ≤ q → A q)
    (kx : ∀ (E : String) (ce : Cell) (q9 : Addr) (u : SX) (H1 : Heap) (locs1 : List Loc), cond E u → va_P D vwCl (wx u) H1 → va_D A (wx u) → va_S A H0 H1 locs1 → H1[q9]? = some ce → ce.vm = .none → s.vm.findClass E = some ce.cls → vx_W p l e R s m args below meth c H1 locs1 (cells + mc) (slots + ms) Q (F0 m pc ls rest) q9)
    (kk : ∀ (u : S) (H1 : Heap) (locs1 : List Loc), post u → va_P D vwCl (wo u) H1 → va_D A (wo u) → va_S A H0 H1 locs1 → W p l e R s m args below meth c H1 locs1 (cells + mc) (slots + ms) Q (F0 m (pc + 3) ls rest)) : W p l e R s m args below meth c H locs cells slots Q (F0 m pc ls st0) :=
  vx_callv hr hS (fun q _ h => gA_sub hD hS hA q h) (gA_sub hD hS hA) (fun q _ h => gA_sub hD hS hA q h)
    (fun E ce q9 u t H1 locs1 ht _ _ hB _ _ hS1 h1 h2 h3 => kx E ce q9 u H1 locs1 hB.1 (by rw [← ht]; exact hB.2.1) (hB.2.2.2.weaken (fun _ q _ h => gA_sub hD hS hA q.1 h)) hS1 h1 h2 h3)
    (fun u t H1 locs1 ht _ hp hB _ _ hS1 => kk u H1 locs1 hp (by rw [← ht]; exact hB.1) (hB.2.2.weaken (fun _ q _ h => gA_sub hD hS hA q.1 h)) hS1)
end GTHROW
/-- a contract of a method that may throw, out of a walk of its body -/
theorem g_ofX {l : Launch} {y : MethodName} {ws ws' : List Cond} {rm : Room} {D : va_G} {tys : List (ClassId × FieldType)} {av : List Value} {w : va_W} {sz : Nat} {G : State → Prop} {Qc : Array Value → State → Outcome → State → Prop} {XC : String → State → State → Prop} {mc ms : Nat} {cc : ByteArray} {maxL : Nat} {ret : Option FieldType}
    (hy : plainName y.cls = true) (hw : ws = Cond.code y cc maxL ret :: ws') (hn : (lg_sl av).length ≤ maxL)
    (body : ∀ (p : Program) (e : Env) (s : State) (m : MethodId) (below : List Frame) (meth : Method) (c : Code), p.tables.exec = Jvm.exec → c.code = cc → meth.sig.returnType = ret → c.maxLocals = maxL → (∀ w ∈ ws, w.before av.toArray s = true) → s.vm.findClass y.cls = some m.cls → meth.locks = false → (∀ x ∈ c.exceptionTable.toList, False) → s.heap.size = sz → va_P D vwCl w s.heap → va_K D vwCl tys s → va_D (va_A w s.heap.size) w → (∀ q : Nat, s.heap.size ≤ q → va_A w s.heap.size q) → va_S (va_A w s.heap.size) s.heap s.heap [] → G s →
      ∀ ls : Array Slot, lv_has ls maxL (lv_args 0 av) → W p l e rm s m av.toArray below meth c s.heap [] 0 0 (vx_MQ below Qc XC av.toArray s mc ms (va_A w sz)) (F0 m 0 ls [])) : vx_Met l y ws rm (gP D tys av w sz G) Qc XC mc ms (va_A w sz) := by
  refine vx_ofW (cc := cc) (maxL := maxL) (ret := ret) hy hw ?_
  intro p e s m args below meth c s₁ B hml ht hv
  obtain ⟨rfl, hsz, ⟨hP, hK, hD0⟩, hG⟩ := hv
  have hl := lv_entry av (n := maxL) hn
  rw [lg_entry_eq]
  exact body p e s m below meth c B.exec B.bytes B.returns hml (atoms_spec (ws := ws) B.pre) (findClass_of_methodNamed B.named) B.notSynchronized ht hsz hP hK hD0.self (fun q h => Or.inr h) va_S.rf hG _ hl
def gGob (v : Int32) : Prop := ∃ j : Nat, j < 8 ∧ v = nI j
def gCnt (v : Int32) : Prop := ∃ j : Nat, 1 ≤ j ∧ j ≤ 200 ∧ v = nI j
theorem xgood_IAE : ∀ w ∈ Cond.classLink RX1 25 xIAE :: Cond.initialized xIAE :: vx_atS RX1 29 xIAE xNM, vx_ot w = true := by decide +kernel
theorem xbad_IAE : ∀ w ∈ (vx_atS RX1 29 xIAE xNM).filter (fun w => !goodWord w), w ∈ gB := by decide +kernel
theorem xgood_ISE : ∀ w ∈ Cond.classLink RX1 50 xISE :: Cond.initialized xISE :: vx_atS RX1 54 xISE xNM, vx_ot w = true := by decide +kernel
theorem xbad_ISE : ∀ w ∈ (vx_atS RX1 54 xISE xNM).filter (fun w => !goodWord w), w ∈ gB := by decide +kernel
theorem xgood_IOB : ∀ w ∈ Cond.classLink RX1 85 xIOB :: Cond.initialized xIOB :: vx_atS RX1 89 xIOB xNM, vx_ot w = true := by decide +kernel
theorem xbad_IOB : ∀ w ∈ (vx_atS RX1 89 xIOB xNM).filter (fun w => !goodWord w), w ∈ gB := by decide +kernel
theorem xin_checkGoblet : ∀ w ∈ (vx_atS RX1 89 xIOB xNM).filter goodWord, w ∈ wsX1_checkGoblet := by decide +kernel
theorem xk_checkGoblet : Cond.classLink RX1 85 xIOB ∈ wsX1_checkGoblet := by decide +kernel
theorem xi_checkGoblet : Cond.initialized xIOB ∈ wsX1_checkGoblet := by decide +kernel
theorem xin_checkCount : ∀ w ∈ (vx_atS RX1 29 xIAE xNM).filter goodWord, w ∈ wsX1_checkCount := by decide +kernel
theorem xk_checkCount : Cond.classLink RX1 25 xIAE ∈ wsX1_checkCount := by decide +kernel
theorem xi_checkCount : Cond.initialized xIAE ∈ wsX1_checkCount := by decide +kernel
theorem xin_enlarge : ∀ w ∈ (vx_atS RX1 29 xIAE xNM).filter goodWord, w ∈ wsX1_enlarge := by decide +kernel
theorem xk_enlarge : Cond.classLink RX1 25 xIAE ∈ wsX1_enlarge := by decide +kernel
theorem xi_enlarge : Cond.initialized xIAE ∈ wsX1_enlarge := by decide +kernel
theorem xin_pour : ∀ w ∈ (vx_atS RX1 54 xISE xNM).filter goodWord, w ∈ wsX1_pour := by decide +kernel
theorem xk_pour : Cond.classLink RX1 50 xISE ∈ wsX1_pour := by decide +kernel
theorem xi_pour : Cond.initialized xISE ∈ wsX1_pour := by decide +kernel
theorem xin_drink : ∀ w ∈ (vx_atS RX1 54 xISE xNM).filter goodWord, w ∈ wsX1_drink := by decide +kernel
theorem xk_drink : Cond.classLink RX1 50 xISE ∈ wsX1_drink := by decide +kernel
theorem xi_drink : Cond.initialized xISE ∈ wsX1_drink := by decide +kernel
theorem xin_share : ∀ w ∈ (vx_atS RX1 29 xIAE xNM).filter goodWord, w ∈ wsX1_share := by decide +kernel
theorem xk_share : Cond.classLink RX1 25 xIAE ∈ wsX1_share := by decide +kernel
theorem xi_share : Cond.initialized xIAE ∈ wsX1_share := by decide +kernel
theorem xin_giveBack : ∀ w ∈ (vx_atS RX1 54 xISE xNM).filter goodWord, w ∈ wsX1_giveBack := by decide +kernel
theorem xk_giveBack : Cond.classLink RX1 50 xISE ∈ wsX1_giveBack := by decide +kernel
theorem xi_giveBack : Cond.initialized xISE ∈ wsX1_giveBack := by decide +kernel
theorem xin_nextRound : ∀ w ∈ (vx_atS RX1 54 xISE xNM).filter goodWord, w ∈ wsX1_nextRound := by decide +kernel
theorem xk_nextRound : Cond.classLink RX1 50 xISE ∈ wsX1_nextRound := by decide +kernel
theorem xi_nextRound : Cond.initialized xISE ∈ wsX1_nextRound := by decide +kernel
theorem xin_rangeFrom : ∀ w ∈ (vx_atS RX1 89 xIOB xNM).filter goodWord, w ∈ wsX1_rangeFrom := by decide +kernel
theorem xk_rangeFrom : Cond.classLink RX1 85 xIOB ∈ wsX1_rangeFrom := by decide +kernel
theorem xi_rangeFrom : Cond.initialized xIOB ∈ wsX1_rangeFrom := by decide +kernel
theorem xin_rangeTo : ∀ w ∈ (vx_atS RX1 89 xIOB xNM).filter goodWord, w ∈ wsX1_rangeTo := by decide +kernel
theorem xk_rangeTo : Cond.classLink RX1 85 xIOB ∈ wsX1_rangeTo := by decide +kernel
theorem xi_rangeTo : Cond.initialized xIOB ∈ wsX1_rangeTo := by decide +kernel
set_option maxHeartbeats 4000000 in
set_option maxRecDepth 100000 in
/-- checkGoblet(goblet) -/
theorem c_chkG (l : Launch) (hl9 : l.stackTraces = false) (D : va_G) (tys : List (ClassId × FieldType)) (w : va_W) (sz : Nat) (v0 : Int32) : vx_Met l yX1_checkGoblet wsX1_checkGoblet ({ frames := 6, cells := 1, slots := 6, locals := 82 } : Room) (gP D tys [.int v0] w sz (gG (va_A w sz))) (va_Qv (fun _ : Unit => gGob v0) (fun _ t => gWd D tys (va_A w sz) w t) (va_A w sz)) (gX (fun E (_ : Unit) => E = xIOB ∧ ¬ gGob v0) (fun _ => w) D tys (va_A w sz)) 1 6 (va_A w sz) := by
  refine g_ofX (cc := cX1_checkGoblet) (maxL := 1) (ret := none) (by decide) rfl (Nat.le_of_ble_eq_true rfl) ?_
  intro p e s m below meth c hx hb hr hml hts hown hlocks hout hsz hP hK hD hA hS hGG ls hl
  subst hsz
  have hown : s.vm.findClass RX1 = some m.cls := hown
  have hl : lv_has ls 1 [(0, .int v0)] := hl
  refine lv_iload_n hx hb dX1_checkGoblet_0 rfl (lv_at hl 0 rfl) ?_
  refine lv_if_lt (tgt := 10) hx hb dX1_checkGoblet_1 (by decide) (fun c1 => ?_) (fun c1 => ?_)
  · have hno : ¬ gGob v0 := fun ⟨j, h1, h2⟩ => by rw [h2] at c1; exact nI_pos (by omega) c1
    exact g_throw (cls := xIOB) (text := "there is no such goblet") (pc := 10) hx hb hl9 hts hown hlocks hK hGG (hl.1.trans hml.symm) hout (by decide +kernel) xk_checkGoblet xi_checkGoblet (by decide +kernel) xin_checkGoblet xbad_IOB xgood_IOB dX1_checkGoblet_10 dX1_checkGoblet_13 dX1_checkGoblet_14 dX1_checkGoblet_16 dX1_checkGoblet_19 ⟨Nat.le_of_ble_eq_true rfl, Nat.le_of_ble_eq_true rfl, Nat.le_of_ble_eq_true rfl, Nat.le_of_ble_eq_true rfl⟩ (Nat.le_of_ble_eq_true rfl) (Nat.le_of_ble_eq_true rfl) () (⟨rfl, hno⟩) hP hD hS
  · obtain ⟨j, hj, rfl⟩ := nI_of c1
    refine lv_iload_n hx hb dX1_checkGoblet_4 rfl (lv_at hl 0 rfl) ?_
    refine lv_bipush (v := 8) hx hb dX1_checkGoblet_5 (by decide) ?_
    refine lv_icmp_lt (tgt := 20) hx hb dX1_checkGoblet_7 (by decide) (fun c2 => ?_) (fun c2 => ?_)
    · have hj8 : j < 8 := (nI_ltI hj (by omega)).mp c2
      exact vx_ret (g_retv hx hb hr hlocks hK () hP hD hS (Nat.zero_le _) (Nat.zero_le _) ⟨j, hj8, rfl⟩ dX1_checkGoblet_20)
    · have hno : ¬ gGob (nI j) := fun ⟨i, h1, h2⟩ => c2 (by rw [h2]; exact (show nI i < nI 8 from nI_lt h1 (by omega)))
      exact g_throw (cls := xIOB) (text := "there is no such goblet") (pc := 10) hx hb hl9 hts hown hlocks hK hGG (hl.1.trans hml.symm) hout (by decide +kernel) xk_checkGoblet xi_checkGoblet (by decide +kernel) xin_checkGoblet xbad_IOB xgood_IOB dX1_checkGoblet_10 dX1_checkGoblet_13 dX1_checkGoblet_14 dX1_checkGoblet_16 dX1_checkGoblet_19 ⟨Nat.le_of_ble_eq_true rfl, Nat.le_of_ble_eq_true rfl, Nat.le_of_ble_eq_true rfl, Nat.le_of_ble_eq_true rfl⟩ (Nat.le_of_ble_eq_true rfl) (Nat.le_of_ble_eq_true rfl) () (⟨rfl, hno⟩) hP hD hS
set_option maxHeartbeats 4000000 in
set_option maxRecDepth 100000 in
/-- checkCount(count) -/
theorem c_chkC (l : Launch) (hl9 : l.stackTraces = false) (D : va_G) (tys : List (ClassId × FieldType)) (w : va_W) (sz : Nat) (v0 : Int32) : vx_Met l yX1_checkCount wsX1_checkCount ({ frames := 6, cells := 1, slots := 6, locals := 82 } : Room) (gP D tys [.int v0] w sz (gG (va_A w sz))) (va_Qv (fun _ : Unit => gCnt v0) (fun _ t => gWd D tys (va_A w sz) w t) (va_A w sz)) (gX (fun E (_ : Unit) => E = xIAE ∧ ¬ gCnt v0) (fun _ => w) D tys (va_A w sz)) 1 6 (va_A w sz) := by
  refine g_ofX (cc := cX1_checkCount) (maxL := 1) (ret := none) (by decide) rfl (Nat.le_of_ble_eq_true rfl) ?_
  intro p e s m below meth c hx hb hr hml hts hown hlocks hout hsz hP hK hD hA hS hGG ls hl
  subst hsz
  have hown : s.vm.findClass RX1 = some m.cls := hown
  have hl : lv_has ls 1 [(0, .int v0)] := hl
  refine lv_iload_n hx hb dX1_checkCount_0 rfl (lv_at hl 0 rfl) ?_
  refine lv_iconst (v := 1) hx hb dX1_checkCount_1 (by decide) ?_
  refine lv_icmp_lt (tgt := 12) hx hb dX1_checkCount_2 (by decide) (fun c1 => ?_) (fun c1 => ?_)
  · have hno : ¬ gCnt v0 := fun ⟨j, h1, h3, h2⟩ => by rw [h2] at c1; exact nI_nlt h1 (by omega) c1
    exact g_throw (cls := xIAE) (text := "the count is not 1 to 200") (pc := 12) hx hb hl9 hts hown hlocks hK hGG (hl.1.trans hml.symm) hout (by decide +kernel) xk_checkCount xi_checkCount (by decide +kernel) xin_checkCount xbad_IAE xgood_IAE dX1_checkCount_12 dX1_checkCount_15 dX1_checkCount_16 dX1_checkCount_18 dX1_checkCount_21 ⟨Nat.le_of_ble_eq_true rfl, Nat.le_of_ble_eq_true rfl, Nat.le_of_ble_eq_true rfl, Nat.le_of_ble_eq_true rfl⟩ (Nat.le_of_ble_eq_true rfl) (Nat.le_of_ble_eq_true rfl) () (⟨rfl, hno⟩) hP hD hS
  · skip
    refine lv_iload_n hx hb dX1_checkCount_5 rfl (lv_at hl 0 rfl) ?_
    refine lv_sipush (v := 200) hx hb dX1_checkCount_6 (by decide) ?_
    refine lv_icmp_le (tgt := 22) hx hb dX1_checkCount_9 (by decide) (fun c2 => ?_) (fun c2 => ?_)
    · have hok : gCnt v0 := by
        have h1 : ¬ v0 < 0 := fun q => c1 (by rw [Int32.lt_iff_toInt_lt] at q ⊢; have z0 : (0 : Int32).toInt = 0 := rfl; have z1 : (1 : Int32).toInt = 1 := rfl; omega)
        obtain ⟨j, hj, rfl⟩ := nI_of h1
        refine ⟨j, ?_, (nI_leI hj (by omega)).mp c2, rfl⟩
        rcases Nat.eq_zero_or_pos j with z | z
        · subst z; exact absurd (show nI 0 < 1 by decide) c1
        · exact z
      exact vx_ret (g_retv hx hb hr hlocks hK () hP hD hS (Nat.zero_le _) (Nat.zero_le _) hok dX1_checkCount_22)
    · have hno : ¬ gCnt v0 := fun ⟨j, h1, h3, h2⟩ => c2 (by rw [h2]; exact (show nI j ≤ nI 200 from nI_le h3 (by omega)))
      exact g_throw (cls := xIAE) (text := "the count is not 1 to 200") (pc := 12) hx hb hl9 hts hown hlocks hK hGG (hl.1.trans hml.symm) hout (by decide +kernel) xk_checkCount xi_checkCount (by decide +kernel) xin_checkCount xbad_IAE xgood_IAE dX1_checkCount_12 dX1_checkCount_15 dX1_checkCount_16 dX1_checkCount_18 dX1_checkCount_21 ⟨Nat.le_of_ble_eq_true rfl, Nat.le_of_ble_eq_true rfl, Nat.le_of_ble_eq_true rfl, Nat.le_of_ble_eq_true rfl⟩ (Nat.le_of_ble_eq_true rfl) (Nat.le_of_ble_eq_true rfl) () (⟨rfl, hno⟩) hP hD hS
end
section
/-! NumberGoblets: the public methods -/
/-- the chain from lo tells P -/
def gCh (P : Nat → Int32) (lo : Nat) (u : List Nat × gS) : Prop := ∃ g, gch u.1 u.2 (some lo) g ∧ gwf P 1 g ∧ gmx P g
/-- nothing is anywhere outside 1 to 5000 -/
def gOut (P : Nat → Int32) : Prop := ∀ j, j = 0 ∨ 5000 < j → P j = -1
theorem gmv_one {P : Nat → Int32} {fr to : Int32} {v : Nat} (hf : ¬ fr = -1) (ho : gOut P) (hv : 1 ≤ v) (hlow : glow (fun j => P j = fr) 5000 v) : gmv P fr to 0 1 = va_up P v to := by
  rcases hlow with ⟨h, -⟩ | ⟨-, h2, h3, h4⟩
  · omega
  · have h5 : gct P fr (v - 1) = 0 := by
      have := gct_past (P := P) (p := fr) (k := 1) (m := v - 1) (by omega) (fun j a b => h4 j a (by omega))
      exact this
    have h6 : gct P fr v = 1 := by
      have := gct_yes (P := P) (p := fr) (n := v - 1) (by rw [show v - 1 + 1 = v by omega]; exact h3)
      rw [show v - 1 + 1 = v by omega] at this
      omega
    funext j
    by_cases hj : j = v
    · subst hj
      rw [va_up_self]
      exact gmv_in h3 (by omega) (by omega)
    · rw [va_up_ne _ _ hj]
      apply gmv_out
      by_cases z : P j = fr
      · have h1 : 1 ≤ j ∧ j ≤ 5000 := by
          by_cases y : j = 0 ∨ 5000 < j
          · exact absurd (z.symm.trans (ho j y)) hf
          · omega
        have h7 : v < j := by
          rcases Nat.lt_or_ge j v with y | y
          · exact absurd z (h4 j h1.1 y)
          · omega
        have h8 := gct_step (P := P) (p := fr) (k := v + 1) (j := j) (by omega) (by omega) z
        rw [Nat.add_sub_cancel] at h8
        exact Or.inr (Or.inr (by omega))
      · exact Or.inl z
theorem gmv_back {P : Nat → Int32} {fr to : Int32} {v : Nat} (hf : ¬ fr = -1) (ho : gOut P) (hv : P v = fr) : gmv P fr to (gct P fr (v - 1)) 1 = va_up P v to := by
  have hv1 : 1 ≤ v := by
    rcases Nat.eq_zero_or_pos v with z | z
    · exact absurd (hv.symm.trans (ho v (Or.inl z))) hf
    · exact z
  have h6 : gct P fr v = gct P fr (v - 1) + 1 := by
    have := gct_yes (P := P) (p := fr) (n := v - 1) (by rw [show v - 1 + 1 = v by omega]; exact hv)
    rwa [show v - 1 + 1 = v by omega] at this
  funext j
  by_cases hj : j = v
  · subst hj
    rw [va_up_self]
    exact gmv_in hv (by omega) (by omega)
  · rw [va_up_ne _ _ hj]
    apply gmv_out
    by_cases z : P j = fr
    · have hj1 : 1 ≤ j := by
        rcases Nat.eq_zero_or_pos j with y | y
        · exact absurd (z.symm.trans (ho j (Or.inl y))) hf
        · exact y
      rcases Nat.lt_or_ge v j with y | y
      · have h8 := gct_step (P := P) (p := fr) (k := v + 1) (j := j) (by omega) (by omega) z
        rw [Nat.add_sub_cancel] at h8
        exact Or.inr (Or.inr (by omega))
      · have h8 := gct_mono' P fr (m := j) (n := v - 1) (by omega)
        exact Or.inr (Or.inl h8)
    · exact Or.inl z
theorem gmv_none {P : Nat → Int32} {fr to : Int32} {a b : Nat} (hf : ¬ fr = -1) (ho : gOut P) (h : ∀ j, 1 ≤ j → j ≤ 5000 → ¬ P j = fr) : gmv P fr to a b = P := by
  funext j
  apply gmv_out
  refine Or.inl (fun z => ?_)
  by_cases y : j = 0 ∨ 5000 < j
  · exact hf (z.symm.trans (ho j y))
  · exact h j (by omega) (by omega) z
theorem g_setX {X Y : va_W} {i : Nat} {q v : Nat × va_E} (h : X[i]? = some q) : (X ++ Y).set i v = X.set i v ++ Y := List.set_append_left _ _ (List.getElem?_eq_some_iff.mp h).1
theorem g_setX2 {X : va_W} {i : Nat} {q v : Nat × va_E} (h : X[i]? = some q) : (X.set i v)[i]? = some v := by rw [List.getElem?_set_self (List.getElem?_eq_some_iff.mp h).1]
theorem g_max0 {a b : Nat} (ha : a ≤ 5000) (hb : b ≤ 200) : (if (0 : Int32) < nI a - nI b then nI a - nI b else 0) = nI (a - b) := by
  rcases Nat.lt_or_ge a b with z | z
  · have h1 := pk_sneg (a := a) (b := b) (by omega) z
    rw [if_neg (by rw [Int32.lt_iff_toInt_lt] at h1 ⊢; have z0 : (0 : Int32).toInt = 0 := rfl; omega), show a - b = 0 by omega]
    rfl
  · rw [pk_sub z]
    by_cases y : a - b = 0
    · rw [y]; rfl
    · rw [if_pos (show (0 : Int32) < nI (a - b) from nI_lt (a := 0) (by omega) (by omega))]
theorem glow_ex (q : Nat → Prop) : ∀ n : Nat, ∃ v, glow q n v
  | 0 => ⟨0, Or.inl ⟨rfl, fun j h1 h2 => absurd h1 (by omega)⟩⟩
  | n + 1 => by
    obtain ⟨v, hv⟩ := glow_ex q n
    rcases hv with ⟨h1, h2⟩ | ⟨h1, h2, h3, h4⟩
    · by_cases z : q (n + 1)
      · exact ⟨n + 1, Or.inr ⟨by omega, Nat.le_refl _, z, fun j a b => h2 j a (by omega)⟩⟩
      · refine ⟨0, Or.inl ⟨rfl, fun j a b => ?_⟩⟩
        by_cases y : j = n + 1
        · rw [y]; exact z
        · exact h2 j a (by omega)
    · exact ⟨v, Or.inr ⟨h1, by omega, h3, h4⟩⟩
theorem g_neg (j : Nat) (hj : j < 8) : ¬ (-1 : Int32) = nI j := by
  intro h
  have : (nI j).toInt = -1 := by rw [← h]; rfl
  rw [nI_toInt (by omega)] at this
  omega
theorem i1_enlarge : ∀ w ∈ u_ws RX1 TX1 3, w ∈ wsX1_enlarge := by decide +kernel
theorem i1_nextRound : ∀ w ∈ u_ws RX1 TX1 3, w ∈ wsX1_nextRound := by decide +kernel
theorem i1_size : ∀ w ∈ u_ws RX1 TX1 3, w ∈ wsX1_size := by decide +kernel
theorem i1_round : ∀ w ∈ u_ws RX1 TX1 3, w ∈ wsX1_round := by decide +kernel
theorem i0_rangeFrom : ∀ w ∈ u_ws RX0 TX0 4, w ∈ wsX1_rangeFrom := by decide +kernel
theorem i0_rangeTo : ∀ w ∈ u_ws RX0 TX0 4, w ∈ wsX1_rangeTo := by decide +kernel
set_option maxHeartbeats 4000000 in
set_option maxRecDepth 100000 in
/-- size() -/
theorem c_size (l : Launch) (D : va_G) (tys : List (ClassId × FieldType)) (X : va_W) (L : List Nat) (S : gS) (sz : Nat) {P : Nat → Int32} {i h0 lo : Nat} {sv rv : Int32} (hX : X[i]? = some (gO h0 lo sv rv)) (hC : gCh P lo (L, S))  : Met l yX1_size wsX1_size ({ frames := 0, cells := 0, slots := 0, locals := 0 } : Room) (gP D tys [.ref h0] (X ++ va_pl L (gE S)) sz gN) (va_Qi (fun (r : Int32) (_ : Unit) => r = sv) (fun _ t => gWd D tys (va_A (X ++ va_pl L (gE S)) sz) (X ++ va_pl L (gE S)) t) (va_A (X ++ va_pl L (gE S)) sz)) 0 0 (va_A (X ++ va_pl L (gE S)) sz) := by
  refine g_ofW (cc := cX1_size) (maxL := 1) (ret := some .int) (by decide) rfl (Nat.le_of_ble_eq_true rfl) ?_
  intro p e s m below meth c hx hb hr hml hts hown hlocks hin hsz hP hK hD hA hS hG ls hl
  subst hsz
  have hown : s.vm.findClass RX1 = some m.cls := hown
  have hl : lv_has ls 1 [(0, .ref h0)] := hl
  refine lv_aload_n hx hb dX1_size_0 rfl (lv_at hl 0 rfl) ?_
  refine va_get (D := D) (ci := 1) (v := .int sv) (C := RX1) (T := TX1) (N := 3) hx hb hts i1_size hown hK hP i (g_inX hX) rfl 1 (by decide) (hts (.fieldLink RX1 18 "NumberGoblets" "size" "I") (by decide +kernel)) (fun _ h9 => h9) rfl dX1_size_1 ?_
  exact g_reti hx hb hr hlocks hK sv () hP hD hS (Nat.le_refl _) (Nat.le_refl _) rfl dX1_size_4
set_option maxHeartbeats 4000000 in
set_option maxRecDepth 100000 in
/-- round() -/
theorem c_round (l : Launch) (D : va_G) (tys : List (ClassId × FieldType)) (X : va_W) (L : List Nat) (S : gS) (sz : Nat) {P : Nat → Int32} {i h0 lo : Nat} {sv rv : Int32} (hX : X[i]? = some (gO h0 lo sv rv)) (hC : gCh P lo (L, S))  : Met l yX1_round wsX1_round ({ frames := 0, cells := 0, slots := 0, locals := 0 } : Room) (gP D tys [.ref h0] (X ++ va_pl L (gE S)) sz gN) (va_Qi (fun (r : Int32) (_ : Unit) => r = rv) (fun _ t => gWd D tys (va_A (X ++ va_pl L (gE S)) sz) (X ++ va_pl L (gE S)) t) (va_A (X ++ va_pl L (gE S)) sz)) 0 0 (va_A (X ++ va_pl L (gE S)) sz) := by
  refine g_ofW (cc := cX1_round) (maxL := 1) (ret := some .int) (by decide) rfl (Nat.le_of_ble_eq_true rfl) ?_
  intro p e s m below meth c hx hb hr hml hts hown hlocks hin hsz hP hK hD hA hS hG ls hl
  subst hsz
  have hown : s.vm.findClass RX1 = some m.cls := hown
  have hl : lv_has ls 1 [(0, .ref h0)] := hl
  refine lv_aload_n hx hb dX1_round_0 rfl (lv_at hl 0 rfl) ?_
  refine va_get (D := D) (ci := 1) (v := .int rv) (C := RX1) (T := TX1) (N := 3) hx hb hts i1_round hown hK hP i (g_inX hX) rfl 2 (by decide) (hts (.fieldLink RX1 22 "NumberGoblets" "round" "I") (by decide +kernel)) (fun _ h9 => h9) rfl dX1_round_1 ?_
  exact g_reti hx hb hr hlocks hK rv () hP hD hS (Nat.le_refl _) (Nat.le_refl _) rfl dX1_round_4
set_option maxHeartbeats 4000000 in
set_option maxRecDepth 100000 in
/-- inJug() -/
theorem c_inJug (l : Launch) (D : va_G) (tys : List (ClassId × FieldType)) (X : va_W) (L : List Nat) (S : gS) (sz : Nat) {P : Nat → Int32} {i h0 lo : Nat} {sv rv : Int32} (hX : X[i]? = some (gO h0 lo sv rv)) (hC : gCh P lo (L, S))  : Met l yX1_inJug wsX1_inJug ({ frames := 3, cells := 0, slots := 0, locals := 61 } : Room) (gP D tys [.ref h0] (X ++ va_pl L (gE S)) sz gN) (va_Qi (fun (r : Int32) (_ : Unit) => r = nI (gct P 8 5000)) (fun _ t => gWd D tys (va_A (X ++ va_pl L (gE S)) sz) (X ++ va_pl L (gE S)) t) (va_A (X ++ va_pl L (gE S)) sz)) 0 0 (va_A (X ++ va_pl L (gE S)) sz) := by
  refine g_ofW (cc := cX1_inJug) (maxL := 1) (ret := some .int) (by decide) rfl (Nat.le_of_ble_eq_true rfl) ?_
  intro p e s m below meth c hx hb hr hml hts hown hlocks hin hsz hP hK hD hA hS hG ls hl
  subst hsz
  have hown : s.vm.findClass RX1 = some m.cls := hown
  have hl : lv_has ls 1 [(0, .ref h0)] := hl
  obtain ⟨g, hch, hwf, hmx⟩ := id hC
  refine lv_aload_n hx hb dX1_inJug_0 rfl (lv_at hl 0 rfl) ?_
  refine lv_bipush (v := 8) hx hb dX1_inJug_1 (by decide) ?_
  refine g_calli (va_runV (As := [.int 8]) (rest := []) ⟨hx, hb, hml, hown, hts⟩ (c_numbers l D tys X L S s.heap.size hX hwf hmx hch 8) (cwV 1 hts gX1_inJug_X1_numbersAt rfl rfl rfl (by decide +kernel) ⟨Nat.le_of_ble_eq_true rfl, Nat.le_of_ble_eq_true rfl⟩) (gP_V (va_recv hK hP (ci := 1) rfl (g_inX hX)) hP hK hD gBl_N (fun U _ hW => hG.warm hW)) rfl rfl hl.1 rfl (lv_room (Nat.le_of_ble_eq_true rfl)) dX1_inJug_3 ⟨(Nat.zero_le _), (Nat.zero_le _)⟩) hD hS hA (fun r9 u9 H locs hr9 hP hD hS => ?_)
  exact g_reti hx hb hr hlocks hK r9 () hP hD hS (Nat.le_refl _) (Nat.le_refl _) hr9 dX1_inJug_6
set_option maxHeartbeats 4000000 in
set_option maxRecDepth 100000 in
/-- drunk() -/
theorem c_drunk (l : Launch) (D : va_G) (tys : List (ClassId × FieldType)) (X : va_W) (L : List Nat) (S : gS) (sz : Nat) {P : Nat → Int32} {i h0 lo : Nat} {sv rv : Int32} (hX : X[i]? = some (gO h0 lo sv rv)) (hC : gCh P lo (L, S))  : Met l yX1_drunk wsX1_drunk ({ frames := 3, cells := 0, slots := 0, locals := 61 } : Room) (gP D tys [.ref h0] (X ++ va_pl L (gE S)) sz gN) (va_Qi (fun (r : Int32) (_ : Unit) => r = nI (gct P 9 5000)) (fun _ t => gWd D tys (va_A (X ++ va_pl L (gE S)) sz) (X ++ va_pl L (gE S)) t) (va_A (X ++ va_pl L (gE S)) sz)) 0 0 (va_A (X ++ va_pl L (gE S)) sz) := by
  refine g_ofW (cc := cX1_drunk) (maxL := 1) (ret := some .int) (by decide) rfl (Nat.le_of_ble_eq_true rfl) ?_
  intro p e s m below meth c hx hb hr hml hts hown hlocks hin hsz hP hK hD hA hS hG ls hl
  subst hsz
  have hown : s.vm.findClass RX1 = some m.cls := hown
  have hl : lv_has ls 1 [(0, .ref h0)] := hl
  obtain ⟨g, hch, hwf, hmx⟩ := id hC
  refine lv_aload_n hx hb dX1_drunk_0 rfl (lv_at hl 0 rfl) ?_
  refine lv_bipush (v := 9) hx hb dX1_drunk_1 (by decide) ?_
  refine g_calli (va_runV (As := [.int 9]) (rest := []) ⟨hx, hb, hml, hown, hts⟩ (c_numbers l D tys X L S s.heap.size hX hwf hmx hch 9) (cwV 1 hts gX1_drunk_X1_numbersAt rfl rfl rfl (by decide +kernel) ⟨Nat.le_of_ble_eq_true rfl, Nat.le_of_ble_eq_true rfl⟩) (gP_V (va_recv hK hP (ci := 1) rfl (g_inX hX)) hP hK hD gBl_N (fun U _ hW => hG.warm hW)) rfl rfl hl.1 rfl (lv_room (Nat.le_of_ble_eq_true rfl)) dX1_drunk_3 ⟨(Nat.zero_le _), (Nat.zero_le _)⟩) hD hS hA (fun r9 u9 H locs hr9 hP hD hS => ?_)
  exact g_reti hx hb hr hlocks hK r9 () hP hD hS (Nat.le_refl _) (Nat.le_refl _) hr9 dX1_drunk_6
set_option maxHeartbeats 4000000 in
set_option maxRecDepth 100000 in
/-- spilt() -/
theorem c_spilt (l : Launch) (D : va_G) (tys : List (ClassId × FieldType)) (X : va_W) (L : List Nat) (S : gS) (sz : Nat) {P : Nat → Int32} {i h0 lo : Nat} {sv rv : Int32} (hX : X[i]? = some (gO h0 lo sv rv)) (hC : gCh P lo (L, S))  : Met l yX1_spilt wsX1_spilt ({ frames := 3, cells := 0, slots := 0, locals := 61 } : Room) (gP D tys [.ref h0] (X ++ va_pl L (gE S)) sz gN) (va_Qi (fun (r : Int32) (_ : Unit) => r = nI (gct P 10 5000)) (fun _ t => gWd D tys (va_A (X ++ va_pl L (gE S)) sz) (X ++ va_pl L (gE S)) t) (va_A (X ++ va_pl L (gE S)) sz)) 0 0 (va_A (X ++ va_pl L (gE S)) sz) := by
  refine g_ofW (cc := cX1_spilt) (maxL := 1) (ret := some .int) (by decide) rfl (Nat.le_of_ble_eq_true rfl) ?_
  intro p e s m below meth c hx hb hr hml hts hown hlocks hin hsz hP hK hD hA hS hG ls hl
  subst hsz
  have hown : s.vm.findClass RX1 = some m.cls := hown
  have hl : lv_has ls 1 [(0, .ref h0)] := hl
  obtain ⟨g, hch, hwf, hmx⟩ := id hC
  refine lv_aload_n hx hb dX1_spilt_0 rfl (lv_at hl 0 rfl) ?_
  refine lv_bipush (v := 10) hx hb dX1_spilt_1 (by decide) ?_
  refine g_calli (va_runV (As := [.int 10]) (rest := []) ⟨hx, hb, hml, hown, hts⟩ (c_numbers l D tys X L S s.heap.size hX hwf hmx hch 10) (cwV 1 hts gX1_spilt_X1_numbersAt rfl rfl rfl (by decide +kernel) ⟨Nat.le_of_ble_eq_true rfl, Nat.le_of_ble_eq_true rfl⟩) (gP_V (va_recv hK hP (ci := 1) rfl (g_inX hX)) hP hK hD gBl_N (fun U _ hW => hG.warm hW)) rfl rfl hl.1 rfl (lv_room (Nat.le_of_ble_eq_true rfl)) dX1_spilt_3 ⟨(Nat.zero_le _), (Nat.zero_le _)⟩) hD hS hA (fun r9 u9 H locs hr9 hP hD hS => ?_)
  exact g_reti hx hb hr hlocks hK r9 () hP hD hS (Nat.le_refl _) (Nat.le_refl _) hr9 dX1_spilt_6
set_option maxHeartbeats 4000000 in
set_option maxRecDepth 100000 in
/-- ranges() -/
theorem c_rangesP (l : Launch) (D : va_G) (tys : List (ClassId × FieldType)) (X : va_W) (L : List Nat) (S : gS) (sz : Nat) {P : Nat → Int32} {i h0 lo : Nat} {sv rv : Int32} (hX : X[i]? = some (gO h0 lo sv rv)) (hC : gCh P lo (L, S)) (h00 : P 0 = -1) : Met l yX1_ranges wsX1_ranges ({ frames := 1, cells := 0, slots := 0, locals := 23 } : Room) (gP D tys [.ref h0] (X ++ va_pl L (gE S)) sz gN) (va_Qi (fun (r : Int32) (_ : Unit) => r = nI (gbg P 8 5000)) (fun _ t => gWd D tys (va_A (X ++ va_pl L (gE S)) sz) (X ++ va_pl L (gE S)) t) (va_A (X ++ va_pl L (gE S)) sz)) 0 0 (va_A (X ++ va_pl L (gE S)) sz) := by
  refine g_ofW (cc := cX1_ranges) (maxL := 1) (ret := some .int) (by decide) rfl (Nat.le_of_ble_eq_true rfl) ?_
  intro p e s m below meth c hx hb hr hml hts hown hlocks hin hsz hP hK hD hA hS hG ls hl
  subst hsz
  have hown : s.vm.findClass RX1 = some m.cls := hown
  have hl : lv_has ls 1 [(0, .ref h0)] := hl
  obtain ⟨g, hch, hwf, hmx⟩ := id hC
  refine lv_aload_n hx hb dX1_ranges_0 rfl (lv_at hl 0 rfl) ?_
  refine lv_bipush (v := 8) hx hb dX1_ranges_1 (by decide) ?_
  refine g_calli (va_runV (As := [.int 8]) (rest := []) ⟨hx, hb, hml, hown, hts⟩ (c_ranges l D tys X L S s.heap.size hX hwf hmx hch 8 (by rw [h00]; decide)) (cwV 1 hts gX1_ranges_X1_rangesAt rfl rfl rfl (by decide +kernel) ⟨Nat.le_of_ble_eq_true rfl, Nat.le_of_ble_eq_true rfl⟩) (gP_V (va_recv hK hP (ci := 1) rfl (g_inX hX)) hP hK hD gBl_N (fun U _ hW => hG.warm hW)) rfl rfl hl.1 rfl (lv_room (Nat.le_of_ble_eq_true rfl)) dX1_ranges_3 ⟨(Nat.zero_le _), (Nat.zero_le _)⟩) hD hS hA (fun r9 u9 H locs hr9 hP hD hS => ?_)
  exact g_reti hx hb hr hlocks hK r9 () hP hD hS (Nat.le_refl _) (Nat.le_refl _) hr9 dX1_ranges_6
set_option maxHeartbeats 4000000 in
set_option maxRecDepth 100000 in
/-- inGoblet(goblet) -/
theorem c_inGoblet (l : Launch) (hl9 : l.stackTraces = false) (D : va_G) (tys : List (ClassId × FieldType)) (X : va_W) (L : List Nat) (S : gS) (sz : Nat) {P : Nat → Int32} {i h0 lo : Nat} {sv rv : Int32} (hX : X[i]? = some (gO h0 lo sv rv)) (hC : gCh P lo (L, S)) (v0 : Int32) : vx_Met l yX1_inGoblet wsX1_inGoblet ({ frames := 7, cells := 1, slots := 6, locals := 102 } : Room) (gP D tys [.ref h0, .int v0] (X ++ va_pl L (gE S)) sz (gG (va_A (X ++ va_pl L (gE S)) sz))) (va_Qi (fun (r : Int32) (u : List Nat × gS) => (gGob v0 ∧ r = nI (gct P v0 5000)) ∧ gCh P lo u) (fun u t => gWd D tys (va_A (X ++ va_pl L (gE S)) sz) (X ++ va_pl u.1 (gE u.2)) t) (va_A (X ++ va_pl L (gE S)) sz)) (gX (fun E (u : List Nat × gS) => (E = xIOB ∧ ¬ gGob v0) ∧ gCh P lo u) (fun u => X ++ va_pl u.1 (gE u.2)) D tys (va_A (X ++ va_pl L (gE S)) sz)) 1 6 (va_A (X ++ va_pl L (gE S)) sz) := by
  refine g_ofX (cc := cX1_inGoblet) (maxL := 2) (ret := some .int) (by decide) rfl (Nat.le_of_ble_eq_true rfl) ?_
  intro p e s m below meth c hx hb hr hml hts hown hlocks hout hsz hP hK hD hA hS hGG ls hl
  subst hsz
  have hown : s.vm.findClass RX1 = some m.cls := hown
  have hl : lv_has ls 2 [(0, .ref h0), (1, .int v0)] := hl
  have hG : gN s := hGG.1
  obtain ⟨g, hch, hwf, hmx⟩ := id hC
  refine lv_iload_n hx hb dX1_inGoblet_0 rfl (lv_at hl 1 rfl) ?_
  refine g_xcallv (vx_runS (As := [.int v0]) (rest := []) ⟨hx, hb, hml, hown, hts⟩ (c_chkG l hl9 D tys (X ++ va_pl L (gE S)) s.heap.size v0) (va_cwS 1 hts gX1_inGoblet_X1_checkGoblet rfl rfl rfl (by decide +kernel) ⟨Nat.le_of_ble_eq_true rfl, Nat.le_of_ble_eq_true rfl⟩) (gP_S hP hK hD gBl_G (fun U hU hW => gG.call hGG hS (gA_sub hD hS hA) U hU hW)) rfl rfl hl.1 rfl (lv_room (Nat.le_of_ble_eq_true rfl)) dX1_inGoblet_1 ⟨Nat.le_of_ble_eq_true rfl, Nat.le_of_ble_eq_true rfl⟩) hD hS hA (fun E ce q9 u H locs hc hP hD hS e1 e2 e3 => g_out hout hlocks hK e1 e2 e3 (Nat.le_of_ble_eq_true rfl) (Nat.le_of_ble_eq_true rfl) (L, S) ⟨hc, hC⟩ hP hD hS) (fun _ H locs hg hP hD hS => ?_)
  refine lv_aload_n hx hb dX1_inGoblet_4 rfl (lv_at hl 0 rfl) ?_
  refine lv_iload_n hx hb dX1_inGoblet_5 rfl (lv_at hl 1 rfl) ?_
  refine g_calli (va_runV (As := [.int v0]) (rest := []) ⟨hx, hb, hml, hown, hts⟩ (c_numbers l D tys X L S H.size hX hwf hmx hch v0) (cwV 1 hts gX1_inGoblet_X1_numbersAt rfl rfl rfl (by decide +kernel) ⟨Nat.le_of_ble_eq_true rfl, Nat.le_of_ble_eq_true rfl⟩) (gP_V (va_recv hK hP (ci := 1) rfl (g_inX hX)) hP hK hD gBl_N (fun U _ hW => hG.warm hW)) rfl rfl hl.1 rfl (lv_room (Nat.le_of_ble_eq_true rfl)) dX1_inGoblet_6 ⟨Nat.le_of_ble_eq_true rfl, Nat.le_of_ble_eq_true rfl⟩) hD hS hA (fun r9 u9 H locs hr9 hP hD hS => ?_)
  exact vx_ret (g_reti hx hb hr hlocks hK (r9) (L, S) hP hD hS (Nat.le_of_ble_eq_true rfl) (Nat.le_of_ble_eq_true rfl) (⟨⟨hg, hr9⟩, hC⟩) dX1_inGoblet_9)
set_option maxHeartbeats 4000000 in
set_option maxRecDepth 100000 in
/-- rangesOf(goblet) -/
theorem c_rangesOf (l : Launch) (hl9 : l.stackTraces = false) (D : va_G) (tys : List (ClassId × FieldType)) (X : va_W) (L : List Nat) (S : gS) (sz : Nat) {P : Nat → Int32} {i h0 lo : Nat} {sv rv : Int32} (hX : X[i]? = some (gO h0 lo sv rv)) (hC : gCh P lo (L, S)) (v0 : Int32) (h00 : P 0 = -1) : vx_Met l yX1_rangesOf wsX1_rangesOf ({ frames := 7, cells := 1, slots := 6, locals := 102 } : Room) (gP D tys [.ref h0, .int v0] (X ++ va_pl L (gE S)) sz (gG (va_A (X ++ va_pl L (gE S)) sz))) (va_Qi (fun (r : Int32) (u : List Nat × gS) => (gGob v0 ∧ r = nI (gbg P v0 5000)) ∧ gCh P lo u) (fun u t => gWd D tys (va_A (X ++ va_pl L (gE S)) sz) (X ++ va_pl u.1 (gE u.2)) t) (va_A (X ++ va_pl L (gE S)) sz)) (gX (fun E (u : List Nat × gS) => (E = xIOB ∧ ¬ gGob v0) ∧ gCh P lo u) (fun u => X ++ va_pl u.1 (gE u.2)) D tys (va_A (X ++ va_pl L (gE S)) sz)) 1 6 (va_A (X ++ va_pl L (gE S)) sz) := by
  refine g_ofX (cc := cX1_rangesOf) (maxL := 2) (ret := some .int) (by decide) rfl (Nat.le_of_ble_eq_true rfl) ?_
  intro p e s m below meth c hx hb hr hml hts hown hlocks hout hsz hP hK hD hA hS hGG ls hl
  subst hsz
  have hown : s.vm.findClass RX1 = some m.cls := hown
  have hl : lv_has ls 2 [(0, .ref h0), (1, .int v0)] := hl
  have hG : gN s := hGG.1
  obtain ⟨g, hch, hwf, hmx⟩ := id hC
  refine lv_iload_n hx hb dX1_rangesOf_0 rfl (lv_at hl 1 rfl) ?_
  refine g_xcallv (vx_runS (As := [.int v0]) (rest := []) ⟨hx, hb, hml, hown, hts⟩ (c_chkG l hl9 D tys (X ++ va_pl L (gE S)) s.heap.size v0) (va_cwS 1 hts gX1_rangesOf_X1_checkGoblet rfl rfl rfl (by decide +kernel) ⟨Nat.le_of_ble_eq_true rfl, Nat.le_of_ble_eq_true rfl⟩) (gP_S hP hK hD gBl_G (fun U hU hW => gG.call hGG hS (gA_sub hD hS hA) U hU hW)) rfl rfl hl.1 rfl (lv_room (Nat.le_of_ble_eq_true rfl)) dX1_rangesOf_1 ⟨Nat.le_of_ble_eq_true rfl, Nat.le_of_ble_eq_true rfl⟩) hD hS hA (fun E ce q9 u H locs hc hP hD hS e1 e2 e3 => g_out hout hlocks hK e1 e2 e3 (Nat.le_of_ble_eq_true rfl) (Nat.le_of_ble_eq_true rfl) (L, S) ⟨hc, hC⟩ hP hD hS) (fun _ H locs hg hP hD hS => ?_)
  refine lv_aload_n hx hb dX1_rangesOf_4 rfl (lv_at hl 0 rfl) ?_
  refine lv_iload_n hx hb dX1_rangesOf_5 rfl (lv_at hl 1 rfl) ?_
  have hne : ¬ P 0 = v0 := by obtain ⟨j, hj, rfl⟩ := hg; rw [h00]; exact g_neg j hj
  refine g_calli (va_runV (As := [.int v0]) (rest := []) ⟨hx, hb, hml, hown, hts⟩ (c_ranges l D tys X L S H.size hX hwf hmx hch v0 hne) (cwV 1 hts gX1_rangesOf_X1_rangesAt rfl rfl rfl (by decide +kernel) ⟨Nat.le_of_ble_eq_true rfl, Nat.le_of_ble_eq_true rfl⟩) (gP_V (va_recv hK hP (ci := 1) rfl (g_inX hX)) hP hK hD gBl_N (fun U _ hW => hG.warm hW)) rfl rfl hl.1 rfl (lv_room (Nat.le_of_ble_eq_true rfl)) dX1_rangesOf_6 ⟨Nat.le_of_ble_eq_true rfl, Nat.le_of_ble_eq_true rfl⟩) hD hS hA (fun r9 u9 H locs hr9 hP hD hS => ?_)
  exact vx_ret (g_reti hx hb hr hlocks hK (r9) (L, S) hP hD hS (Nat.le_of_ble_eq_true rfl) (Nat.le_of_ble_eq_true rfl) (⟨⟨hg, hr9⟩, hC⟩) dX1_rangesOf_9)
set_option maxHeartbeats 4000000 in
set_option maxRecDepth 100000 in
/-- nextOf(goblet) -/
theorem c_nextOf (l : Launch) (hl9 : l.stackTraces = false) (D : va_G) (tys : List (ClassId × FieldType)) (X : va_W) (L : List Nat) (S : gS) (sz : Nat) {P : Nat → Int32} {i h0 lo : Nat} {sv rv : Int32} (hX : X[i]? = some (gO h0 lo sv rv)) (hC : gCh P lo (L, S)) (v0 : Int32) : vx_Met l yX1_nextOf wsX1_nextOf ({ frames := 7, cells := 1, slots := 6, locals := 102 } : Room) (gP D tys [.ref h0, .int v0] (X ++ va_pl L (gE S)) sz (gG (va_A (X ++ va_pl L (gE S)) sz))) (va_Qi (fun (r : Int32) (u : List Nat × gS) => (gGob v0 ∧ ∃ v w, glow (fun j => P j = v0) 5000 v ∧ glow (fun j => P j = 8) 5000 w ∧ r = nI (if v = 0 then w else v)) ∧ gCh P lo u) (fun u t => gWd D tys (va_A (X ++ va_pl L (gE S)) sz) (X ++ va_pl u.1 (gE u.2)) t) (va_A (X ++ va_pl L (gE S)) sz)) (gX (fun E (u : List Nat × gS) => (E = xIOB ∧ ¬ gGob v0) ∧ gCh P lo u) (fun u => X ++ va_pl u.1 (gE u.2)) D tys (va_A (X ++ va_pl L (gE S)) sz)) 1 6 (va_A (X ++ va_pl L (gE S)) sz) := by
  refine g_ofX (cc := cX1_nextOf) (maxL := 3) (ret := some .int) (by decide) rfl (Nat.le_of_ble_eq_true rfl) ?_
  intro p e s m below meth c hx hb hr hml hts hown hlocks hout hsz hP hK hD hA hS hGG ls hl
  subst hsz
  have hown : s.vm.findClass RX1 = some m.cls := hown
  have hl : lv_has ls 3 [(0, .ref h0), (1, .int v0)] := hl
  have hG : gN s := hGG.1
  obtain ⟨g, hch, hwf, hmx⟩ := id hC
  refine lv_iload_n hx hb dX1_nextOf_0 rfl (lv_at hl 1 rfl) ?_
  refine g_xcallv (vx_runS (As := [.int v0]) (rest := []) ⟨hx, hb, hml, hown, hts⟩ (c_chkG l hl9 D tys (X ++ va_pl L (gE S)) s.heap.size v0) (va_cwS 1 hts gX1_nextOf_X1_checkGoblet rfl rfl rfl (by decide +kernel) ⟨Nat.le_of_ble_eq_true rfl, Nat.le_of_ble_eq_true rfl⟩) (gP_S hP hK hD gBl_G (fun U hU hW => gG.call hGG hS (gA_sub hD hS hA) U hU hW)) rfl rfl hl.1 rfl (lv_room (Nat.le_of_ble_eq_true rfl)) dX1_nextOf_1 ⟨Nat.le_of_ble_eq_true rfl, Nat.le_of_ble_eq_true rfl⟩) hD hS hA (fun E ce q9 u H locs hc hP hD hS e1 e2 e3 => g_out hout hlocks hK e1 e2 e3 (Nat.le_of_ble_eq_true rfl) (Nat.le_of_ble_eq_true rfl) (L, S) ⟨hc, hC⟩ hP hD hS) (fun _ H locs hg hP hD hS => ?_)
  refine lv_aload_n hx hb dX1_nextOf_4 rfl (lv_at hl 0 rfl) ?_
  refine lv_iload_n hx hb dX1_nextOf_5 rfl (lv_at hl 1 rfl) ?_
  refine g_calli (va_runV (As := [.int v0]) (rest := []) ⟨hx, hb, hml, hown, hts⟩ (c_lowest l D tys X L S H.size hX hwf hmx hch v0) (cwV 1 hts gX1_nextOf_X1_lowestAt rfl rfl rfl (by decide +kernel) ⟨Nat.le_of_ble_eq_true rfl, Nat.le_of_ble_eq_true rfl⟩) (gP_V (va_recv hK hP (ci := 1) rfl (g_inX hX)) hP hK hD gBl_N (fun U _ hW => hG.warm hW)) rfl rfl hl.1 rfl (lv_room (Nat.le_of_ble_eq_true rfl)) dX1_nextOf_6 ⟨Nat.le_of_ble_eq_true rfl, Nat.le_of_ble_eq_true rfl⟩) hD hS hA (fun r9 u9 H locs hr9 hP hD hS => ?_)
  obtain ⟨v, rfl, hlv⟩ := hr9
  have hv5 := glow_le hlv
  refine lv_istore_n (lv' := [(2, .int (nI v)), (0, .ref h0), (1, .int v0)]) hx hb dX1_nextOf_9 rfl hl (by decide) rfl (fun ls hl => ?_)
  refine lv_iload_n hx hb dX1_nextOf_10 rfl (lv_at hl 0 rfl) ?_
  refine lv_if_eq (tgt := 18) hx hb dX1_nextOf_11 (by decide) (fun c1 => ?_) (fun c1 => ?_)
  · have hv0 : v = 0 := (nI_eq (by omega) (by omega)).mp (show nI v = nI 0 from c1)
    refine lv_aload_n hx hb dX1_nextOf_18 rfl (lv_at hl 1 rfl) ?_
    refine lv_bipush (v := 8) hx hb dX1_nextOf_19 (by decide) ?_
    refine g_calli (va_runV (As := [.int 8]) (rest := []) ⟨hx, hb, hml, hown, hts⟩ (c_lowest l D tys X L S H.size hX hwf hmx hch 8) (cwV 1 hts gX1_nextOf_X1_lowestAt rfl rfl rfl (by decide +kernel) ⟨Nat.le_of_ble_eq_true rfl, Nat.le_of_ble_eq_true rfl⟩) (gP_V (va_recv hK hP (ci := 1) rfl (g_inX hX)) hP hK hD gBl_N (fun U _ hW => hG.warm hW)) rfl rfl hl.1 rfl (lv_room (Nat.le_of_ble_eq_true rfl)) dX1_nextOf_21 ⟨Nat.le_of_ble_eq_true rfl, Nat.le_of_ble_eq_true rfl⟩) hD hS hA (fun r9 u9 H locs hr9 hP hD hS => ?_)
    obtain ⟨w, rfl, hlw⟩ := hr9
    exact vx_ret (g_reti hx hb hr hlocks hK (nI w) (L, S) hP hD hS (Nat.le_of_ble_eq_true rfl) (Nat.le_of_ble_eq_true rfl) (⟨⟨hg, v, w, hlv, hlw, by rw [if_pos hv0]⟩, hC⟩) dX1_nextOf_24)
  · have hv0 : ¬ v = 0 := fun z => c1 (by rw [z]; rfl)
    obtain ⟨w, hlw⟩ := glow_ex (fun j => P j = 8) 5000
    refine lv_iload_n hx hb dX1_nextOf_14 rfl (lv_at hl 0 rfl) ?_
    refine lv_goto (tgt := 24) hx hb dX1_nextOf_15 (by decide) ?_
    exact vx_ret (g_reti hx hb hr hlocks hK (nI v) (L, S) hP hD hS (Nat.le_of_ble_eq_true rfl) (Nat.le_of_ble_eq_true rfl) (⟨⟨hg, v, w, hlv, hlw, by rw [if_neg hv0]⟩, hC⟩) dX1_nextOf_24)
set_option maxHeartbeats 4000000 in
set_option maxRecDepth 100000 in
/-- pourBack(goblet) -/
theorem c_pourBack (l : Launch) (hl9 : l.stackTraces = false) (D : va_G) (tys : List (ClassId × FieldType)) (X : va_W) (L : List Nat) (S : gS) (sz : Nat) {P : Nat → Int32} {i h0 lo : Nat} {sv rv : Int32} (hX : X[i]? = some (gO h0 lo sv rv)) (hC : gCh P lo (L, S)) (v0 : Int32) : vx_Met l yX1_pourBack wsX1_pourBack ({ frames := 7, cells := 3, slots := 14, locals := 108 } : Room) (gP D tys [.ref h0, .int v0] (X ++ va_pl L (gE S)) sz (gG (va_A (X ++ va_pl L (gE S)) sz))) (va_Qi (fun (r : Int32) (u : List Nat × gS) => (gGob v0 ∧ r = nI (gct P v0 5000)) ∧ gCh (gmv P v0 8 0 5000) lo u) (fun u t => gWd D tys (va_A (X ++ va_pl L (gE S)) sz) (X ++ va_pl u.1 (gE u.2)) t) (va_A (X ++ va_pl L (gE S)) sz)) (gX (fun E (u : List Nat × gS) => (E = xIOB ∧ ¬ gGob v0) ∧ gCh P lo u) (fun u => X ++ va_pl u.1 (gE u.2)) D tys (va_A (X ++ va_pl L (gE S)) sz)) 3 14 (va_A (X ++ va_pl L (gE S)) sz) := by
  refine g_ofX (cc := cX1_pourBack) (maxL := 2) (ret := some .int) (by decide) rfl (Nat.le_of_ble_eq_true rfl) ?_
  intro p e s m below meth c hx hb hr hml hts hown hlocks hout hsz hP hK hD hA hS hGG ls hl
  subst hsz
  have hown : s.vm.findClass RX1 = some m.cls := hown
  have hl : lv_has ls 2 [(0, .ref h0), (1, .int v0)] := hl
  have hG : gN s := hGG.1
  obtain ⟨g, hch, hwf, hmx⟩ := id hC
  refine lv_iload_n hx hb dX1_pourBack_0 rfl (lv_at hl 1 rfl) ?_
  refine g_xcallv (vx_runS (As := [.int v0]) (rest := []) ⟨hx, hb, hml, hown, hts⟩ (c_chkG l hl9 D tys (X ++ va_pl L (gE S)) s.heap.size v0) (va_cwS 1 hts gX1_pourBack_X1_checkGoblet rfl rfl rfl (by decide +kernel) ⟨Nat.le_of_ble_eq_true rfl, Nat.le_of_ble_eq_true rfl⟩) (gP_S hP hK hD gBl_G (fun U hU hW => gG.call hGG hS (gA_sub hD hS hA) U hU hW)) rfl rfl hl.1 rfl (lv_room (Nat.le_of_ble_eq_true rfl)) dX1_pourBack_1 ⟨Nat.le_of_ble_eq_true rfl, Nat.le_of_ble_eq_true rfl⟩) hD hS hA (fun E ce q9 u H locs hc hP hD hS e1 e2 e3 => g_out hout hlocks hK e1 e2 e3 (Nat.le_of_ble_eq_true rfl) (Nat.le_of_ble_eq_true rfl) (L, S) ⟨hc, hC⟩ hP hD hS) (fun _ H locs hg hP hD hS => ?_)
  refine lv_aload_n hx hb dX1_pourBack_4 rfl (lv_at hl 0 rfl) ?_
  refine lv_iload_n hx hb dX1_pourBack_5 rfl (lv_at hl 1 rfl) ?_
  refine lv_bipush (v := 8) hx hb dX1_pourBack_6 (by decide) ?_
  refine g_calli (va_runV (As := [.int v0, .int 8]) (rest := []) ⟨hx, hb, hml, hown, hts⟩ (c_moveAll l D tys X L S H.size hX hwf hmx hch v0 8) (cwV 2 hts gX1_pourBack_X1_moveAll rfl rfl rfl (by decide +kernel) ⟨Nat.le_of_ble_eq_true rfl, Nat.le_of_ble_eq_true rfl⟩) (gP_V (va_recv hK hP (ci := 1) rfl (g_inX hX)) hP hK hD gBl_N (fun U _ hW => hG.warm hW)) rfl rfl hl.1 rfl (lv_room (Nat.le_of_ble_eq_true rfl)) dX1_pourBack_8 ⟨Nat.le_of_ble_eq_true rfl, Nat.le_of_ble_eq_true rfl⟩) hD hS hA (fun r9 u9 H locs hr9 hP hD hS => ?_)
  exact vx_ret (g_reti hx hb hr hlocks hK (r9) u9 hP hD hS (Nat.le_of_ble_eq_true rfl) (Nat.le_of_ble_eq_true rfl) (⟨⟨hg, hr9.1⟩, hr9.2⟩) dX1_pourBack_11)
set_option maxHeartbeats 4000000 in
set_option maxRecDepth 100000 in
/-- spill(goblet) -/
theorem c_spill (l : Launch) (hl9 : l.stackTraces = false) (D : va_G) (tys : List (ClassId × FieldType)) (X : va_W) (L : List Nat) (S : gS) (sz : Nat) {P : Nat → Int32} {i h0 lo : Nat} {sv rv : Int32} (hX : X[i]? = some (gO h0 lo sv rv)) (hC : gCh P lo (L, S)) (v0 : Int32) : vx_Met l yX1_spill wsX1_spill ({ frames := 7, cells := 3, slots := 14, locals := 108 } : Room) (gP D tys [.ref h0, .int v0] (X ++ va_pl L (gE S)) sz (gG (va_A (X ++ va_pl L (gE S)) sz))) (va_Qi (fun (r : Int32) (u : List Nat × gS) => (gGob v0 ∧ r = nI (gct P v0 5000)) ∧ gCh (gmv P v0 10 0 5000) lo u) (fun u t => gWd D tys (va_A (X ++ va_pl L (gE S)) sz) (X ++ va_pl u.1 (gE u.2)) t) (va_A (X ++ va_pl L (gE S)) sz)) (gX (fun E (u : List Nat × gS) => (E = xIOB ∧ ¬ gGob v0) ∧ gCh P lo u) (fun u => X ++ va_pl u.1 (gE u.2)) D tys (va_A (X ++ va_pl L (gE S)) sz)) 3 14 (va_A (X ++ va_pl L (gE S)) sz) := by
  refine g_ofX (cc := cX1_spill) (maxL := 2) (ret := some .int) (by decide) rfl (Nat.le_of_ble_eq_true rfl) ?_
  intro p e s m below meth c hx hb hr hml hts hown hlocks hout hsz hP hK hD hA hS hGG ls hl
  subst hsz
  have hown : s.vm.findClass RX1 = some m.cls := hown
  have hl : lv_has ls 2 [(0, .ref h0), (1, .int v0)] := hl
  have hG : gN s := hGG.1
  obtain ⟨g, hch, hwf, hmx⟩ := id hC
  refine lv_iload_n hx hb dX1_spill_0 rfl (lv_at hl 1 rfl) ?_
  refine g_xcallv (vx_runS (As := [.int v0]) (rest := []) ⟨hx, hb, hml, hown, hts⟩ (c_chkG l hl9 D tys (X ++ va_pl L (gE S)) s.heap.size v0) (va_cwS 1 hts gX1_spill_X1_checkGoblet rfl rfl rfl (by decide +kernel) ⟨Nat.le_of_ble_eq_true rfl, Nat.le_of_ble_eq_true rfl⟩) (gP_S hP hK hD gBl_G (fun U hU hW => gG.call hGG hS (gA_sub hD hS hA) U hU hW)) rfl rfl hl.1 rfl (lv_room (Nat.le_of_ble_eq_true rfl)) dX1_spill_1 ⟨Nat.le_of_ble_eq_true rfl, Nat.le_of_ble_eq_true rfl⟩) hD hS hA (fun E ce q9 u H locs hc hP hD hS e1 e2 e3 => g_out hout hlocks hK e1 e2 e3 (Nat.le_of_ble_eq_true rfl) (Nat.le_of_ble_eq_true rfl) (L, S) ⟨hc, hC⟩ hP hD hS) (fun _ H locs hg hP hD hS => ?_)
  refine lv_aload_n hx hb dX1_spill_4 rfl (lv_at hl 0 rfl) ?_
  refine lv_iload_n hx hb dX1_spill_5 rfl (lv_at hl 1 rfl) ?_
  refine lv_bipush (v := 10) hx hb dX1_spill_6 (by decide) ?_
  refine g_calli (va_runV (As := [.int v0, .int 10]) (rest := []) ⟨hx, hb, hml, hown, hts⟩ (c_moveAll l D tys X L S H.size hX hwf hmx hch v0 10) (cwV 2 hts gX1_spill_X1_moveAll rfl rfl rfl (by decide +kernel) ⟨Nat.le_of_ble_eq_true rfl, Nat.le_of_ble_eq_true rfl⟩) (gP_V (va_recv hK hP (ci := 1) rfl (g_inX hX)) hP hK hD gBl_N (fun U _ hW => hG.warm hW)) rfl rfl hl.1 rfl (lv_room (Nat.le_of_ble_eq_true rfl)) dX1_spill_8 ⟨Nat.le_of_ble_eq_true rfl, Nat.le_of_ble_eq_true rfl⟩) hD hS hA (fun r9 u9 H locs hr9 hP hD hS => ?_)
  exact vx_ret (g_reti hx hb hr hlocks hK (r9) u9 hP hD hS (Nat.le_of_ble_eq_true rfl) (Nat.le_of_ble_eq_true rfl) (⟨⟨hg, hr9.1⟩, hr9.2⟩) dX1_spill_11)
set_option maxHeartbeats 4000000 in
set_option maxRecDepth 100000 in
/-- pour(goblet, count) -/
theorem c_pour (l : Launch) (hl9 : l.stackTraces = false) (D : va_G) (tys : List (ClassId × FieldType)) (X : va_W) (L : List Nat) (S : gS) (sz : Nat) {P : Nat → Int32} {i h0 lo : Nat} {sv rv : Int32} (hX : X[i]? = some (gO h0 lo sv rv)) (hC : gCh P lo (L, S)) (v0 v1 : Int32) : vx_Met l yX1_pour wsX1_pour ({ frames := 7, cells := 4, slots := 20, locals := 102 } : Room) (gP D tys [.ref h0, .int v0, .int v1] (X ++ va_pl L (gE S)) sz (gG (va_A (X ++ va_pl L (gE S)) sz))) (va_Qi (fun (r : Int32) (u : List Nat × gS) => (gGob v0 ∧ ∃ cn : Nat, 1 ≤ cn ∧ cn ≤ 200 ∧ v1 = nI cn ∧ ¬ glow (fun j => P j = 8) 5000 0 ∧ r = nI (min cn (gct P 8 5000)) ∧ gCh (gmv P 8 v0 0 cn) lo u)) (fun u t => gWd D tys (va_A (X ++ va_pl L (gE S)) sz) (X ++ va_pl u.1 (gE u.2)) t) (va_A (X ++ va_pl L (gE S)) sz)) (gX (fun E (u : List Nat × gS) => ((E = xIOB ∧ ¬ gGob v0) ∨ (E = xIAE ∧ gGob v0 ∧ ¬ gCnt v1) ∨ (E = xISE ∧ gGob v0 ∧ gCnt v1 ∧ glow (fun j => P j = 8) 5000 0)) ∧ gCh P lo u) (fun u => X ++ va_pl u.1 (gE u.2)) D tys (va_A (X ++ va_pl L (gE S)) sz)) 4 20 (va_A (X ++ va_pl L (gE S)) sz) := by
  refine g_ofX (cc := cX1_pour) (maxL := 3) (ret := some .int) (by decide) rfl (Nat.le_of_ble_eq_true rfl) ?_
  intro p e s m below meth c hx hb hr hml hts hown hlocks hout hsz hP hK hD hA hS hGG ls hl
  subst hsz
  have hown : s.vm.findClass RX1 = some m.cls := hown
  have hl : lv_has ls 3 [(0, .ref h0), (1, .int v0), (2, .int v1)] := hl
  have hG : gN s := hGG.1
  obtain ⟨g, hch, hwf, hmx⟩ := id hC
  refine lv_iload_n hx hb dX1_pour_0 rfl (lv_at hl 1 rfl) ?_
  refine g_xcallv (vx_runS (As := [.int v0]) (rest := []) ⟨hx, hb, hml, hown, hts⟩ (c_chkG l hl9 D tys (X ++ va_pl L (gE S)) s.heap.size v0) (va_cwS 1 hts gX1_pour_X1_checkGoblet rfl rfl rfl (by decide +kernel) ⟨Nat.le_of_ble_eq_true rfl, Nat.le_of_ble_eq_true rfl⟩) (gP_S hP hK hD gBl_G (fun U hU hW => gG.call hGG hS (gA_sub hD hS hA) U hU hW)) rfl rfl hl.1 rfl (lv_room (Nat.le_of_ble_eq_true rfl)) dX1_pour_1 ⟨Nat.le_of_ble_eq_true rfl, Nat.le_of_ble_eq_true rfl⟩) hD hS hA (fun E ce q9 u H locs hc hP hD hS e1 e2 e3 => g_out hout hlocks hK e1 e2 e3 (Nat.le_of_ble_eq_true rfl) (Nat.le_of_ble_eq_true rfl) (L, S) ⟨Or.inl hc, hC⟩ hP hD hS) (fun _ H locs hg hP hD hS => ?_)
  refine lv_iload_n hx hb dX1_pour_4 rfl (lv_at hl 2 rfl) ?_
  refine g_xcallv (vx_runS (As := [.int v1]) (rest := []) ⟨hx, hb, hml, hown, hts⟩ (c_chkC l hl9 D tys (X ++ va_pl L (gE S)) H.size v1) (va_cwS 1 hts gX1_pour_X1_checkCount rfl rfl rfl (by decide +kernel) ⟨Nat.le_of_ble_eq_true rfl, Nat.le_of_ble_eq_true rfl⟩) (gP_S hP hK hD gBl_G (fun U hU hW => gG.call hGG hS (gA_sub hD hS hA) U hU hW)) rfl rfl hl.1 rfl (lv_room (Nat.le_of_ble_eq_true rfl)) dX1_pour_5 ⟨Nat.le_of_ble_eq_true rfl, Nat.le_of_ble_eq_true rfl⟩) hD hS hA (fun E ce q9 u H locs hc hP hD hS e1 e2 e3 => g_out hout hlocks hK e1 e2 e3 (Nat.le_of_ble_eq_true rfl) (Nat.le_of_ble_eq_true rfl) (L, S) ⟨Or.inr (Or.inl ⟨hc.1, hg, hc.2⟩), hC⟩ hP hD hS) (fun _ H locs hn hP hD hS => ?_)
  refine lv_aload_n hx hb dX1_pour_8 rfl (lv_at hl 0 rfl) ?_
  refine lv_bipush (v := 8) hx hb dX1_pour_9 (by decide) ?_
  refine g_calli (va_runV (As := [.int 8]) (rest := []) ⟨hx, hb, hml, hown, hts⟩ (c_lowest l D tys X L S H.size hX hwf hmx hch 8) (cwV 1 hts gX1_pour_X1_lowestAt rfl rfl rfl (by decide +kernel) ⟨Nat.le_of_ble_eq_true rfl, Nat.le_of_ble_eq_true rfl⟩) (gP_V (va_recv hK hP (ci := 1) rfl (g_inX hX)) hP hK hD gBl_N (fun U _ hW => hG.warm hW)) rfl rfl hl.1 rfl (lv_room (Nat.le_of_ble_eq_true rfl)) dX1_pour_11 ⟨Nat.le_of_ble_eq_true rfl, Nat.le_of_ble_eq_true rfl⟩) hD hS hA (fun r9 u9 H locs hr9 hP hD hS => ?_)
  obtain ⟨v, rfl, hlv⟩ := hr9
  have hv5 := glow_le hlv
  refine lv_if_ne (tgt := 27) hx hb dX1_pour_14 (by decide) (fun c1 => ?_) (fun c1 => ?_)
  · have hv0 : ¬ v = 0 := fun z => c1 (by rw [z]; rfl)
    obtain ⟨cn, n1, n2, rfl⟩ := hn
    refine lv_aload_n hx hb dX1_pour_27 rfl (lv_at hl 0 rfl) ?_
    refine lv_bipush (v := 8) hx hb dX1_pour_28 (by decide) ?_
    refine lv_iload_n hx hb dX1_pour_30 rfl (lv_at hl 1 rfl) ?_
    refine lv_iconst (v := 0) hx hb dX1_pour_31 (by decide) ?_
    refine lv_iload_n hx hb dX1_pour_32 rfl (lv_at hl 2 rfl) ?_
    refine g_calli (va_runV (As := [.int 8, .int v0, .int 0, .int (nI cn)]) (rest := []) ⟨hx, hb, hml, hown, hts⟩ (c_move l D tys X L S H.size hX hwf hmx hch 8 v0 (stay := 0) (cnt := cn) (by omega) n1 (by omega)) (cwV 4 hts gX1_pour_X1_move rfl rfl rfl (by decide +kernel) ⟨Nat.le_of_ble_eq_true rfl, Nat.le_of_ble_eq_true rfl⟩) (gP_V (va_recv hK hP (ci := 1) rfl (g_inX hX)) hP hK hD gBl_N (fun U _ hW => hG.warm hW)) rfl rfl hl.1 rfl (lv_room (Nat.le_of_ble_eq_true rfl)) dX1_pour_33 ⟨Nat.le_of_ble_eq_true rfl, Nat.le_of_ble_eq_true rfl⟩) hD hS hA (fun r9 u9 H locs hr9 hP hD hS => ?_)
    exact vx_ret (g_reti hx hb hr hlocks hK (r9) u9 hP hD hS (Nat.le_of_ble_eq_true rfl) (Nat.le_of_ble_eq_true rfl) (⟨hg, cn, n1, n2, rfl, fun z => hv0 (glow_one hlv z), hr9.1, hr9.2⟩) dX1_pour_36)
  · skip
    have hv0 : v = 0 := (nI_eq (by omega) (by omega)).mp (show nI v = nI 0 from c1)
    subst hv0
    exact g_throw (cls := xISE) (text := "the jug is empty") (pc := 17) hx hb hl9 hts hown hlocks hK hGG (hl.1.trans hml.symm) hout (by decide +kernel) xk_pour xi_pour (by decide +kernel) xin_pour xbad_ISE xgood_ISE dX1_pour_17 dX1_pour_20 dX1_pour_21 dX1_pour_23 dX1_pour_26 ⟨Nat.le_of_ble_eq_true rfl, Nat.le_of_ble_eq_true rfl, Nat.le_of_ble_eq_true rfl, Nat.le_of_ble_eq_true rfl⟩ (Nat.le_of_ble_eq_true rfl) (Nat.le_of_ble_eq_true rfl) (L, S) (⟨Or.inr (Or.inr ⟨rfl, hg, hn, hlv⟩), hC⟩) hP hD hS
set_option maxHeartbeats 4000000 in
set_option maxRecDepth 100000 in
/-- drink(goblet) -/
theorem c_drink (l : Launch) (hl9 : l.stackTraces = false) (D : va_G) (tys : List (ClassId × FieldType)) (X : va_W) (L : List Nat) (S : gS) (sz : Nat) {P : Nat → Int32} {i h0 lo : Nat} {sv rv : Int32} (hX : X[i]? = some (gO h0 lo sv rv)) (hC : gCh P lo (L, S)) (v0 : Int32) (ho : gOut P) : vx_Met l yX1_drink wsX1_drink ({ frames := 7, cells := 5, slots := 22, locals := 102 } : Room) (gP D tys [.ref h0, .int v0] (X ++ va_pl L (gE S)) sz (gG (va_A (X ++ va_pl L (gE S)) sz))) (va_Qi (fun (r : Int32) (u : List Nat × gS) => (gGob v0 ∧ ∃ v : Nat, 1 ≤ v ∧ v ≤ 5000 ∧ r = nI v ∧ (glow (fun j => P j = v0) 5000 v ∨ (glow (fun j => P j = v0) 5000 0 ∧ glow (fun j => P j = 8) 5000 v)) ∧ gCh (va_up P v 9) lo u)) (fun u t => gWd D tys (va_A (X ++ va_pl L (gE S)) sz) (X ++ va_pl u.1 (gE u.2)) t) (va_A (X ++ va_pl L (gE S)) sz)) (gX (fun E (u : List Nat × gS) => ((E = xIOB ∧ ¬ gGob v0) ∨ (E = xISE ∧ gGob v0 ∧ glow (fun j => P j = v0) 5000 0 ∧ glow (fun j => P j = 8) 5000 0)) ∧ gCh P lo u) (fun u => X ++ va_pl u.1 (gE u.2)) D tys (va_A (X ++ va_pl L (gE S)) sz)) 5 22 (va_A (X ++ va_pl L (gE S)) sz) := by
  refine g_ofX (cc := cX1_drink) (maxL := 3) (ret := some .int) (by decide) rfl (Nat.le_of_ble_eq_true rfl) ?_
  intro p e s m below meth c hx hb hr hml hts hown hlocks hout hsz hP hK hD hA hS hGG ls hl
  subst hsz
  have hown : s.vm.findClass RX1 = some m.cls := hown
  have hl : lv_has ls 3 [(0, .ref h0), (1, .int v0)] := hl
  have hG : gN s := hGG.1
  obtain ⟨g, hch, hwf, hmx⟩ := id hC
  refine lv_iload_n hx hb dX1_drink_0 rfl (lv_at hl 1 rfl) ?_
  refine g_xcallv (vx_runS (As := [.int v0]) (rest := []) ⟨hx, hb, hml, hown, hts⟩ (c_chkG l hl9 D tys (X ++ va_pl L (gE S)) s.heap.size v0) (va_cwS 1 hts gX1_drink_X1_checkGoblet rfl rfl rfl (by decide +kernel) ⟨Nat.le_of_ble_eq_true rfl, Nat.le_of_ble_eq_true rfl⟩) (gP_S hP hK hD gBl_G (fun U hU hW => gG.call hGG hS (gA_sub hD hS hA) U hU hW)) rfl rfl hl.1 rfl (lv_room (Nat.le_of_ble_eq_true rfl)) dX1_drink_1 ⟨Nat.le_of_ble_eq_true rfl, Nat.le_of_ble_eq_true rfl⟩) hD hS hA (fun E ce q9 u H locs hc hP hD hS e1 e2 e3 => g_out hout hlocks hK e1 e2 e3 (Nat.le_of_ble_eq_true rfl) (Nat.le_of_ble_eq_true rfl) (L, S) ⟨Or.inl hc, hC⟩ hP hD hS) (fun _ H locs hg hP hD hS => ?_)
  have hv1 : ¬ v0 = -1 := by obtain ⟨j, hj, rfl⟩ := hg; exact fun z => g_neg j hj z.symm
  have hv8 : ¬ v0 = 8 := by obtain ⟨j, hj, rfl⟩ := hg; intro z; have := (nI_eq (by omega) (by omega)).mp (show nI j = nI 8 from z); omega
  refine lv_aload_n hx hb dX1_drink_4 rfl (lv_at hl 0 rfl) ?_
  refine lv_iload_n hx hb dX1_drink_5 rfl (lv_at hl 1 rfl) ?_
  refine g_calli (va_runV (As := [.int v0]) (rest := []) ⟨hx, hb, hml, hown, hts⟩ (c_lowest l D tys X L S H.size hX hwf hmx hch v0) (cwV 1 hts gX1_drink_X1_lowestAt rfl rfl rfl (by decide +kernel) ⟨Nat.le_of_ble_eq_true rfl, Nat.le_of_ble_eq_true rfl⟩) (gP_V (va_recv hK hP (ci := 1) rfl (g_inX hX)) hP hK hD gBl_N (fun U _ hW => hG.warm hW)) rfl rfl hl.1 rfl (lv_room (Nat.le_of_ble_eq_true rfl)) dX1_drink_6 ⟨Nat.le_of_ble_eq_true rfl, Nat.le_of_ble_eq_true rfl⟩) hD hS hA (fun r9 u9 H locs hr9 hP hD hS => ?_)
  obtain ⟨v, rfl, hlv⟩ := hr9
  have hv5 := glow_le hlv
  have tail : ∀ (P1 : Nat → Int32) (u1 : List Nat × gS) (v2 : Nat) (H : Heap) (locs : List Loc) (ls : Array Slot), gCh P1 lo u1 → gOut P1 → glow (fun j => P1 j = v0) 5000 v2 → (v2 = 0 → P1 = P ∧ glow (fun j => P j = v0) 5000 0 ∧ glow (fun j => P j = 8) 5000 0) → (1 ≤ v2 → (glow (fun j => P j = v0) 5000 v2 ∨ (glow (fun j => P j = v0) 5000 0 ∧ glow (fun j => P j = 8) 5000 v2)) ∧ va_up P1 v2 9 = va_up P v2 9) → va_P D vwCl (X ++ va_pl u1.1 (gE u1.2)) H → va_D (va_A (X ++ va_pl L (gE S)) s.heap.size) (X ++ va_pl u1.1 (gE u1.2)) → va_S (va_A (X ++ va_pl L (gE S)) s.heap.size) s.heap H locs → lv_has ls 3 [(0, .ref h0), (1, .int v0)] → W p l e (({ frames := 7, cells := 5, slots := 22, locals := 102 } : Room)) s m ([.ref h0, .int v0] : List Value).toArray below meth c H locs 3 14 (vx_MQ below (va_Qi (fun (r : Int32) (u : List Nat × gS) => (gGob v0 ∧ ∃ v : Nat, 1 ≤ v ∧ v ≤ 5000 ∧ r = nI v ∧ (glow (fun j => P j = v0) 5000 v ∨ (glow (fun j => P j = v0) 5000 0 ∧ glow (fun j => P j = 8) 5000 v)) ∧ gCh (va_up P v 9) lo u)) (fun u t => gWd D tys (va_A (X ++ va_pl L (gE S)) s.heap.size) (X ++ va_pl u.1 (gE u.2)) t) (va_A (X ++ va_pl L (gE S)) s.heap.size)) (gX (fun E (u : List Nat × gS) => ((E = xIOB ∧ ¬ gGob v0) ∨ (E = xISE ∧ gGob v0 ∧ glow (fun j => P j = v0) 5000 0 ∧ glow (fun j => P j = 8) 5000 0)) ∧ gCh P lo u) (fun u => X ++ va_pl u.1 (gE u.2)) D tys (va_A (X ++ va_pl L (gE S)) s.heap.size)) ([.ref h0, .int v0] : List Value).toArray s 5 22 (va_A (X ++ va_pl L (gE S)) s.heap.size)) (F0 m 22 ls []) := by
    intro P1 u1 v2 H locs ls hC1 ho1 hl2 hz hp hP hD hS hl
    obtain ⟨L1, S1⟩ := u1
    obtain ⟨g1, hch1, hwf1, hmx1⟩ := id hC1
    have hv25 := glow_le hl2
    refine lv_aload_n hx hb dX1_drink_22 rfl (lv_at hl 0 rfl) ?_
    refine lv_iload_n hx hb dX1_drink_23 rfl (lv_at hl 1 rfl) ?_
    refine g_calli (va_runV (As := [.int v0]) (rest := []) ⟨hx, hb, hml, hown, hts⟩ (c_lowest l D tys X L1 S1 H.size hX hwf1 hmx1 hch1 v0) (cwV 1 hts gX1_drink_X1_lowestAt rfl rfl rfl (by decide +kernel) ⟨Nat.le_of_ble_eq_true rfl, Nat.le_of_ble_eq_true rfl⟩) (gP_V (va_recv hK hP (ci := 1) rfl (g_inX hX)) hP hK hD gBl_N (fun U _ hW => hG.warm hW)) rfl rfl hl.1 rfl (lv_room (Nat.le_of_ble_eq_true rfl)) dX1_drink_24 ⟨Nat.le_of_ble_eq_true rfl, Nat.le_of_ble_eq_true rfl⟩) hD hS hA (fun r9 u9 H locs hr9 hP hD hS => ?_)
    obtain ⟨v3, rfl, hl3⟩ := hr9
    obtain rfl : v3 = v2 := glow_one hl3 hl2
    refine lv_istore_n (lv' := [(2, .int (nI v3)), (0, .ref h0), (1, .int v0)]) hx hb dX1_drink_27 rfl hl (by decide) rfl (fun ls hl => ?_)
    refine lv_iload_n hx hb dX1_drink_28 rfl (lv_at hl 0 rfl) ?_
    refine lv_if_ne (tgt := 42) hx hb dX1_drink_29 (by decide) (fun c1 => ?_) (fun c1 => ?_)
    · have hv0 : ¬ v3 = 0 := fun z => c1 (by rw [z]; rfl)
      refine lv_aload_n hx hb dX1_drink_42 rfl (lv_at hl 1 rfl) ?_
      refine lv_iload_n hx hb dX1_drink_43 rfl (lv_at hl 2 rfl) ?_
      refine lv_bipush (v := 9) hx hb dX1_drink_44 (by decide) ?_
      refine lv_iconst (v := 0) hx hb dX1_drink_46 (by decide) ?_
      refine lv_iconst (v := 1) hx hb dX1_drink_47 (by decide) ?_
      refine g_calli (va_runV (As := [.int v0, .int 9, .int 0, .int 1]) (rest := []) ⟨hx, hb, hml, hown, hts⟩ (c_move l D tys X L1 S1 H.size hX hwf1 hmx1 hch1 v0 9 (stay := 0) (cnt := 1) (by omega) (Nat.le_refl _) (by omega)) (cwV 4 hts gX1_drink_X1_move rfl rfl rfl (by decide +kernel) ⟨Nat.le_of_ble_eq_true rfl, Nat.le_of_ble_eq_true rfl⟩) (gP_V (va_recv hK hP (ci := 1) rfl (g_inX hX)) hP hK hD gBl_N (fun U _ hW => hG.warm hW)) rfl rfl hl.1 rfl (lv_room (Nat.le_of_ble_eq_true rfl)) dX1_drink_48 ⟨Nat.le_of_ble_eq_true rfl, Nat.le_of_ble_eq_true rfl⟩) hD hS hA (fun r9 u9 H locs hr9 hP hD hS => ?_)
      have hcu := hr9.2
      rw [gmv_one hv1 ho1 (by omega) hl2, (hp (by omega)).2] at hcu
      refine lv_pop hx hb dX1_drink_51 rfl ?_
      refine lv_iload_n hx hb dX1_drink_52 rfl (lv_at hl 0 rfl) ?_
      exact vx_ret (g_reti hx hb hr hlocks hK (nI v3) u9 hP hD hS (Nat.le_of_ble_eq_true rfl) (Nat.le_of_ble_eq_true rfl) (⟨hg, v3, by omega, hv25, rfl, (hp (by omega)).1, hcu⟩) dX1_drink_53)
    · skip
      have hv0 : v3 = 0 := (nI_eq (by omega) (by omega)).mp (show nI v3 = nI 0 from c1)
      obtain ⟨z1, z2, z3⟩ := hz hv0
      subst z1
      exact g_throw (cls := xISE) (text := "the goblet and the jug are empty") (pc := 32) hx hb hl9 hts hown hlocks hK hGG (hl.1.trans hml.symm) hout (by decide +kernel) xk_drink xi_drink (by decide +kernel) xin_drink xbad_ISE xgood_ISE dX1_drink_32 dX1_drink_35 dX1_drink_36 dX1_drink_38 dX1_drink_41 ⟨Nat.le_of_ble_eq_true rfl, Nat.le_of_ble_eq_true rfl, Nat.le_of_ble_eq_true rfl, Nat.le_of_ble_eq_true rfl⟩ (Nat.le_of_ble_eq_true rfl) (Nat.le_of_ble_eq_true rfl) (L1, S1) (⟨Or.inr ⟨rfl, hg, z2, z3⟩, hC1⟩) hP hD hS
  refine lv_if_ne (tgt := 22) hx hb dX1_drink_9 (by decide) (fun c1 => ?_) (fun c1 => ?_)
  · have hv0 : ¬ v = 0 := fun z => c1 (by rw [z]; rfl)
    refine W.widen (k := 3) (n := 14) (Nat.le_of_ble_eq_true rfl) (Nat.le_of_ble_eq_true rfl) ?_
    exact tail P (L, S) v H locs ls hC ho hlv (fun z => absurd z hv0) (fun _ => ⟨Or.inl hlv, rfl⟩) hP hD hS hl
  · skip
    have hv0 : v = 0 := (nI_eq (by omega) (by omega)).mp (show nI v = nI 0 from c1)
    subst hv0
    refine lv_aload_n hx hb dX1_drink_12 rfl (lv_at hl 0 rfl) ?_
    refine lv_bipush (v := 8) hx hb dX1_drink_13 (by decide) ?_
    refine lv_iload_n hx hb dX1_drink_15 rfl (lv_at hl 1 rfl) ?_
    refine lv_iconst (v := 0) hx hb dX1_drink_16 (by decide) ?_
    refine lv_iconst (v := 1) hx hb dX1_drink_17 (by decide) ?_
    refine g_calli (va_runV (As := [.int 8, .int v0, .int 0, .int 1]) (rest := []) ⟨hx, hb, hml, hown, hts⟩ (c_move l D tys X L S H.size hX hwf hmx hch 8 v0 (stay := 0) (cnt := 1) (by omega) (Nat.le_refl _) (by omega)) (cwV 4 hts gX1_drink_X1_move rfl rfl rfl (by decide +kernel) ⟨Nat.le_of_ble_eq_true rfl, Nat.le_of_ble_eq_true rfl⟩) (gP_V (va_recv hK hP (ci := 1) rfl (g_inX hX)) hP hK hD gBl_N (fun U _ hW => hG.warm hW)) rfl rfl hl.1 rfl (lv_room (Nat.le_of_ble_eq_true rfl)) dX1_drink_18 ⟨Nat.le_of_ble_eq_true rfl, Nat.le_of_ble_eq_true rfl⟩) hD hS hA (fun r9 u9 H locs hr9 hP hD hS => ?_)
    obtain ⟨w, hlw⟩ := glow_ex (fun j => P j = 8) 5000
    have hcu := hr9.2
    refine lv_pop hx hb dX1_drink_21 rfl ?_
    have hno : ∀ j, 1 ≤ j → j ≤ 5000 → ¬ P j = v0 := by rcases hlv with ⟨-, z⟩ | ⟨z, -⟩; exact z; exact absurd z (by omega)
    rcases Nat.eq_zero_or_pos w with z | z
    · subst z
      have hno8 : ∀ j, 1 ≤ j → j ≤ 5000 → ¬ P j = 8 := by rcases hlw with ⟨-, z⟩ | ⟨z, -⟩; exact z; exact absurd z (by omega)
      have he : gmv P 8 v0 0 1 = P := gmv_none (by decide) ho hno8
      exact tail (gmv P 8 v0 0 1) u9 0 H locs ls hcu (by rw [he]; exact ho) (by rw [he]; exact hlv) (fun _ => ⟨he, hlv, hlw⟩) (fun z => absurd z (by omega)) hP hD hS hl
    · have he : gmv P 8 v0 0 1 = va_up P w v0 := gmv_one (by decide) ho z hlw
      have hw5 := glow_le hlw
      refine tail (gmv P 8 v0 0 1) u9 w H locs ls hcu (by rw [he]; exact fun j hj => by rw [va_up_ne _ _ (by omega)]; exact ho j hj) (by rw [he]; exact Or.inr ⟨z, hw5, va_up_self _ _ _, fun j h1 h2 => by show ¬ va_up P w v0 j = v0; rw [va_up_ne _ _ (by omega)]; exact hno j h1 (by omega)⟩) (fun y => absurd y (by omega)) (fun _ => ⟨Or.inr ⟨hlv, hlw⟩, by rw [he, bx_uu]⟩) hP hD hS hl
set_option maxHeartbeats 4000000 in
set_option maxRecDepth 100000 in
/-- share(from, to, count) -/
theorem c_share (l : Launch) (hl9 : l.stackTraces = false) (D : va_G) (tys : List (ClassId × FieldType)) (X : va_W) (L : List Nat) (S : gS) (sz : Nat) {P : Nat → Int32} {i h0 lo : Nat} {sv rv : Int32} (hX : X[i]? = some (gO h0 lo sv rv)) (hC : gCh P lo (L, S)) (v0 v1 v2 : Int32) : vx_Met l yX1_share wsX1_share ({ frames := 7, cells := 5, slots := 26, locals := 102 } : Room) (gP D tys [.ref h0, .int v0, .int v1, .int v2] (X ++ va_pl L (gE S)) sz (gG (va_A (X ++ va_pl L (gE S)) sz))) (va_Qi (fun (r : Int32) (u : List Nat × gS) => (gGob v0 ∧ gGob v1 ∧ ¬ v0 = v1 ∧ ∃ cn : Nat, 1 ≤ cn ∧ cn ≤ 200 ∧ v2 = nI cn ∧ r = nI (min cn (gct P v0 5000)) ∧ gCh (gmv P v0 v1 (gct P v0 5000 - cn) cn) lo u)) (fun u t => gWd D tys (va_A (X ++ va_pl L (gE S)) sz) (X ++ va_pl u.1 (gE u.2)) t) (va_A (X ++ va_pl L (gE S)) sz)) (gX (fun E (u : List Nat × gS) => ((E = xIOB ∧ ¬ (gGob v0 ∧ gGob v1)) ∨ (E = xIAE ∧ gGob v0 ∧ gGob v1 ∧ (v0 = v1 ∨ ¬ gCnt v2))) ∧ gCh P lo u) (fun u => X ++ va_pl u.1 (gE u.2)) D tys (va_A (X ++ va_pl L (gE S)) sz)) 5 26 (va_A (X ++ va_pl L (gE S)) sz) := by
  refine g_ofX (cc := cX1_share) (maxL := 5) (ret := some .int) (by decide) rfl (Nat.le_of_ble_eq_true rfl) ?_
  intro p e s m below meth c hx hb hr hml hts hown hlocks hout hsz hP hK hD hA hS hGG ls hl
  subst hsz
  have hown : s.vm.findClass RX1 = some m.cls := hown
  have hl : lv_has ls 5 [(0, .ref h0), (1, .int v0), (2, .int v1), (3, .int v2)] := hl
  have hG : gN s := hGG.1
  obtain ⟨g, hch, hwf, hmx⟩ := id hC
  refine lv_iload_n hx hb dX1_share_0 rfl (lv_at hl 1 rfl) ?_
  refine g_xcallv (vx_runS (As := [.int v0]) (rest := []) ⟨hx, hb, hml, hown, hts⟩ (c_chkG l hl9 D tys (X ++ va_pl L (gE S)) s.heap.size v0) (va_cwS 1 hts gX1_share_X1_checkGoblet rfl rfl rfl (by decide +kernel) ⟨Nat.le_of_ble_eq_true rfl, Nat.le_of_ble_eq_true rfl⟩) (gP_S hP hK hD gBl_G (fun U hU hW => gG.call hGG hS (gA_sub hD hS hA) U hU hW)) rfl rfl hl.1 rfl (lv_room (Nat.le_of_ble_eq_true rfl)) dX1_share_1 ⟨Nat.le_of_ble_eq_true rfl, Nat.le_of_ble_eq_true rfl⟩) hD hS hA (fun E ce q9 u H locs hc hP hD hS e1 e2 e3 => g_out hout hlocks hK e1 e2 e3 (Nat.le_of_ble_eq_true rfl) (Nat.le_of_ble_eq_true rfl) (L, S) ⟨Or.inl ⟨hc.1, fun z => hc.2 z.1⟩, hC⟩ hP hD hS) (fun _ H locs hg hP hD hS => ?_)
  refine lv_iload_n hx hb dX1_share_4 rfl (lv_at hl 2 rfl) ?_
  refine g_xcallv (vx_runS (As := [.int v1]) (rest := []) ⟨hx, hb, hml, hown, hts⟩ (c_chkG l hl9 D tys (X ++ va_pl L (gE S)) H.size v1) (va_cwS 1 hts gX1_share_X1_checkGoblet rfl rfl rfl (by decide +kernel) ⟨Nat.le_of_ble_eq_true rfl, Nat.le_of_ble_eq_true rfl⟩) (gP_S hP hK hD gBl_G (fun U hU hW => gG.call hGG hS (gA_sub hD hS hA) U hU hW)) rfl rfl hl.1 rfl (lv_room (Nat.le_of_ble_eq_true rfl)) dX1_share_5 ⟨Nat.le_of_ble_eq_true rfl, Nat.le_of_ble_eq_true rfl⟩) hD hS hA (fun E ce q9 u H locs hc hP hD hS e1 e2 e3 => g_out hout hlocks hK e1 e2 e3 (Nat.le_of_ble_eq_true rfl) (Nat.le_of_ble_eq_true rfl) (L, S) ⟨Or.inl ⟨hc.1, fun z => hc.2 z.2⟩, hC⟩ hP hD hS) (fun _ H locs hg2 hP hD hS => ?_)
  refine lv_iload_n hx hb dX1_share_8 rfl (lv_at hl 1 rfl) ?_
  refine lv_iload_n hx hb dX1_share_9 rfl (lv_at hl 2 rfl) ?_
  refine lv_icmp_ne (tgt := 23) hx hb dX1_share_10 (by decide) (fun c1 => ?_) (fun c1 => ?_)
  · skip
    refine lv_iload_n hx hb dX1_share_23 rfl (lv_at hl 3 rfl) ?_
    refine g_xcallv (vx_runS (As := [.int v2]) (rest := []) ⟨hx, hb, hml, hown, hts⟩ (c_chkC l hl9 D tys (X ++ va_pl L (gE S)) H.size v2) (va_cwS 1 hts gX1_share_X1_checkCount rfl rfl rfl (by decide +kernel) ⟨Nat.le_of_ble_eq_true rfl, Nat.le_of_ble_eq_true rfl⟩) (gP_S hP hK hD gBl_G (fun U hU hW => gG.call hGG hS (gA_sub hD hS hA) U hU hW)) rfl rfl hl.1 rfl (lv_room (Nat.le_of_ble_eq_true rfl)) dX1_share_24 ⟨Nat.le_of_ble_eq_true rfl, Nat.le_of_ble_eq_true rfl⟩) hD hS hA (fun E ce q9 u H locs hc hP hD hS e1 e2 e3 => g_out hout hlocks hK e1 e2 e3 (Nat.le_of_ble_eq_true rfl) (Nat.le_of_ble_eq_true rfl) (L, S) ⟨Or.inr ⟨hc.1, hg, hg2, Or.inr hc.2⟩, hC⟩ hP hD hS) (fun _ H locs hn hP hD hS => ?_)
    obtain ⟨cn, n1, n2, rfl⟩ := hn
    refine lv_iconst (v := 0) hx hb dX1_share_27 (by decide) ?_
    refine lv_aload_n hx hb dX1_share_28 rfl (lv_at hl 0 rfl) ?_
    refine lv_iload_n hx hb dX1_share_29 rfl (lv_at hl 1 rfl) ?_
    refine g_calli (va_runV (As := [.int v0]) (rest := [.int 0]) ⟨hx, hb, hml, hown, hts⟩ (c_numbers l D tys X L S H.size hX hwf hmx hch v0) (cwV 1 hts gX1_share_X1_numbersAt rfl rfl rfl (by decide +kernel) ⟨Nat.le_of_ble_eq_true rfl, Nat.le_of_ble_eq_true rfl⟩) (gP_V (va_recv hK hP (ci := 1) rfl (g_inX hX)) hP hK hD gBl_N (fun U _ hW => hG.warm hW)) rfl rfl hl.1 rfl (lv_room (Nat.le_of_ble_eq_true rfl)) dX1_share_30 ⟨Nat.le_of_ble_eq_true rfl, Nat.le_of_ble_eq_true rfl⟩) hD hS hA (fun r9 u9 H locs hr9 hP hD hS => ?_)
    subst hr9
    have htot := gct_le P v0 5000
    refine lv_iload_n hx hb dX1_share_33 rfl (lv_at hl 3 rfl) ?_
    refine lv_isub hx hb dX1_share_34 ?_
    refine va_mmax hx hb (hml.trans hl.1.symm) hown (hts (.methodLink RX1 63 Lib.Math.max.name) (by decide +kernel)) (hts (.static Lib.Math.max.name) (by decide +kernel)) (hts (.initialized "java/lang/Math") (by decide +kernel)) (hts (.code Lib.Math.max.name Lib.Math.max.code 2 (some .int)) (by decide +kernel)) (Nat.le_of_ble_eq_true rfl) (Nat.le_of_ble_eq_true rfl) (Nat.le_of_ble_eq_true rfl) (Nat.le_of_ble_eq_true rfl) dX1_share_35 ?_
    refine g_top (y := nI (gct P v0 5000 - cn)) (g_max0 htot n2) ?_
    refine lv_istore (lv' := [(4, .int (nI (gct P v0 5000 - cn))), (0, .ref h0), (1, .int v0), (2, .int v1), (3, .int (nI cn))]) hx hb dX1_share_38 hl (by decide) rfl (fun ls hl => ?_)
    refine lv_aload_n hx hb dX1_share_40 rfl (lv_at hl 1 rfl) ?_
    refine lv_iload_n hx hb dX1_share_41 rfl (lv_at hl 2 rfl) ?_
    refine lv_iload_n hx hb dX1_share_42 rfl (lv_at hl 3 rfl) ?_
    refine lv_iload hx hb dX1_share_43 (lv_at hl 0 rfl) ?_
    refine lv_iload_n hx hb dX1_share_45 rfl (lv_at hl 4 rfl) ?_
    refine g_calli (va_runV (As := [.int v0, .int v1, .int (nI (gct P v0 5000 - cn)), .int (nI cn)]) (rest := []) ⟨hx, hb, hml, hown, hts⟩ (c_move l D tys X L S H.size hX hwf hmx hch v0 v1 (stay := gct P v0 5000 - cn) (cnt := cn) (by omega) n1 (by omega)) (cwV 4 hts gX1_share_X1_move rfl rfl rfl (by decide +kernel) ⟨Nat.le_of_ble_eq_true rfl, Nat.le_of_ble_eq_true rfl⟩) (gP_V (va_recv hK hP (ci := 1) rfl (g_inX hX)) hP hK hD gBl_N (fun U _ hW => hG.warm hW)) rfl rfl hl.1 rfl (lv_room (Nat.le_of_ble_eq_true rfl)) dX1_share_46 ⟨Nat.le_of_ble_eq_true rfl, Nat.le_of_ble_eq_true rfl⟩) hD hS hA (fun r9 u9 H locs hr9 hP hD hS => ?_)
    exact vx_ret (g_reti hx hb hr hlocks hK (r9) u9 hP hD hS (Nat.le_of_ble_eq_true rfl) (Nat.le_of_ble_eq_true rfl) (⟨hg, hg2, c1, cn, n1, n2, rfl, by rw [hr9.1]; congr 1; omega, hr9.2⟩) dX1_share_49)
  · skip
    exact g_throw (cls := xIAE) (text := "both goblets are the same") (pc := 13) hx hb hl9 hts hown hlocks hK hGG (hl.1.trans hml.symm) hout (by decide +kernel) xk_share xi_share (by decide +kernel) xin_share xbad_IAE xgood_IAE dX1_share_13 dX1_share_16 dX1_share_17 dX1_share_19 dX1_share_22 ⟨Nat.le_of_ble_eq_true rfl, Nat.le_of_ble_eq_true rfl, Nat.le_of_ble_eq_true rfl, Nat.le_of_ble_eq_true rfl⟩ (Nat.le_of_ble_eq_true rfl) (Nat.le_of_ble_eq_true rfl) (L, S) (⟨Or.inr ⟨rfl, hg, hg2, Or.inl c1⟩, hC⟩) hP hD hS
set_option maxHeartbeats 4000000 in
set_option maxRecDepth 100000 in
/-- giveBack(number) -/
theorem c_giveBack (l : Launch) (hl9 : l.stackTraces = false) (D : va_G) (tys : List (ClassId × FieldType)) (X : va_W) (L : List Nat) (S : gS) (sz : Nat) {P : Nat → Int32} {i h0 lo : Nat} {sv rv : Int32} (hX : X[i]? = some (gO h0 lo sv rv)) (hC : gCh P lo (L, S)) (v0 : Int32) (ho : gOut P) : vx_Met l yX1_giveBack wsX1_giveBack ({ frames := 6, cells := 3, slots := 14, locals := 90 } : Room) (gP D tys [.ref h0, .int v0] (X ++ va_pl L (gE S)) sz (gG (va_A (X ++ va_pl L (gE S)) sz))) (va_Qi (fun (r : Int32) (u : List Nat × gS) => (∃ j : Nat, 1 ≤ j ∧ j ≤ 5000 ∧ v0 = nI j ∧ P j = 9 ∧ r = nI (gct (va_up P j 8) 8 5000) ∧ gCh (va_up P j 8) lo u)) (fun u t => gWd D tys (va_A (X ++ va_pl L (gE S)) sz) (X ++ va_pl u.1 (gE u.2)) t) (va_A (X ++ va_pl L (gE S)) sz)) (gX (fun E (u : List Nat × gS) => (E = xISE ∧ ∀ j : Nat, 1 ≤ j → j ≤ 5000 → v0 = nI j → ¬ P j = 9) ∧ gCh P lo u) (fun u => X ++ va_pl u.1 (gE u.2)) D tys (va_A (X ++ va_pl L (gE S)) sz)) 3 14 (va_A (X ++ va_pl L (gE S)) sz) := by
  refine g_ofX (cc := cX1_giveBack) (maxL := 2) (ret := some .int) (by decide) rfl (Nat.le_of_ble_eq_true rfl) ?_
  intro p e s m below meth c hx hb hr hml hts hown hlocks hout hsz hP hK hD hA hS hGG ls hl
  subst hsz
  have hown : s.vm.findClass RX1 = some m.cls := hown
  have hl : lv_has ls 2 [(0, .ref h0), (1, .int v0)] := hl
  have hG : gN s := hGG.1
  obtain ⟨g, hch, hwf, hmx⟩ := id hC
  refine lv_aload_n hx hb dX1_giveBack_0 rfl (lv_at hl 0 rfl) ?_
  refine lv_iload_n hx hb dX1_giveBack_1 rfl (lv_at hl 1 rfl) ?_
  refine g_calli (va_runV (As := [.int v0]) (rest := []) ⟨hx, hb, hml, hown, hts⟩ (c_place l D tys X L S s.heap.size hX hwf hmx hch v0) (cwV 1 hts gX1_giveBack_X1_placeOf rfl rfl rfl (by decide +kernel) ⟨Nat.le_of_ble_eq_true rfl, Nat.le_of_ble_eq_true rfl⟩) (gP_V (va_recv hK hP (ci := 1) rfl (g_inX hX)) hP hK hD gBl_N (fun U _ hW => hG.warm hW)) rfl rfl hl.1 rfl (lv_room (Nat.le_of_ble_eq_true rfl)) dX1_giveBack_2 ⟨Nat.le_of_ble_eq_true rfl, Nat.le_of_ble_eq_true rfl⟩) hD hS hA (fun r9 u9 H locs hr9 hP hD hS => ?_)
  refine lv_bipush (v := 9) hx hb dX1_giveBack_5 (by decide) ?_
  refine lv_icmp_eq (tgt := 20) hx hb dX1_giveBack_7 (by decide) (fun c1 => ?_) (fun c1 => ?_)
  · subst c1
    obtain ⟨j, j1, j2, rfl, j3⟩ : ∃ j : Nat, 1 ≤ j ∧ j ≤ 5000 ∧ v0 = nI j ∧ 9 = P j := by rcases hr9 with z | ⟨z, -⟩; exact z; exact absurd z (by decide)
    have j3 := j3.symm
    refine lv_aload_n hx hb dX1_giveBack_20 rfl (lv_at hl 0 rfl) ?_
    refine lv_bipush (v := 9) hx hb dX1_giveBack_21 (by decide) ?_
    refine lv_bipush (v := 8) hx hb dX1_giveBack_23 (by decide) ?_
    refine lv_aload_n hx hb dX1_giveBack_25 rfl (lv_at hl 0 rfl) ?_
    refine lv_bipush (v := 9) hx hb dX1_giveBack_26 (by decide) ?_
    refine lv_iload_n hx hb dX1_giveBack_28 rfl (lv_at hl 1 rfl) ?_
    refine g_calli (va_runV (As := [.int 9, .int (nI j)]) (rest := [.int 8, .int 9, .ref h0]) ⟨hx, hb, hml, hown, hts⟩ (c_nab l D tys X L S H.size hX hwf hmx hch 9 (nu := j) j1 (by omega)) (cwV 2 hts gX1_giveBack_X1_numbersAtBelow rfl rfl rfl (by decide +kernel) ⟨Nat.le_of_ble_eq_true rfl, Nat.le_of_ble_eq_true rfl⟩) (gP_V (va_recv hK hP (ci := 1) rfl (g_inX hX)) hP hK hD gBl_N (fun U _ hW => hG.warm hW)) rfl rfl hl.1 rfl (lv_room (Nat.le_of_ble_eq_true rfl)) dX1_giveBack_29 ⟨Nat.le_of_ble_eq_true rfl, Nat.le_of_ble_eq_true rfl⟩) hD hS hA (fun r8 u9 H locs hr8 hP hD hS => ?_)
    subst hr8
    have hle := gct_le P 9 (j - 1)
    refine lv_iconst (v := 1) hx hb dX1_giveBack_32 (by decide) ?_
    refine g_calli (va_runV (As := [.int 9, .int 8, .int (nI (gct P 9 (j - 1))), .int 1]) (rest := []) ⟨hx, hb, hml, hown, hts⟩ (c_move l D tys X L S H.size hX hwf hmx hch 9 8 (stay := gct P 9 (j - 1)) (cnt := 1) (by omega) (Nat.le_refl _) (by omega)) (cwV 4 hts gX1_giveBack_X1_move rfl rfl rfl (by decide +kernel) ⟨Nat.le_of_ble_eq_true rfl, Nat.le_of_ble_eq_true rfl⟩) (gP_V (va_recv hK hP (ci := 1) rfl (g_inX hX)) hP hK hD gBl_N (fun U _ hW => hG.warm hW)) rfl rfl hl.1 rfl (lv_room (Nat.le_of_ble_eq_true rfl)) dX1_giveBack_33 ⟨Nat.le_of_ble_eq_true rfl, Nat.le_of_ble_eq_true rfl⟩) hD hS hA (fun r7 u9 H locs hr7 hP hD hS => ?_)
    obtain ⟨L1, S1⟩ := u9
    have hcu := hr7.2
    rw [gmv_back (by decide) ho j3] at hcu
    have hC1 : gCh (va_up P j 8) lo (L1, S1) := hcu
    obtain ⟨g1, hch1, hwf1, hmx1⟩ := hcu
    refine lv_pop hx hb dX1_giveBack_36 rfl ?_
    refine lv_aload_n hx hb dX1_giveBack_37 rfl (lv_at hl 0 rfl) ?_
    refine lv_bipush (v := 8) hx hb dX1_giveBack_38 (by decide) ?_
    refine g_calli (va_runV (As := [.int 8]) (rest := []) ⟨hx, hb, hml, hown, hts⟩ (c_numbers l D tys X L1 S1 H.size hX hwf1 hmx1 hch1 8) (cwV 1 hts gX1_giveBack_X1_numbersAt rfl rfl rfl (by decide +kernel) ⟨Nat.le_of_ble_eq_true rfl, Nat.le_of_ble_eq_true rfl⟩) (gP_V (va_recv hK hP (ci := 1) rfl (g_inX hX)) hP hK hD gBl_N (fun U _ hW => hG.warm hW)) rfl rfl hl.1 rfl (lv_room (Nat.le_of_ble_eq_true rfl)) dX1_giveBack_40 ⟨Nat.le_of_ble_eq_true rfl, Nat.le_of_ble_eq_true rfl⟩) hD hS hA (fun r6 u9 H locs hr6 hP hD hS => ?_)
    exact vx_ret (g_reti hx hb hr hlocks hK (r6) (L1, S1) hP hD hS (Nat.le_of_ble_eq_true rfl) (Nat.le_of_ble_eq_true rfl) (⟨j, j1, j2, rfl, j3, hr6, hC1⟩) dX1_giveBack_43)
  · have hno : ∀ j : Nat, 1 ≤ j → j ≤ 5000 → v0 = nI j → ¬ P j = 9 := by
      intro j h1 h2 h3 h4
      rcases hr9 with ⟨j2, y1, y2, y3, y4⟩ | ⟨-, z⟩
      · have : j = j2 := (nI_eq (by omega) (by omega)).mp (h3.symm.trans y3)
        subst this; exact c1 (y4.trans h4)
      · exact z j h1 h2 h3
    exact g_throw (cls := xISE) (text := "the number is not drunk") (pc := 10) hx hb hl9 hts hown hlocks hK hGG (hl.1.trans hml.symm) hout (by decide +kernel) xk_giveBack xi_giveBack (by decide +kernel) xin_giveBack xbad_ISE xgood_ISE dX1_giveBack_10 dX1_giveBack_13 dX1_giveBack_14 dX1_giveBack_16 dX1_giveBack_19 ⟨Nat.le_of_ble_eq_true rfl, Nat.le_of_ble_eq_true rfl, Nat.le_of_ble_eq_true rfl, Nat.le_of_ble_eq_true rfl⟩ (Nat.le_of_ble_eq_true rfl) (Nat.le_of_ble_eq_true rfl) (L, S) (⟨⟨rfl, hno⟩, hC⟩) hP hD hS
set_option maxHeartbeats 4000000 in
set_option maxRecDepth 100000 in
/-- nextRound() -/
theorem c_nextRound (l : Launch) (hl9 : l.stackTraces = false) (D : va_G) (tys : List (ClassId × FieldType)) (X : va_W) (L : List Nat) (S : gS) (sz : Nat) {P : Nat → Int32} {i h0 lo : Nat} {sv rv : Int32} (hX : X[i]? = some (gO h0 lo sv rv)) (hC : gCh P lo (L, S)) {n : Nat} (hsv : sv = nI n) (hn : n ≤ 5000) : vx_Met l yX1_nextRound wsX1_nextRound ({ frames := 6, cells := 4, slots := 16, locals := 110 } : Room) (gP D tys [.ref h0] (X ++ va_pl L (gE S)) sz (gG (va_A (X ++ va_pl L (gE S)) sz))) (va_Qi (fun (r : Int32) (u : List Nat × gS) => (gct P 9 5000 + gct P 10 5000 = n ∧ r = rv + 1 ∧ gCh (gmv (gmv P 9 8 0 5000) 10 8 0 5000) lo u)) (fun u t => gWd D tys (va_A (X ++ va_pl L (gE S)) sz) ((X.set i (gO h0 lo sv (rv + 1))) ++ va_pl u.1 (gE u.2)) t) (va_A (X ++ va_pl L (gE S)) sz)) (gX (fun E (u : List Nat × gS) => (E = xISE ∧ ¬ gct P 9 5000 + gct P 10 5000 = n) ∧ gCh P lo u) (fun u => X ++ va_pl u.1 (gE u.2)) D tys (va_A (X ++ va_pl L (gE S)) sz)) 4 16 (va_A (X ++ va_pl L (gE S)) sz) := by
  refine g_ofX (cc := cX1_nextRound) (maxL := 1) (ret := some .int) (by decide) rfl (Nat.le_of_ble_eq_true rfl) ?_
  intro p e s m below meth c hx hb hr hml hts hown hlocks hout hsz hP hK hD hA hS hGG ls hl
  subst hsz
  have hown : s.vm.findClass RX1 = some m.cls := hown
  have hl : lv_has ls 1 [(0, .ref h0)] := hl
  have hG : gN s := hGG.1
  obtain ⟨g, hch, hwf, hmx⟩ := id hC
  have h9 := gct_le P 9 5000
  have h10 := gct_le P 10 5000
  refine lv_aload_n hx hb dX1_nextRound_0 rfl (lv_at hl 0 rfl) ?_
  refine lv_bipush (v := 9) hx hb dX1_nextRound_1 (by decide) ?_
  refine g_calli (va_runV (As := [.int 9]) (rest := []) ⟨hx, hb, hml, hown, hts⟩ (c_numbers l D tys X L S s.heap.size hX hwf hmx hch 9) (cwV 1 hts gX1_nextRound_X1_numbersAt rfl rfl rfl (by decide +kernel) ⟨Nat.le_of_ble_eq_true rfl, Nat.le_of_ble_eq_true rfl⟩) (gP_V (va_recv hK hP (ci := 1) rfl (g_inX hX)) hP hK hD gBl_N (fun U _ hW => hG.warm hW)) rfl rfl hl.1 rfl (lv_room (Nat.le_of_ble_eq_true rfl)) dX1_nextRound_3 ⟨Nat.le_of_ble_eq_true rfl, Nat.le_of_ble_eq_true rfl⟩) hD hS hA (fun r9 u9 H locs hr9 hP hD hS => ?_)
  subst hr9
  refine lv_aload_n hx hb dX1_nextRound_6 rfl (lv_at hl 0 rfl) ?_
  refine lv_bipush (v := 10) hx hb dX1_nextRound_7 (by decide) ?_
  refine g_calli (va_runV (As := [.int 10]) (rest := [.int (nI (gct P 9 5000))]) ⟨hx, hb, hml, hown, hts⟩ (c_numbers l D tys X L S H.size hX hwf hmx hch 10) (cwV 1 hts gX1_nextRound_X1_numbersAt rfl rfl rfl (by decide +kernel) ⟨Nat.le_of_ble_eq_true rfl, Nat.le_of_ble_eq_true rfl⟩) (gP_V (va_recv hK hP (ci := 1) rfl (g_inX hX)) hP hK hD gBl_N (fun U _ hW => hG.warm hW)) rfl rfl hl.1 rfl (lv_room (Nat.le_of_ble_eq_true rfl)) dX1_nextRound_9 ⟨Nat.le_of_ble_eq_true rfl, Nat.le_of_ble_eq_true rfl⟩) hD hS hA (fun r8 u8 H locs hr8 hP hD hS => ?_)
  subst hr8
  refine lv_iadd hx hb dX1_nextRound_12 ?_
  refine g_top (y := nI (gct P 9 5000 + gct P 10 5000)) (nI_add _ _) ?_
  refine lv_aload_n hx hb dX1_nextRound_13 rfl (lv_at hl 0 rfl) ?_
  refine va_get (D := D) (ci := 1) (v := .int sv) (C := RX1) (T := TX1) (N := 3) hx hb hts i1_nextRound hown hK hP i (g_inX hX) rfl 1 (by decide) (hts (.fieldLink RX1 18 "NumberGoblets" "size" "I") (by decide +kernel)) (fun _ h9 => h9) rfl dX1_nextRound_14 ?_
  refine lv_icmp_eq (tgt := 30) hx hb dX1_nextRound_17 (by decide) (fun c1 => ?_) (fun c1 => ?_)
  · have heq : gct P 9 5000 + gct P 10 5000 = n := (nI_eq (by omega) (by omega)).mp (c1.trans hsv)
    refine lv_aload_n hx hb dX1_nextRound_30 rfl (lv_at hl 0 rfl) ?_
    refine lv_bipush (v := 9) hx hb dX1_nextRound_31 (by decide) ?_
    refine lv_bipush (v := 8) hx hb dX1_nextRound_33 (by decide) ?_
    refine g_calli (va_runV (As := [.int 9, .int 8]) (rest := []) ⟨hx, hb, hml, hown, hts⟩ (c_moveAll l D tys X L S H.size hX hwf hmx hch 9 8) (cwV 2 hts gX1_nextRound_X1_moveAll rfl rfl rfl (by decide +kernel) ⟨Nat.le_of_ble_eq_true rfl, Nat.le_of_ble_eq_true rfl⟩) (gP_V (va_recv hK hP (ci := 1) rfl (g_inX hX)) hP hK hD gBl_N (fun U _ hW => hG.warm hW)) rfl rfl hl.1 rfl (lv_room (Nat.le_of_ble_eq_true rfl)) dX1_nextRound_35 ⟨Nat.le_of_ble_eq_true rfl, Nat.le_of_ble_eq_true rfl⟩) hD hS hA (fun r7 u7 H locs hr7 hP hD hS => ?_)
    obtain ⟨L1, S1⟩ := u7
    obtain ⟨g1, hch1, hwf1, hmx1⟩ := hr7.2
    refine lv_pop hx hb dX1_nextRound_38 rfl ?_
    refine lv_aload_n hx hb dX1_nextRound_39 rfl (lv_at hl 0 rfl) ?_
    refine lv_bipush (v := 10) hx hb dX1_nextRound_40 (by decide) ?_
    refine lv_bipush (v := 8) hx hb dX1_nextRound_42 (by decide) ?_
    refine g_calli (va_runV (As := [.int 10, .int 8]) (rest := []) ⟨hx, hb, hml, hown, hts⟩ (c_moveAll l D tys X L1 S1 H.size hX hwf1 hmx1 hch1 10 8) (cwV 2 hts gX1_nextRound_X1_moveAll rfl rfl rfl (by decide +kernel) ⟨Nat.le_of_ble_eq_true rfl, Nat.le_of_ble_eq_true rfl⟩) (gP_V (va_recv hK hP (ci := 1) rfl (g_inX hX)) hP hK hD gBl_N (fun U _ hW => hG.warm hW)) rfl rfl hl.1 rfl (lv_room (Nat.le_of_ble_eq_true rfl)) dX1_nextRound_44 ⟨Nat.le_of_ble_eq_true rfl, Nat.le_of_ble_eq_true rfl⟩) hD hS hA (fun r6 u6 H locs hr6 hP hD hS => ?_)
    refine lv_pop hx hb dX1_nextRound_47 rfl ?_
    refine lv_aload_n hx hb dX1_nextRound_48 rfl (lv_at hl 0 rfl) ?_
    refine lv_dup hx hb dX1_nextRound_49 rfl ?_
    refine va_get (D := D) (ci := 1) (v := .int rv) (C := RX1) (T := TX1) (N := 3) hx hb hts i1_nextRound hown hK hP i (g_inX hX) rfl 2 (by decide) (hts (.fieldLink RX1 22 "NumberGoblets" "round" "I") (by decide +kernel)) (fun _ h9 => h9) rfl dX1_nextRound_50 ?_
    refine lv_iconst (v := 1) hx hb dX1_nextRound_53 (by decide) ?_
    refine lv_iadd hx hb dX1_nextRound_54 ?_
    refine va_put (D := D) (ci := 1) (v := .int (rv + 1)) (ty := .int) (C := RX1) (T := TX1) (N := 3) hx hb hts i1_nextRound tyX1 tyX1_ok nmX1 hown hK hP hD hS i (g_inX hX) rfl 2 (by decide) (hts (.fieldLink RX1 22 "NumberGoblets" "round" "I") (by decide +kernel)) (fun _ h9 => h9) rfl (by decide +kernel) rfl rfl (Nat.le_of_ble_eq_true rfl) dX1_nextRound_55 (fun H locs hP2 hD2 hS => ?_)
    have hw : (X ++ va_pl u6.1 (gE u6.2)).set i (gO h0 lo sv (rv + 1)) = X.set i (gO h0 lo sv (rv + 1)) ++ va_pl u6.1 (gE u6.2) := g_setX hX
    have hP := g_eqP hw hP2
    have hD := g_eqD hw hD2
    have hX2 : (X.set i (gO h0 lo sv (rv + 1)))[i]? = some (gO h0 lo sv (rv + 1)) := g_setX2 hX
    refine lv_aload_n hx hb dX1_nextRound_58 rfl (lv_at hl 0 rfl) ?_
    refine va_get (D := D) (ci := 1) (v := .int (rv + 1)) (C := RX1) (T := TX1) (N := 3) hx hb hts i1_nextRound hown hK hP i (g_inX hX2) rfl 2 (by decide) (hts (.fieldLink RX1 22 "NumberGoblets" "round" "I") (by decide +kernel)) (fun _ h9 => h9) rfl dX1_nextRound_59 ?_
    exact vx_ret (g_reti hx hb hr hlocks hK (rv + 1) u6 hP hD hS (Nat.le_of_ble_eq_true rfl) (Nat.le_of_ble_eq_true rfl) (⟨heq, rfl, hr6.2⟩) dX1_nextRound_62)
  · skip
    exact g_throw (cls := xISE) (text := "the jug or some goblet is not empty") (pc := 20) hx hb hl9 hts hown hlocks hK hGG (hl.1.trans hml.symm) hout (by decide +kernel) xk_nextRound xi_nextRound (by decide +kernel) xin_nextRound xbad_ISE xgood_ISE dX1_nextRound_20 dX1_nextRound_23 dX1_nextRound_24 dX1_nextRound_26 dX1_nextRound_29 ⟨Nat.le_of_ble_eq_true rfl, Nat.le_of_ble_eq_true rfl, Nat.le_of_ble_eq_true rfl, Nat.le_of_ble_eq_true rfl⟩ (Nat.le_of_ble_eq_true rfl) (Nat.le_of_ble_eq_true rfl) (L, S) (⟨⟨rfl, fun z => c1 (by rw [z, hsv])⟩, hC⟩) hP hD hS
set_option maxHeartbeats 4000000 in
set_option maxRecDepth 100000 in
/-- enlarge(size) -/
theorem c_enlarge (l : Launch) (hl9 : l.stackTraces = false) (D : va_G) (tys : List (ClassId × FieldType)) (X : va_W) (L : List Nat) (S : gS) (sz : Nat) {P : Nat → Int32} {i h0 lo : Nat} {sv rv : Int32} (hX : X[i]? = some (gO h0 lo sv rv)) (hC : gCh P lo (L, S)) (v0 : Int32) {n : Nat} (hsv : sv = nI n) (hn : n ≤ 5000) : vx_Met l yX1_enlarge wsX1_enlarge ({ frames := 6, cells := 3, slots := 14, locals := 90 } : Room) (gP D tys [.ref h0, .int v0] (X ++ va_pl L (gE S)) sz (gG (va_A (X ++ va_pl L (gE S)) sz))) (va_Qi (fun (r : Int32) (u : List Nat × gS) => (∃ vn : Nat, n < vn ∧ vn ≤ 5000 ∧ v0 = nI vn ∧ r = nI (gct (gmv P (-1) 8 0 (vn - n)) 8 5000) ∧ gCh (gmv P (-1) 8 0 (vn - n)) lo u)) (fun u t => gWd D tys (va_A (X ++ va_pl L (gE S)) sz) ((X.set i (gO h0 lo v0 rv)) ++ va_pl u.1 (gE u.2)) t) (va_A (X ++ va_pl L (gE S)) sz)) (gX (fun E (u : List Nat × gS) => (E = xIAE ∧ ¬ ∃ vn : Nat, n < vn ∧ vn ≤ 5000 ∧ v0 = nI vn) ∧ gCh P lo u) (fun u => X ++ va_pl u.1 (gE u.2)) D tys (va_A (X ++ va_pl L (gE S)) sz)) 3 14 (va_A (X ++ va_pl L (gE S)) sz) := by
  refine g_ofX (cc := cX1_enlarge) (maxL := 2) (ret := some .int) (by decide) rfl (Nat.le_of_ble_eq_true rfl) ?_
  intro p e s m below meth c hx hb hr hml hts hown hlocks hout hsz hP hK hD hA hS hGG ls hl
  subst hsz
  have hown : s.vm.findClass RX1 = some m.cls := hown
  have hl : lv_has ls 2 [(0, .ref h0), (1, .int v0)] := hl
  have hG : gN s := hGG.1
  obtain ⟨g, hch, hwf, hmx⟩ := id hC
  refine lv_iload_n hx hb dX1_enlarge_0 rfl (lv_at hl 1 rfl) ?_
  refine lv_aload_n hx hb dX1_enlarge_1 rfl (lv_at hl 0 rfl) ?_
  refine va_get (D := D) (ci := 1) (v := .int sv) (C := RX1) (T := TX1) (N := 3) hx hb hts i1_enlarge hown hK hP i (g_inX hX) rfl 1 (by decide) (hts (.fieldLink RX1 18 "NumberGoblets" "size" "I") (by decide +kernel)) (fun _ h9 => h9) rfl dX1_enlarge_2 ?_
  refine lv_icmp_le (tgt := 15) hx hb dX1_enlarge_5 (by decide) (fun c1 => ?_) (fun c1 => ?_)
  · have hno : ¬ ∃ vn : Nat, n < vn ∧ vn ≤ 5000 ∧ v0 = nI vn := fun ⟨vn, h1, h2, h3⟩ => by rw [h3, hsv] at c1; exact nI_ge h1 (by omega) c1
    exact g_throw (cls := xIAE) (text := "the size is not above the old one and up to 5000") (pc := 15) hx hb hl9 hts hown hlocks hK hGG (hl.1.trans hml.symm) hout (by decide +kernel) xk_enlarge xi_enlarge (by decide +kernel) xin_enlarge xbad_IAE xgood_IAE dX1_enlarge_15 dX1_enlarge_18 dX1_enlarge_19 dX1_enlarge_21 dX1_enlarge_24 ⟨Nat.le_of_ble_eq_true rfl, Nat.le_of_ble_eq_true rfl, Nat.le_of_ble_eq_true rfl, Nat.le_of_ble_eq_true rfl⟩ (Nat.le_of_ble_eq_true rfl) (Nat.le_of_ble_eq_true rfl) (L, S) (⟨⟨rfl, hno⟩, hC⟩) hP hD hS
  · skip
    refine lv_iload_n hx hb dX1_enlarge_8 rfl (lv_at hl 1 rfl) ?_
    refine lv_sipush (v := 5000) hx hb dX1_enlarge_9 (by decide) ?_
    refine lv_icmp_le (tgt := 25) hx hb dX1_enlarge_12 (by decide) (fun c2 => ?_) (fun c2 => ?_)
    · have h0v : ¬ v0 < 0 := fun q => c1 (by rw [hsv, Int32.le_iff_toInt_le, nI_toInt (by omega)]; rw [Int32.lt_iff_toInt_lt] at q; have z0 : (0 : Int32).toInt = 0 := rfl; omega)
      obtain ⟨vn, hvn, rfl⟩ := nI_of h0v
      have hv2 : vn ≤ 5000 := (nI_leI hvn (by omega)).mp c2
      have hv1 : n < vn := by rcases Nat.lt_or_ge n vn with q | q; exact q; exact absurd (by rw [hsv]; exact nI_le q (by omega)) c1
      refine lv_aload_n hx hb dX1_enlarge_25 rfl (lv_at hl 0 rfl) ?_
      refine lv_iconst (v := -1) hx hb dX1_enlarge_26 (by decide) ?_
      refine lv_bipush (v := 8) hx hb dX1_enlarge_27 (by decide) ?_
      refine lv_iconst (v := 0) hx hb dX1_enlarge_29 (by decide) ?_
      refine lv_iload_n hx hb dX1_enlarge_30 rfl (lv_at hl 1 rfl) ?_
      refine lv_aload_n hx hb dX1_enlarge_31 rfl (lv_at hl 0 rfl) ?_
      refine va_get (D := D) (ci := 1) (v := .int sv) (C := RX1) (T := TX1) (N := 3) hx hb hts i1_enlarge hown hK hP i (g_inX hX) rfl 1 (by decide) (hts (.fieldLink RX1 18 "NumberGoblets" "size" "I") (by decide +kernel)) (fun _ h9 => h9) rfl dX1_enlarge_32 ?_
      refine lv_isub hx hb dX1_enlarge_35 ?_
      refine g_top (y := nI (vn - n)) (by rw [hsv]; exact pk_sub (by omega)) ?_
      refine g_calli (va_runV (As := [.int (-1), .int 8, .int 0, .int (nI (vn - n))]) (rest := []) ⟨hx, hb, hml, hown, hts⟩ (c_move l D tys X L S s.heap.size hX hwf hmx hch (-1) 8 (stay := 0) (cnt := vn - n) (by omega) (by omega) (by omega)) (cwV 4 hts gX1_enlarge_X1_move rfl rfl rfl (by decide +kernel) ⟨Nat.le_of_ble_eq_true rfl, Nat.le_of_ble_eq_true rfl⟩) (gP_V (va_recv hK hP (ci := 1) rfl (g_inX hX)) hP hK hD gBl_N (fun U _ hW => hG.warm hW)) rfl rfl hl.1 rfl (lv_room (Nat.le_of_ble_eq_true rfl)) dX1_enlarge_36 ⟨Nat.le_of_ble_eq_true rfl, Nat.le_of_ble_eq_true rfl⟩) hD hS hA (fun r9 u9 H locs hr9 hP hD hS => ?_)
      obtain ⟨L1, S1⟩ := u9
      have hcu := hr9.2
      have hC1 : gCh (gmv P (-1) 8 0 (vn - n)) lo (L1, S1) := hcu
      obtain ⟨g1, hch1, hwf1, hmx1⟩ := hcu
      refine lv_pop hx hb dX1_enlarge_39 rfl ?_
      refine lv_aload_n hx hb dX1_enlarge_40 rfl (lv_at hl 0 rfl) ?_
      refine lv_iload_n hx hb dX1_enlarge_41 rfl (lv_at hl 1 rfl) ?_
      refine va_put (D := D) (ci := 1) (v := .int (nI vn)) (ty := .int) (C := RX1) (T := TX1) (N := 3) hx hb hts i1_enlarge tyX1 tyX1_ok nmX1 hown hK hP hD hS i (g_inX hX) rfl 1 (by decide) (hts (.fieldLink RX1 18 "NumberGoblets" "size" "I") (by decide +kernel)) (fun _ h9 => h9) rfl (by decide +kernel) rfl rfl (Nat.le_of_ble_eq_true rfl) dX1_enlarge_42 (fun H locs hP2 hD2 hS => ?_)
      have hw : (X ++ va_pl L1 (gE S1)).set i (gO h0 lo (nI vn) rv) = X.set i (gO h0 lo (nI vn) rv) ++ va_pl L1 (gE S1) := g_setX hX
      have hP := g_eqP hw hP2
      have hD := g_eqD hw hD2
      have hX : (X.set i (gO h0 lo (nI vn) rv))[i]? = some (gO h0 lo (nI vn) rv) := g_setX2 hX
      refine lv_aload_n hx hb dX1_enlarge_45 rfl (lv_at hl 0 rfl) ?_
      refine lv_bipush (v := 8) hx hb dX1_enlarge_46 (by decide) ?_
      refine g_calli (va_runV (As := [.int 8]) (rest := []) ⟨hx, hb, hml, hown, hts⟩ (c_numbers l D tys (X.set i (gO h0 lo (nI vn) rv)) L1 S1 H.size hX hwf1 hmx1 hch1 8) (cwV 1 hts gX1_enlarge_X1_numbersAt rfl rfl rfl (by decide +kernel) ⟨Nat.le_of_ble_eq_true rfl, Nat.le_of_ble_eq_true rfl⟩) (gP_V (va_recv hK hP (ci := 1) rfl (g_inX hX)) hP hK hD gBl_N (fun U _ hW => hG.warm hW)) rfl rfl hl.1 rfl (lv_room (Nat.le_of_ble_eq_true rfl)) dX1_enlarge_48 ⟨Nat.le_of_ble_eq_true rfl, Nat.le_of_ble_eq_true rfl⟩) hD hS hA (fun r8 u9 H locs hr8 hP hD hS => ?_)
      exact vx_ret (g_reti hx hb hr hlocks hK (r8) (L1, S1) hP hD hS (Nat.le_of_ble_eq_true rfl) (Nat.le_of_ble_eq_true rfl) (⟨vn, hv1, hv2, rfl, hr8, hC1⟩) dX1_enlarge_51)
    · have hno : ¬ ∃ vn : Nat, n < vn ∧ vn ≤ 5000 ∧ v0 = nI vn := fun ⟨vn, h1, h2, h3⟩ => c2 (by rw [h3]; exact (show nI vn ≤ nI 5000 from nI_le h2 (by omega)))
      exact g_throw (cls := xIAE) (text := "the size is not above the old one and up to 5000") (pc := 15) hx hb hl9 hts hown hlocks hK hGG (hl.1.trans hml.symm) hout (by decide +kernel) xk_enlarge xi_enlarge (by decide +kernel) xin_enlarge xbad_IAE xgood_IAE dX1_enlarge_15 dX1_enlarge_18 dX1_enlarge_19 dX1_enlarge_21 dX1_enlarge_24 ⟨Nat.le_of_ble_eq_true rfl, Nat.le_of_ble_eq_true rfl, Nat.le_of_ble_eq_true rfl, Nat.le_of_ble_eq_true rfl⟩ (Nat.le_of_ble_eq_true rfl) (Nat.le_of_ble_eq_true rfl) (L, S) (⟨⟨rfl, hno⟩, hC⟩) hP hD hS
set_option maxHeartbeats 4000000 in
set_option maxRecDepth 100000 in
/-- rangeFrom(range) -/
theorem c_rangeFrom (l : Launch) (hl9 : l.stackTraces = false) (D : va_G) (tys : List (ClassId × FieldType)) (X : va_W) (L : List Nat) (S : gS) (sz : Nat) {P : Nat → Int32} {i h0 lo : Nat} {sv rv : Int32} (hX : X[i]? = some (gO h0 lo sv rv)) (hC : gCh P lo (L, S)) (v0 : Int32) (h00 : P 0 = -1) (h51 : P 5001 = -1) : vx_Met l yX1_rangeFrom wsX1_rangeFrom ({ frames := 6, cells := 1, slots := 6, locals := 82 } : Room) (gP D tys [.ref h0, .int v0] (X ++ va_pl L (gE S)) sz (gG (va_A (X ++ va_pl L (gE S)) sz))) (va_Qi (fun (r : Int32) (u : List Nat × gS) => (∃ v : Nat, 1 ≤ v ∧ v ≤ 5000 ∧ r = nI v ∧ P v = 8 ∧ ¬ P (v - 1) = 8 ∧ v0 = nI (gbg P 8 (v - 1))) ∧ gCh P lo u) (fun u t => gWd D tys (va_A (X ++ va_pl L (gE S)) sz) (X ++ va_pl u.1 (gE u.2)) t) (va_A (X ++ va_pl L (gE S)) sz)) (gX (fun E (u : List Nat × gS) => (E = xIOB ∧ ∀ j, 1 ≤ j → j ≤ 5000 → P j = 8 → ¬ P (j - 1) = 8 → ¬ v0 = nI (gbg P 8 (j - 1))) ∧ gCh P lo u) (fun u => X ++ va_pl u.1 (gE u.2)) D tys (va_A (X ++ va_pl L (gE S)) sz)) 1 6 (va_A (X ++ va_pl L (gE S)) sz) := by
  refine g_ofX (cc := cX1_rangeFrom) (maxL := 3) (ret := some .int) (by decide) rfl (Nat.le_of_ble_eq_true rfl) ?_
  intro p e s m below meth c hx hb hr hml hts hown hlocks hout hsz hP hK hD hA hS hGG ls hl
  subst hsz
  have hown : s.vm.findClass RX1 = some m.cls := hown
  have hl : lv_has ls 3 [(0, .ref h0), (1, .int v0)] := hl
  have hG : gN s := hGG.1
  obtain ⟨g, hch, hwf, hmx⟩ := id hC
  have hi0 := i0_rangeFrom
  obtain ⟨⟨nf_first, nf_last, nf_place, nf_next⟩, -⟩ := id hG
  have f_first := va_Nw.use (A := ([.ref h0, .int v0] : List Value).toArray) rfl nf_first
  refine lv_aload_n hx hb dX1_rangeFrom_0 rfl (lv_at hl 0 rfl) ?_
  refine lv_iload_n hx hb dX1_rangeFrom_1 rfl (lv_at hl 1 rfl) ?_
  refine g_callq (va_runV (As := [.int v0]) (rest := []) ⟨hx, hb, hml, hown, hts⟩ (c_jug l D tys X L S s.heap.size hX hwf hmx hch v0 h00 h51) (cwV 1 hts gX1_rangeFrom_X1_rangeOfJug rfl rfl rfl (by decide +kernel) ⟨Nat.le_of_ble_eq_true rfl, Nat.le_of_ble_eq_true rfl⟩) (gP_V (va_recv hK hP (ci := 1) rfl (g_inX hX)) hP hK hD gBl_N (fun U _ hW => hG.warm hW)) rfl rfl hl.1 rfl (lv_room (Nat.le_of_ble_eq_true rfl)) dX1_rangeFrom_2 ⟨Nat.le_of_ble_eq_true rfl, Nat.le_of_ble_eq_true rfl⟩) hD hS hA (fun r9 u9 H locs hr9 hP hD hS => ?_)
  refine lq_astore_n (lv' := [(2, va_rf r9), (0, .ref h0), (1, .int v0)]) hx hb dX1_rangeFrom_5 rfl hl (by decide) rfl (fun ls hl => ?_)
  refine lq_aload_n hx hb dX1_rangeFrom_6 rfl (lv_at hl 0 rfl) ?_
  refine lq_ifnonnull (tgt := 20) hx hb dX1_rangeFrom_7 (by decide) (fun y9 c1 => ?_) (fun c1 => ?_)
  · subst c1
    rcases hr9 with ⟨z, -⟩ | ⟨a1, f, la, nx, z, e2, e3, y1, y2, y3, y4, y5, y6, y7, y8⟩
    · cases z
    obtain rfl : y9 = a1 := Option.some.inj z
    obtain ⟨k1, hk10, hk1x⟩ := gE_get (X := X) e2 e3
    refine lv_aload_n hx hb dX1_rangeFrom_20 rfl (lv_at hl 0 rfl) ?_
    refine va_getN (D := D) (ci := 0) (v := .int (nI f)) (C := RX0) (T := TX0) (N := 4) hx hb hts hi0 hown hK hP k1 hk1x rfl 0 (by decide) f_first (fun _ h9 => h9) rfl dX1_rangeFrom_21 ?_
    exact vx_ret (g_reti hx hb hr hlocks hK (nI f) (L, S) hP hD hS (Nat.le_of_ble_eq_true rfl) (Nat.le_of_ble_eq_true rfl) (⟨⟨f, y1, by omega, rfl, y4 f (Nat.le_refl _) y2, y5, y7⟩, hC⟩) dX1_rangeFrom_24)
  · subst c1
    have hno : ∀ j, 1 ≤ j → j ≤ 5000 → P j = 8 → ¬ P (j - 1) = 8 → ¬ v0 = nI (gbg P 8 (j - 1)) := by rcases hr9 with ⟨-, z⟩ | ⟨a1, f, la, nx, z, -⟩; exact z; cases z
    exact g_throw (cls := xIOB) (text := "the jug has no such range") (pc := 10) hx hb hl9 hts hown hlocks hK hGG (hl.1.trans hml.symm) hout (by decide +kernel) xk_rangeFrom xi_rangeFrom (by decide +kernel) xin_rangeFrom xbad_IOB xgood_IOB dX1_rangeFrom_10 dX1_rangeFrom_13 dX1_rangeFrom_14 dX1_rangeFrom_16 dX1_rangeFrom_19 ⟨Nat.le_of_ble_eq_true rfl, Nat.le_of_ble_eq_true rfl, Nat.le_of_ble_eq_true rfl, Nat.le_of_ble_eq_true rfl⟩ (Nat.le_of_ble_eq_true rfl) (Nat.le_of_ble_eq_true rfl) (L, S) (⟨⟨rfl, hno⟩, hC⟩) hP hD hS
set_option maxHeartbeats 4000000 in
set_option maxRecDepth 100000 in
/-- rangeTo(range) -/
theorem c_rangeTo (l : Launch) (hl9 : l.stackTraces = false) (D : va_G) (tys : List (ClassId × FieldType)) (X : va_W) (L : List Nat) (S : gS) (sz : Nat) {P : Nat → Int32} {i h0 lo : Nat} {sv rv : Int32} (hX : X[i]? = some (gO h0 lo sv rv)) (hC : gCh P lo (L, S)) (v0 : Int32) (h00 : P 0 = -1) (h51 : P 5001 = -1) : vx_Met l yX1_rangeTo wsX1_rangeTo ({ frames := 6, cells := 1, slots := 6, locals := 82 } : Room) (gP D tys [.ref h0, .int v0] (X ++ va_pl L (gE S)) sz (gG (va_A (X ++ va_pl L (gE S)) sz))) (va_Qi (fun (r : Int32) (u : List Nat × gS) => (∃ v : Nat, 1 ≤ v ∧ v ≤ 5000 ∧ r = nI v ∧ P v = 8 ∧ ¬ P (v + 1) = 8 ∧ v0 = nI (gen P 8 (v - 1))) ∧ gCh P lo u) (fun u t => gWd D tys (va_A (X ++ va_pl L (gE S)) sz) (X ++ va_pl u.1 (gE u.2)) t) (va_A (X ++ va_pl L (gE S)) sz)) (gX (fun E (u : List Nat × gS) => (E = xIOB ∧ ∀ j, 1 ≤ j → j ≤ 5000 → P j = 8 → ¬ P (j - 1) = 8 → ¬ v0 = nI (gbg P 8 (j - 1))) ∧ gCh P lo u) (fun u => X ++ va_pl u.1 (gE u.2)) D tys (va_A (X ++ va_pl L (gE S)) sz)) 1 6 (va_A (X ++ va_pl L (gE S)) sz) := by
  refine g_ofX (cc := cX1_rangeTo) (maxL := 3) (ret := some .int) (by decide) rfl (Nat.le_of_ble_eq_true rfl) ?_
  intro p e s m below meth c hx hb hr hml hts hown hlocks hout hsz hP hK hD hA hS hGG ls hl
  subst hsz
  have hown : s.vm.findClass RX1 = some m.cls := hown
  have hl : lv_has ls 3 [(0, .ref h0), (1, .int v0)] := hl
  have hG : gN s := hGG.1
  obtain ⟨g, hch, hwf, hmx⟩ := id hC
  have hi0 := i0_rangeTo
  obtain ⟨⟨nf_first, nf_last, nf_place, nf_next⟩, -⟩ := id hG
  have f_last := va_Nw.use (A := ([.ref h0, .int v0] : List Value).toArray) rfl nf_last
  refine lv_aload_n hx hb dX1_rangeTo_0 rfl (lv_at hl 0 rfl) ?_
  refine lv_iload_n hx hb dX1_rangeTo_1 rfl (lv_at hl 1 rfl) ?_
  refine g_callq (va_runV (As := [.int v0]) (rest := []) ⟨hx, hb, hml, hown, hts⟩ (c_jug l D tys X L S s.heap.size hX hwf hmx hch v0 h00 h51) (cwV 1 hts gX1_rangeTo_X1_rangeOfJug rfl rfl rfl (by decide +kernel) ⟨Nat.le_of_ble_eq_true rfl, Nat.le_of_ble_eq_true rfl⟩) (gP_V (va_recv hK hP (ci := 1) rfl (g_inX hX)) hP hK hD gBl_N (fun U _ hW => hG.warm hW)) rfl rfl hl.1 rfl (lv_room (Nat.le_of_ble_eq_true rfl)) dX1_rangeTo_2 ⟨Nat.le_of_ble_eq_true rfl, Nat.le_of_ble_eq_true rfl⟩) hD hS hA (fun r9 u9 H locs hr9 hP hD hS => ?_)
  refine lq_astore_n (lv' := [(2, va_rf r9), (0, .ref h0), (1, .int v0)]) hx hb dX1_rangeTo_5 rfl hl (by decide) rfl (fun ls hl => ?_)
  refine lq_aload_n hx hb dX1_rangeTo_6 rfl (lv_at hl 0 rfl) ?_
  refine lq_ifnonnull (tgt := 20) hx hb dX1_rangeTo_7 (by decide) (fun y9 c1 => ?_) (fun c1 => ?_)
  · subst c1
    rcases hr9 with ⟨z, -⟩ | ⟨a1, f, la, nx, z, e2, e3, y1, y2, y3, y4, y5, y6, y7, y8⟩
    · cases z
    obtain rfl : y9 = a1 := Option.some.inj z
    obtain ⟨k1, hk10, hk1x⟩ := gE_get (X := X) e2 e3
    refine lv_aload_n hx hb dX1_rangeTo_20 rfl (lv_at hl 0 rfl) ?_
    refine va_getN (D := D) (ci := 0) (v := .int (nI la)) (C := RX0) (T := TX0) (N := 4) hx hb hts hi0 hown hK hP k1 hk1x rfl 1 (by decide) f_last (fun _ h9 => h9) rfl dX1_rangeTo_21 ?_
    exact vx_ret (g_reti hx hb hr hlocks hK (nI la) (L, S) hP hD hS (Nat.le_of_ble_eq_true rfl) (Nat.le_of_ble_eq_true rfl) (⟨⟨la, by omega, y3, rfl, y4 la y2 (Nat.le_refl _), y6, y8⟩, hC⟩) dX1_rangeTo_24)
  · subst c1
    have hno : ∀ j, 1 ≤ j → j ≤ 5000 → P j = 8 → ¬ P (j - 1) = 8 → ¬ v0 = nI (gbg P 8 (j - 1)) := by rcases hr9 with ⟨-, z⟩ | ⟨a1, f, la, nx, z, -⟩; exact z; cases z
    exact g_throw (cls := xIOB) (text := "the jug has no such range") (pc := 10) hx hb hl9 hts hown hlocks hK hGG (hl.1.trans hml.symm) hout (by decide +kernel) xk_rangeTo xi_rangeTo (by decide +kernel) xin_rangeTo xbad_IOB xgood_IOB dX1_rangeTo_10 dX1_rangeTo_13 dX1_rangeTo_14 dX1_rangeTo_16 dX1_rangeTo_19 ⟨Nat.le_of_ble_eq_true rfl, Nat.le_of_ble_eq_true rfl, Nat.le_of_ble_eq_true rfl, Nat.le_of_ble_eq_true rfl⟩ (Nat.le_of_ble_eq_true rfl) (Nat.le_of_ble_eq_true rfl) (L, S) (⟨⟨rfl, hno⟩, hC⟩) hP hD hS
end
section
/-! an evening: what the places tell (from the proof of whole) -/
/-- an evening with n numbers: nothing is outside 1 to n, all else is somewhere -/
def gEv (P : Nat → Int32) (n : Nat) : Prop := 100 ≤ n ∧ n ≤ 5000 ∧ (∀ j, j = 0 ∨ n < j → P j = -1) ∧ ∀ j, 1 ≤ j → j ≤ n → ¬ P j = -1
theorem gmv_grow {P : Nat → Int32} {n vn : Nat} (h : gEv P n) (h1 : n < vn) : gmv P (-1) 8 0 (vn - n) = fun j => if n < j ∧ j ≤ vn then 8 else P j := by
  obtain ⟨-, -, ho, hin⟩ := h
  have hc0 : gct P (-1) n = 0 := gct_past (P := P) (p := -1) (k := 1) (m := n) (by omega) (fun j a b => hin j a b)
  have hc : ∀ d : Nat, gct P (-1) (n + d) = d := by
    intro d
    have := gct_run (P := P) (p := -1) (m := n) d (fun j a b => ho j (Or.inr a))
    omega
  funext j
  by_cases hj : n < j
  · have h2 := hc (j - n)
    rw [show n + (j - n) = j by omega] at h2
    by_cases hv : j ≤ vn
    · rw [if_pos ⟨hj, hv⟩]
      exact gmv_in (ho j (Or.inr hj)) (by omega) (by omega)
    · rw [if_neg (fun z => hv z.2)]
      exact gmv_out (Or.inr (Or.inr (by omega)))
  · rw [if_neg (fun z => hj z.1)]
    apply gmv_out
    rcases Nat.eq_zero_or_pos j with z | z
    · subst z; exact Or.inr (Or.inl (Nat.zero_le _))
    · exact Or.inl (hin j z (by omega))
theorem b_ct {P : Nat → Int32} {n : Nat} {p : Int32} (h : gEv P n) (hp : ¬ p = -1) : gct P p 5000 = gct P p n := by
  have := gct_past (P := P) (p := p) (k := n + 1) (m := 5000) (by have := h.2.1; omega) (fun j a b => by rw [h.2.2.1 j (Or.inr (by omega))]; exact fun z => hp z.symm)
  rwa [Nat.add_sub_cancel] at this
theorem b_bg {P : Nat → Int32} {n : Nat} {p : Int32} (h : gEv P n) (hp : ¬ p = -1) : gbg P p 5000 = gbg P p n := by
  have := gbg_past (P := P) (p := p) (k := n + 1) (m := 5000) (by omega) (by have := h.2.1; omega) (fun j a b => by rw [h.2.2.1 j (Or.inr (by omega))]; exact fun z => hp z.symm)
  rwa [Nat.add_sub_cancel] at this
theorem b_lg {P : Nat → Int32} {n : Nat} (h : gEv P n) : (glg P 5000).1 = (glg P n).1 := by
  have := (glg_no (P := P) (k := n + 1) (m := 5000) (by omega) (by have := h.2.1; omega) (fun j a b => by rw [h.2.2.1 j (Or.inr (by omega))]; decide)).1
  rwa [Nat.add_sub_cancel] at this
theorem glow_n {q : Nat → Prop} {n v : Nat} (hn : n ≤ 5000) (h : ∀ j, n < j → j ≤ 5000 → ¬ q j) : glow q 5000 v ↔ glow q n v := by
  constructor
  · rintro (⟨h1, h2⟩ | ⟨h1, h2, h3, h4⟩)
    · exact Or.inl ⟨h1, fun j a b => h2 j a (by omega)⟩
    · refine Or.inr ⟨h1, ?_, h3, h4⟩
      rcases Nat.lt_or_ge n v with z | z
      · exact absurd h3 (h v z h2)
      · exact z
  · rintro (⟨h1, h2⟩ | ⟨h1, h2, h3, h4⟩)
    · refine Or.inl ⟨h1, fun j a b => ?_⟩
      rcases Nat.lt_or_ge n j with z | z
      · exact h j z b
      · exact h2 j a z
    · exact Or.inr ⟨h1, by omega, h3, h4⟩
theorem b_low {P : Nat → Int32} {n v : Nat} {p : Int32} (h : gEv P n) (hp : ¬ p = -1) : glow (fun j => P j = p) 5000 v ↔ glow (fun j => P j = p) n v :=
  glow_n h.2.1 (fun j a _ => by rw [h.2.2.1 j (Or.inr a)]; exact fun z => hp z.symm)
theorem b_left {P : Nat → Int32} {n v w : Nat} (h : gEv P n) (h1 : glow (fun j => ¬ P j = 9 ∧ ¬ P j = -1) 5000 v) (h2 : glow (fun j => ¬ P j = 9) n w) : v = w := by
  have h3 := (glow_n (v := v) h.2.1 (fun j a _ z => z.2 (h.2.2.1 j (Or.inr a)))).mp h1
  refine glow_one h3 ?_
  rcases h2 with ⟨a1, a2⟩ | ⟨a1, a2, a3, a4⟩
  · exact Or.inl ⟨a1, fun j x y z => a2 j x y z.1⟩
  · exact Or.inr ⟨a1, a2, ⟨a3, h.2.2.2 w a1 a2⟩, fun j x y z => a4 j x y z.1⟩
theorem gGob_ne {v : Int32} (h : gGob v) : ¬ v = -1 := by
  obtain ⟨j, hj, rfl⟩ := h
  exact fun z => g_neg j hj z.symm
theorem gEv_mv {P : Nat → Int32} {n a b : Nat} {fr to : Int32} (hf : ¬ fr = -1) (ht : ¬ to = -1) (h : gEv P n) : gEv (gmv P fr to a b) n := by
  refine ⟨h.1, h.2.1, fun j hj => ?_, fun j h1 h2 => ?_⟩
  · rw [gmv_out (Or.inl (by rw [h.2.2.1 j hj]; exact fun z => hf z.symm))]
    exact h.2.2.1 j hj
  · unfold gmv
    split
    · exact ht
    · exact h.2.2.2 j h1 h2
theorem gEv_up {P : Nat → Int32} {n v : Nat} {to : Int32} (ht : ¬ to = -1) (h1 : 1 ≤ v) (h2 : v ≤ n) (h : gEv P n) : gEv (va_up P v to) n := by
  refine ⟨h.1, h.2.1, fun j hj => ?_, fun j h3 h4 => ?_⟩
  · rw [va_up_ne _ _ (by omega)]
    exact h.2.2.1 j hj
  · by_cases z : j = v
    · rw [z, va_up_self]; exact ht
    · rw [va_up_ne _ _ z]; exact h.2.2.2 j h3 h4
theorem gEv_grow {P : Nat → Int32} {n vn : Nat} (h : gEv P n) (h1 : n < vn) (h2 : vn ≤ 5000) : gEv (gmv P (-1) 8 0 (vn - n)) vn := by
  rw [gmv_grow h h1]
  refine ⟨by have := h.1; omega, h2, fun j hj => ?_, fun j h3 h4 => ?_⟩
  · show (if n < j ∧ j ≤ vn then (8 : Int32) else P j) = -1
    rw [if_neg (by omega)]
    exact h.2.2.1 j (by omega)
  · show ¬ (if n < j ∧ j ≤ vn then (8 : Int32) else P j) = -1
    by_cases z : n < j ∧ j ≤ vn
    · rw [if_pos z]; decide
    · rw [if_neg z]; exact h.2.2.2 j h3 (by omega)
theorem gEv_out {P : Nat → Int32} {n : Nat} (h : gEv P n) : gOut P := fun j hj => h.2.2.1 j (by have := h.2.1; omega)
/-- beginnings and ends pair off -/
theorem gbg_gen {P : Nat → Int32} (h0 : ¬ P 0 = 8) : ∀ m : Nat, gbg P 8 m = gen P 8 m + if P m = 8 ∧ P (m + 1) = 8 then 1 else 0
  | 0 => by rw [if_neg (fun z => h0 z.1)]; rfl
  | m + 1 => by
    have ih := gbg_gen h0 m
    by_cases a : P m = 8 <;> by_cases b : P (m + 1) = 8 <;> by_cases c : P (m + 2) = 8 <;> simp [gbg, gen, a, b, c] at ih ⊢ <;> omega
/-- where a run that ends at q begins -/
theorem g_run {P : Nat → Int32} (h0 : ¬ P 0 = 8) : ∀ q : Nat, P q = 8 → ∃ j, 1 ≤ j ∧ j ≤ q ∧ ¬ P (j - 1) = 8 ∧ ∀ i, j ≤ i → i ≤ q → P i = 8
  | 0, h => absurd h h0
  | q + 1, h => by
    by_cases z : P q = 8
    · obtain ⟨j, h1, h2, h3, h4⟩ := g_run h0 q z
      refine ⟨j, h1, by omega, h3, fun i a b => ?_⟩
      by_cases y : i = q + 1
      · rw [y]; exact h
      · exact h4 i a (by omega)
    · exact ⟨q + 1, by omega, Nat.le_refl _, z, fun i a b => by rw [show i = q + 1 by omega]; exact h⟩
theorem g_begin {P : Nat → Int32} (h0 : ¬ P 0 = 8) {q : Nat} (hq : P q = 8) : ∃ j, 1 ≤ j ∧ j ≤ q ∧ P j = 8 ∧ ¬ P (j - 1) = 8 ∧ gbg P 8 (j - 1) = gen P 8 (q - 1) := by
  obtain ⟨j, h1, h2, h3, h4⟩ := g_run h0 q hq
  refine ⟨j, h1, h2, h4 j (Nat.le_refl _) h2, h3, ?_⟩
  have h5 := gbg_gen h0 (j - 1)
  rw [if_neg (fun z => h3 z.1)] at h5
  have h6 := gen_same (P := P) (p := 8) (m := j - 1) (q - j) (fun i a b z => z.2 (h4 (i + 1) (by omega) (by omega)))
  rw [show j - 1 + (q - j) = q - 1 by omega] at h6
  omega
theorem gbg_inj {P : Nat → Int32} {v w : Nat} (hv : 1 ≤ v) (hw : 1 ≤ w) (h1 : P v = 8 ∧ ¬ P (v - 1) = 8) (h2 : P w = 8 ∧ ¬ P (w - 1) = 8) (h : gbg P 8 (v - 1) = gbg P 8 (w - 1)) : v = w := by
  have key : ∀ a b : Nat, 1 ≤ a → (P a = 8 ∧ ¬ P (a - 1) = 8) → a < b → gbg P 8 (a - 1) < gbg P 8 (b - 1) := by
    intro a b ha hp hab
    have e1 := gbg_yes (P := P) (p := 8) (n := a - 1) (by rw [show a - 1 + 1 = a by omega]; exact hp)
    rw [show a - 1 + 1 = a by omega] at e1
    have e2 := gbg_mono P 8 (m := a) (b - 1 - a)
    rw [show a + (b - 1 - a) = b - 1 by omega] at e2
    omega
  rcases Nat.lt_trichotomy v w with z | z | z
  · have := key v w hv h1 z; omega
  · exact z
  · have := key w v hw h2 z; omega
theorem gen_inj {P : Nat → Int32} {v w : Nat} (hv : 1 ≤ v) (hw : 1 ≤ w) (h1 : P v = 8 ∧ ¬ P (v + 1) = 8) (h2 : P w = 8 ∧ ¬ P (w + 1) = 8) (h : gen P 8 (v - 1) = gen P 8 (w - 1)) : v = w := by
  have key : ∀ a b : Nat, 1 ≤ a → (P a = 8 ∧ ¬ P (a + 1) = 8) → a < b → gen P 8 (a - 1) < gen P 8 (b - 1) := by
    intro a b ha hp hab
    have e1 := gen_yes (P := P) (p := 8) (n := a - 1) (by rw [show a - 1 + 1 = a by omega, show a - 1 + 2 = a + 1 by omega]; exact hp)
    rw [show a - 1 + 1 = a by omega] at e1
    have e2 := gen_mono P 8 (m := a) (b - 1 - a)
    rw [show a + (b - 1 - a) = b - 1 by omega] at e2
    omega
  rcases Nat.lt_trichotomy v w with z | z | z
  · have := key v w hv h1 z; omega
  · exact z
  · have := key w v hw h2 z; omega
theorem b_in {P : Nat → Int32} {n v : Nat} (h : gEv P n) (hv : P v = 8) : v ≤ n := by
  rcases Nat.lt_or_ge n v with z | z
  · rw [h.2.2.1 v (Or.inr z)] at hv; exact absurd hv (by decide)
  · exact z
end
section
/-! NumberGoblets() -/
def gP0 : Nat → Int32 := fun j => if 1 ≤ j ∧ j ≤ 100 then 8 else -1
theorem i0_Ginit : ∀ w ∈ u_ws RX0 TX0 4, w ∈ wsX1_init := by decide +kernel
theorem i1_Ginit : ∀ w ∈ u_ws RX1 TX1 3, w ∈ wsX1_init := by decide +kernel
theorem gEv0 : gEv gP0 100 := by
  refine ⟨Nat.le_refl _, by omega, fun j hj => ?_, fun j h1 h2 => ?_⟩
  · unfold gP0; rw [if_neg (by omega)]
  · unfold gP0; rw [if_pos ⟨h1, h2⟩]; decide
set_option maxHeartbeats 4000000 in
set_option maxRecDepth 100000 in
/-- NumberGoblets() -/
theorem c_Ginit (l : Launch) (D : va_G) (tys : List (ClassId × FieldType)) (X : va_W) (S : gS) (sz : Nat) {i h0 : Nat} (hX : X[i]? = some (h0, .inr (1, [.null, .int 0, .int 0]))) : Met l yX1_init wsX1_init ({ frames := 2, cells := 2, slots := 8, locals := 36 } : Room) (gP D tys [.ref h0] (X ++ va_pl [] (gE S)) sz gN) (va_Qv (fun u : Nat × List Nat × gS => gCh gP0 u.1 u.2) (fun u t => gWd D tys (va_A (X ++ va_pl [] (gE S)) sz) (X.set i (gO h0 u.1 (nI 100) 1) ++ va_pl u.2.1 (gE u.2.2)) t) (va_A (X ++ va_pl [] (gE S)) sz)) 2 8 (va_A (X ++ va_pl [] (gE S)) sz) := by
  refine g_ofW (cc := cX1_init) (maxL := 2) (ret := none) (by decide) rfl (Nat.le_of_ble_eq_true rfl) ?_
  intro p e s m below meth c hx hb hr hml hts hown hlocks hin hsz hP hK hD hA hS hG ls hl
  subst hsz
  have hown : s.vm.findClass RX1 = some m.cls := hown
  have hin : meth.name = "<init>" := hin
  have hl : lv_has ls 2 [(0, .ref h0)] := hl
  obtain ⟨-, nm_init, -⟩ := id hG
  refine lv_aload_n hx hb dX1_init_0 rfl (lv_at hl 0 rfl) ?_
  refine W.objInit hx hb hown (hts (.methodLink RX1 1 objectInit) (by decide +kernel)) (hts (.instanceMethod objectInit) (by decide +kernel)) (hts (.code objectInit ⟨#[0xb1]⟩ 1 none) (by decide +kernel)) rfl (by rw [hml]; exact hl.1) rfl dX1_init_1 (Nat.le_of_ble_eq_true rfl) (Nat.le_of_ble_eq_true rfl) ?_
  refine W.eq (g2 := F0 m 4 ls []) rfl ?_
  refine va_new (ci := 0) (fs := [.int 0, .int 0, .int 0, .null]) (C := RX0) (T := TX0) (N := 4) hx hb hts i0_Ginit tyX0 tyX0_ok hown (hts (.classLink RX1 7 RX0) (by decide +kernel)) (hts (.instantiable RX0 4) (by decide +kernel)) (hts (.initialized RX0) (by decide +kernel)) hK hP hD hS hA rfl (fun j hj => by rcases (show j = 0 ∨ j = 1 ∨ j = 2 ∨ j = 3 by omega) with rfl | rfl | rfl | rfl <;> rfl) (Nat.le_of_ble_eq_true rfl) (Nat.le_of_ble_eq_true rfl) dX1_init_4 (fun q1 H hP hD hS => ?_)
  have hq1 : q1 ∉ [] := g_fresh hD
  rw [gE_new hq1] at hP hD
  refine lv_dup hx hb dX1_init_7 rfl ?_
  refine lv_bipush (v := 101) hx hb dX1_init_8 (by decide) ?_
  refine lv_sipush (v := 5000) hx hb dX1_init_10 (by decide) ?_
  refine lv_iconst (v := -1) hx hb dX1_init_13 (by decide) ?_
  refine lv_null hx hb dX1_init_14 ?_
  refine g_callv (va_runIN (b := q1) (As := [.int 101, .int 5000, .int (-1), .null]) (rest := [.ref q1]) ⟨hx, hb, hml, hown, hts⟩ (c_Sinit l D tys X ([] ++ [q1]) (va_up S q1 (0, 0, 0, none)) H.size (List.mem_append_right _ (List.mem_singleton.mpr rfl)) (va_up_self _ _ _) 101 5000 (-1) none) ⟨va_cnB 4 hts gX1_init_X0_init_n11 rfl rfl rfl nm_init (hts (.initialized RX0) (by decide +kernel)) (by decide +kernel) ⟨Nat.le_of_ble_eq_true rfl, Nat.le_of_ble_eq_true rfl⟩, rfl, hts (.instanceMethod yX0_init) (by decide +kernel)⟩ (gP_S hP hK hD gBl_T (fun _ _ _ => trivial)) rfl rfl hl.1 rfl (lv_room (Nat.le_of_ble_eq_true rfl)) dX1_init_15 ⟨Nat.le_of_ble_eq_true rfl, Nat.le_of_ble_eq_true rfl⟩) hD hS hA (fun u H locs _ hP hD hS => ?_)
  rw [bx_uu] at hP hD
  refine lv_astore_n (lv' := [(1, .ref q1), (0, .ref h0)]) hx hb dX1_init_18 rfl hl (by decide) rfl (fun ls hl => ?_)
  refine lv_aload_n hx hb dX1_init_19 rfl (lv_at hl 1 rfl) ?_
  refine va_new (ci := 0) (fs := [.int 0, .int 0, .int 0, .null]) (C := RX0) (T := TX0) (N := 4) hx hb hts i0_Ginit tyX0 tyX0_ok hown (hts (.classLink RX1 7 RX0) (by decide +kernel)) (hts (.instantiable RX0 4) (by decide +kernel)) (hts (.initialized RX0) (by decide +kernel)) hK hP hD hS hA rfl (fun j hj => by rcases (show j = 0 ∨ j = 1 ∨ j = 2 ∨ j = 3 by omega) with rfl | rfl | rfl | rfl <;> rfl) (Nat.le_of_ble_eq_true rfl) (Nat.le_of_ble_eq_true rfl) dX1_init_20 (fun q2 H hP hD hS => ?_)
  have hq2 : q2 ∉ ([] ++ [q1]) := g_fresh hD
  rw [gE_new hq2] at hP hD
  refine lv_dup hx hb dX1_init_23 rfl ?_
  refine lv_iconst (v := 1) hx hb dX1_init_24 (by decide) ?_
  refine lv_bipush (v := 100) hx hb dX1_init_25 (by decide) ?_
  refine lv_bipush (v := 8) hx hb dX1_init_27 (by decide) ?_
  refine lv_aload_n hx hb dX1_init_29 rfl (lv_at hl 0 rfl) ?_
  refine g_callv (va_runIN (b := q2) (As := [.int 1, .int 100, .int 8, .ref q1]) (rest := [.ref q2, .ref h0]) ⟨hx, hb, hml, hown, hts⟩ (c_Sinit l D tys X (([] ++ [q1]) ++ [q2]) (va_up (va_up S q1 (101, 5000, -1, none)) q2 (0, 0, 0, none)) H.size (List.mem_append_right _ (List.mem_singleton.mpr rfl)) (va_up_self _ _ _) 1 100 8 (some q1)) ⟨va_cnB 4 hts gX1_init_X0_init_n11 rfl rfl rfl nm_init (hts (.initialized RX0) (by decide +kernel)) (by decide +kernel) ⟨Nat.le_of_ble_eq_true rfl, Nat.le_of_ble_eq_true rfl⟩, rfl, hts (.instanceMethod yX0_init) (by decide +kernel)⟩ (gP_S hP hK hD gBl_T (fun _ _ _ => trivial)) rfl rfl hl.1 rfl (lv_room (Nat.le_of_ble_eq_true rfl)) dX1_init_30 ⟨Nat.le_of_ble_eq_true rfl, Nat.le_of_ble_eq_true rfl⟩) hD hS hA (fun u H locs _ hP hD hS => ?_)
  rw [bx_uu] at hP hD
  obtain ⟨L2, hL2⟩ : ∃ z, z = (([] ++ [q1]) ++ [q2]) := ⟨_, rfl⟩
  obtain ⟨S2, hS2⟩ : ∃ z, z = (va_up (va_up S q1 (101, 5000, -1, none)) q2 (1, 100, 8, some q1)) := ⟨_, rfl⟩
  rw [← hL2, ← hS2] at hP hD
  refine va_putF (D := D) (ci := 1) (v := .ref q2) (ty := .object "NumberGoblets$Stretch") (C := RX1) (T := TX1) (N := 3) hx hb hts i1_Ginit tyX1 tyX1_ok nmX1 hown hK hP hD hS i (g_inX hX) rfl 0 (by decide) (hts (.fieldLink RX1 14 "NumberGoblets" "lowest" "LNumberGoblets$Stretch;") (by decide +kernel)) (fun _ h9 => h9) rfl hin rfl (by decide +kernel) rfl rfl (Nat.le_of_ble_eq_true rfl) dX1_init_33 (fun H locs hP2 hD2 hS => ?_)
  have hw := g_setX (Y := va_pl L2 (gE S2)) (v := ((h0, .inr (1, [.ref q2, .int 0, .int 0])) : Nat × va_E)) hX
  have hP := g_eqP hw hP2
  have hD := g_eqD hw hD2
  have hX := g_setX2 (v := ((h0, .inr (1, [.ref q2, .int 0, .int 0])) : Nat × va_E)) hX
  refine lv_aload_n hx hb dX1_init_36 rfl (lv_at hl 1 rfl) ?_
  refine lv_bipush (v := 100) hx hb dX1_init_37 (by decide) ?_
  refine va_put (D := D) (ci := 1) (v := .int 100) (ty := .int) (C := RX1) (T := TX1) (N := 3) hx hb hts i1_Ginit tyX1 tyX1_ok nmX1 hown hK hP hD hS i (g_inX hX) rfl 1 (by decide) (hts (.fieldLink RX1 18 "NumberGoblets" "size" "I") (by decide +kernel)) (fun _ h9 => h9) rfl (by decide +kernel) rfl rfl (Nat.le_of_ble_eq_true rfl) dX1_init_39 (fun H locs hP2 hD2 hS => ?_)
  have hw := g_setX (Y := va_pl L2 (gE S2)) (v := ((h0, .inr (1, [.ref q2, .int 100, .int 0])) : Nat × va_E)) hX
  have hP := g_eqP hw hP2
  have hD := g_eqD hw hD2
  have hX := g_setX2 (v := ((h0, .inr (1, [.ref q2, .int 100, .int 0])) : Nat × va_E)) hX
  rw [List.set_set] at hX hP hD
  refine lv_aload_n hx hb dX1_init_42 rfl (lv_at hl 1 rfl) ?_
  refine lv_iconst (v := 1) hx hb dX1_init_43 (by decide) ?_
  refine va_put (D := D) (ci := 1) (v := .int 1) (ty := .int) (C := RX1) (T := TX1) (N := 3) hx hb hts i1_Ginit tyX1 tyX1_ok nmX1 hown hK hP hD hS i (g_inX hX) rfl 2 (by decide) (hts (.fieldLink RX1 22 "NumberGoblets" "round" "I") (by decide +kernel)) (fun _ h9 => h9) rfl (by decide +kernel) rfl rfl (Nat.le_of_ble_eq_true rfl) dX1_init_44 (fun H locs hP2 hD2 hS => ?_)
  have hw := g_setX (Y := va_pl L2 (gE S2)) (v := ((h0, .inr (1, [.ref q2, .int 100, .int 1])) : Nat × va_E)) hX
  have hP := g_eqP hw hP2
  have hD := g_eqD hw hD2
  have hX := g_setX2 (v := ((h0, .inr (1, [.ref q2, .int 100, .int 1])) : Nat × va_E)) hX
  rw [List.set_set] at hX hP hD
  have hne : q1 ≠ q2 := fun z => hq2 (by rw [← z]; exact List.mem_append_right _ (List.mem_singleton.mpr rfl))
  have hm1 : q1 ∈ L2 := by rw [hL2]; exact List.mem_append_left _ (List.mem_append_right _ (List.mem_singleton.mpr rfl))
  have hm2 : q2 ∈ L2 := by rw [hL2]; exact List.mem_append_right _ (List.mem_singleton.mpr rfl)
  have hs2 : S2 q2 = (1, 100, 8, some q1) := by rw [hS2, va_up_self]
  have hs1 : S2 q1 = (101, 5000, -1, none) := by rw [hS2, va_up_ne _ _ hne, va_up_self]
  have hC : gCh gP0 q2 (L2, S2) := by
    refine ⟨[(1, 100, 8), (101, 5000, -1)], ⟨q2, some q1, rfl, hm2, hs2, q1, none, rfl, hm1, hs1, rfl⟩, ⟨rfl, by show 1 ≤ 100; omega, by show 100 ≤ 5000; omega, fun j h1 h2 => ?_, rfl, by show 101 ≤ 5000; omega, Nat.le_refl _, fun j h1 h2 => ?_, rfl⟩, Or.inl rfl, Or.inr ?_, trivial⟩
    · have h2 : j ≤ 100 := h2
      show gP0 j = 8; unfold gP0; rw [if_pos ⟨h1, h2⟩]
    · have h1 : 101 ≤ j := h1
      show gP0 j = -1; unfold gP0; rw [if_neg (by omega)]
    · show ¬ gP0 100 = -1; decide
  exact g_retv (wo := fun u : Nat × List Nat × gS => X.set i (gO h0 u.1 (nI 100) 1) ++ va_pl u.2.1 (gE u.2.2)) hx hb hr hlocks hK (q2, L2, S2) hP hD hS (Nat.le_of_ble_eq_true rfl) (Nat.le_of_ble_eq_true rfl) hC dX1_init_47
end
section
/-! p25: what its law says, of numbers and their places alone -/
/-- the law's evening: n numbers (at most 219), each at one of the places 0 to 10 -/
def gInv (P : Nat → Int32) (n : Nat) : Prop := gEv P n ∧ n ≤ 219 ∧ ∀ j, 1 ≤ j → j ≤ n → ∃ k : Nat, k ≤ 10 ∧ P j = nI k
theorem h_0 {P : Nat → Int32} {n : Nat} (h : gEv P n) : P 0 = -1 := h.2.2.1 0 (Or.inl rfl)
theorem h_51 {P : Nat → Int32} {n : Nat} (h : gEv P n) : P 5001 = -1 := h.2.2.1 5001 (Or.inr (by have := h.2.1; omega))
theorem h_0n {P : Nat → Int32} {n : Nat} (h : gEv P n) : ¬ P 0 = 8 := by rw [h_0 h]; decide
theorem h_neg {k : Nat} (hk : k ≤ 10) : ¬ nI k = -1 := by
  intro h
  have h2 : (nI k).toInt = -1 := by rw [h]; rfl
  rw [nI_toInt (by omega)] at h2
  omega
theorem h_ne {a b : Nat} (ha : a ≤ 10) (hb : b ≤ 10) (h : a ≠ b) : ¬ nI a = nI b := fun z => h ((nI_eq (by omega) (by omega)).mp z)
theorem h_gob {g : Nat} (h : g < 8) : gGob (nI g) := ⟨g, h, rfl⟩
theorem h_cnt {c : Nat} (h1 : 1 ≤ c) (h2 : c ≤ 200) : gCnt (nI c) := ⟨c, h1, h2, rfl⟩
theorem h_0p {P : Nat → Int32} {n k : Nat} (h : gEv P n) (hk : k ≤ 10) : ¬ P 0 = nI k := by rw [h_0 h]; exact fun z => h_neg hk z.symm
/-- sums -/
def gsum (f : Nat → Nat) : Nat → Nat
  | 0 => 0
  | k + 1 => gsum f k + f k
theorem gsum_one (f : Nat → Nat) (k : Nat) : ∀ N : Nat, gsum (fun q => f q + if k = q then 1 else 0) N = gsum f N + if k < N then 1 else 0
  | 0 => by rw [if_neg (Nat.not_lt_zero k)]; rfl
  | N + 1 => by
    have ih := gsum_one f k N
    show gsum (fun q => f q + if k = q then 1 else 0) N + (f N + if k = N then 1 else 0) = gsum f N + f N + if k < N + 1 then 1 else 0
    rw [ih]
    by_cases a : k = N
    · rw [if_pos a, if_neg (by omega), if_pos (by omega)]; omega
    · by_cases b : k < N
      · rw [if_neg a, if_pos b, if_pos (by omega)]; omega
      · rw [if_neg a, if_neg b, if_neg (by omega)]; omega
theorem gsum_cong {f g : Nat → Nat} : ∀ N : Nat, (∀ q, q < N → f q = g q) → gsum f N = gsum g N
  | 0, _ => rfl
  | N + 1, h => by
    show gsum f N + f N = gsum g N + g N
    rw [gsum_cong N (fun q hq => h q (by omega)), h N (by omega)]
theorem gsum_zero : ∀ N : Nat, gsum (fun _ => 0) N = 0
  | 0 => rfl
  | N + 1 => by
    show gsum (fun _ => 0) N + 0 = 0
    rw [gsum_zero N]
theorem h_sumAt {P : Nat → Int32} : ∀ m : Nat, (∀ j, 1 ≤ j → j ≤ m → ∃ k : Nat, k ≤ 10 ∧ P j = nI k) → gsum (fun q => gct P (nI q) m) 11 = m
  | 0, _ => gsum_zero 11
  | m + 1, h => by
    have ih := h_sumAt m (fun j a b => h j a (by omega))
    obtain ⟨k, hk, e⟩ := h (m + 1) (by omega) (Nat.le_refl _)
    have e2 : gsum (fun q => gct P (nI q) (m + 1)) 11 = gsum (fun q => gct P (nI q) m + if k = q then 1 else 0) 11 := by
      refine gsum_cong 11 (fun q hq => ?_)
      show gct P (nI q) m + (if P (m + 1) = nI q then 1 else 0) = gct P (nI q) m + if k = q then 1 else 0
      by_cases z : k = q
      · rw [if_pos z, if_pos (by rw [e, z])]
      · rw [if_neg z, if_neg (by rw [e]; exact h_ne hk (by omega) z)]
    rw [e2, gsum_one (fun q => gct P (nI q) m) k 11, ih, if_pos (by omega)]
theorem h_sum {P : Nat → Int32} {n : Nat} (h : gInv P n) : gsum (fun q => gct P (nI q) 5000) 8 + gct P 8 5000 + gct P 9 5000 + gct P 10 5000 = n := by
  have e : gsum (fun q => gct P (nI q) 5000) 11 = gsum (fun q => gct P (nI q) n) 11 := gsum_cong 11 (fun q hq => b_ct h.1 (h_neg (by omega)))
  rw [h_sumAt n h.2.2] at e
  exact e
theorem gsum_le {f : Nat → Nat} {b : Nat} : ∀ N : Nat, (∀ q, q < N → f q ≤ b) → gsum f N ≤ N * b
  | 0, _ => Nat.zero_le _
  | N + 1, h => by
    have h1 := gsum_le (f := f) (b := b) N (fun q hq => h q (by omega))
    have h2 := h N (by omega)
    show gsum f N + f N ≤ (N + 1) * b
    rw [Nat.succ_mul]
    omega
/-- few: of no place more than n -/
theorem h_few {P : Nat → Int32} {n k : Nat} (h : gEv P n) (hk : k ≤ 10) : gct P (nI k) 5000 ≤ n := by
  rw [b_ct h (h_neg hk)]
  exact gct_le _ _ _
theorem h_fewR {P : Nat → Int32} {n k : Nat} (h : gEv P n) (hk : k ≤ 10) : gbg P (nI k) 5000 ≤ n := by
  rw [b_bg h (h_neg hk)]
  exact gbg_le _ _ _
theorem gbg_ct (P : Nat → Int32) (p : Int32) : ∀ m : Nat, gbg P p m ≤ gct P p m
  | 0 => Nat.le_refl _
  | m + 1 => by
    have ih := gbg_ct P p m
    by_cases a : P (m + 1) = p
    · rw [gct_yes a]
      by_cases b : P m = p
      · rw [gbg_no (fun z => z.2 b)]; omega
      · rw [gbg_yes ⟨a, b⟩]; omega
    · rw [gct_no a, gbg_no (fun z => a z.1)]; exact ih
/-- no range begins: no number -/
theorem gap0 {P : Nat → Int32} {p : Int32} {q : Nat} (h : ¬ (P q = p ∧ P (q + 1) = p)) : ∀ d : Nat, gbg P p (q + d) = gbg P p q → ∀ j, q < j → j ≤ q + d → ¬ P j = p
  | 0, _, j, h1, h2 => absurd h1 (by omega)
  | d + 1, he, j, h1, h2 => by
    have m1 := gbg_mono P p (m := q) d
    have m2 := gbg_mono P p (m := q + d) 1
    have he : gbg P p (q + d + 1) = gbg P p q := he
    have ih := gap0 h d (by omega)
    by_cases z : j = q + d + 1
    · rw [z]
      intro hp
      by_cases hd : P (q + d) = p
      · rcases Nat.eq_zero_or_pos d with y | y
        · subst y; exact h ⟨hd, hp⟩
        · exact ih (q + d) (by omega) (Nat.le_refl _) hd
      · have := gbg_yes (P := P) (p := p) (n := q + d) ⟨hp, hd⟩
        omega
    · exact ih j h1 (by omega)
theorem gap {P : Nat → Int32} {p : Int32} {q m : Nat} (h : ¬ (P q = p ∧ P (q + 1) = p)) (hm : q ≤ m) (he : gbg P p m = gbg P p q) : ∀ j, q < j → j ≤ m → ¬ P j = p := by
  have := gap0 h (m - q) (by rw [show q + (m - q) = m by omega]; exact he)
  rwa [show q + (m - q) = m by omega] at this
theorem gbg_none {P : Nat → Int32} {p : Int32} {m : Nat} (h0 : ¬ P 0 = p) (he : gbg P p m = 0) : ∀ j, 1 ≤ j → j ≤ m → ¬ P j = p :=
  fun j a b => gap (P := P) (p := p) (q := 0) (m := m) (fun z => h0 z.1) (Nat.zero_le _) he j (by omega) b
theorem gct_none {P : Nat → Int32} {p : Int32} {m : Nat} (h : gct P p m = 0) : ∀ j, 1 ≤ j → j ≤ m → ¬ P j = p := by
  intro j a b z
  have h1 := gct_step (P := P) (p := p) (k := j) (j := j) a (Nat.le_refl _) z
  have h2 := gct_mono' P p b
  omega
theorem gct_zero {P : Nat → Int32} {p : Int32} {m : Nat} (h : ∀ j, 1 ≤ j → j ≤ m → ¬ P j = p) : gct P p m = 0 := gct_past (P := P) (p := p) (k := 1) (m := m) (by omega) h
theorem gbg_iff {P : Nat → Int32} {p : Int32} {m : Nat} (h0 : ¬ P 0 = p) : gct P p m = 0 ↔ gbg P p m = 0 :=
  ⟨fun z => by have := gbg_ct P p m; omega, fun z => gct_zero (gbg_none h0 z)⟩
theorem glow_ct {P : Nat → Int32} {p : Int32} {v : Nat} (h : glow (fun j => P j = p) 5000 v) : v = 0 ↔ gct P p 5000 = 0 := by
  rcases h with ⟨h1, h2⟩ | ⟨h1, h2, h3, h4⟩
  · exact ⟨fun _ => gct_zero h2, fun _ => h1⟩
  · exact ⟨fun z => by omega, fun z => absurd h3 (gct_none z v h1 h2)⟩
theorem glow_at {P : Nat → Int32} {p : Int32} {v : Nat} (h : glow (fun j => P j = p) 5000 v) (hv : ¬ v = 0) : 1 ≤ v ∧ v ≤ 5000 ∧ P v = p := by
  rcases h with ⟨h1, h2⟩ | ⟨h1, h2, h3, h4⟩
  · exact absurd h1 hv
  · exact ⟨h1, h2, h3⟩
theorem glow_0 {P : Nat → Int32} {p : Int32} : glow (fun j => P j = p) 5000 0 ↔ gct P p 5000 = 0 := by
  constructor
  · exact fun h => (glow_ct h).mp rfl
  · exact fun h => Or.inl ⟨rfl, gct_none h⟩
/-- the k-th range of the jug -/
def gRg (P : Nat → Int32) (k a b : Nat) : Prop := 1 ≤ a ∧ a ≤ b ∧ b ≤ 5000 ∧ (∀ j, a ≤ j → j ≤ b → P j = 8) ∧ ¬ P (a - 1) = 8 ∧ ¬ P (b + 1) = 8 ∧ gbg P 8 (a - 1) = k
theorem rg_begin {P : Nat → Int32} {p : Int32} {k : Nat} : ∀ m : Nat, k < gbg P p m → ∃ a, 1 ≤ a ∧ a ≤ m ∧ P a = p ∧ ¬ P (a - 1) = p ∧ gbg P p (a - 1) = k
  | 0, h => absurd h (Nat.not_lt_zero _)
  | m + 1, h => by
    by_cases z : k < gbg P p m
    · obtain ⟨a, h1, h2, h3⟩ := rg_begin m z
      exact ⟨a, h1, by omega, h3⟩
    · by_cases y : P (m + 1) = p ∧ ¬ P m = p
      · have := gbg_yes y
        exact ⟨m + 1, by omega, Nat.le_refl _, y.1, y.2, by rw [Nat.add_sub_cancel]; omega⟩
      · have := gbg_no y
        omega
theorem rg_end {P : Nat → Int32} {p : Int32} {a : Nat} (ha : P a = p) : ∀ d : Nat, (∃ b, a ≤ b ∧ b < a + d ∧ (∀ j, a ≤ j → j ≤ b → P j = p) ∧ ¬ P (b + 1) = p) ∨ (∀ j, a ≤ j → j ≤ a + d → P j = p)
  | 0 => Or.inr (fun j h1 h2 => by rw [show j = a by omega]; exact ha)
  | d + 1 => by
    rcases rg_end ha d with ⟨b, h1, h2, h3⟩ | h
    · exact Or.inl ⟨b, h1, by omega, h3⟩
    · by_cases z : P (a + d + 1) = p
      · refine Or.inr (fun j h1 h2 => ?_)
        by_cases y : j = a + d + 1
        · rw [y]; exact z
        · exact h j h1 (by omega)
      · exact Or.inl ⟨a + d, by omega, by omega, h, z⟩
theorem rg_ex {P : Nat → Int32} {n k : Nat} (h : gEv P n) (hk : k < gbg P 8 5000) : ∃ a b, gRg P k a b ∧ b ≤ n := by
  obtain ⟨a, h1, h2, h3, h4, h5⟩ := rg_begin 5000 hk
  have ha : a ≤ n := b_in h h3
  rcases rg_end h3 (n + 1 - a) with ⟨b, c1, c2, c3, c4⟩ | c
  · have hb : b ≤ n := by omega
    have := h.2.1
    exact ⟨a, b, ⟨h1, c1, by omega, c3, h4, c4, h5⟩, hb⟩
  · have := c (n + 1) (by omega) (by omega)
    exact absurd (b_in h this) (by omega)
theorem rg_from {P : Nat → Int32} {k a b : Nat} {r : Int32} (hk : k ≤ 5000) (h : gRg P k a b) (hr : ∃ v : Nat, 1 ≤ v ∧ v ≤ 5000 ∧ r = nI v ∧ P v = 8 ∧ ¬ P (v - 1) = 8 ∧ nI k = nI (gbg P 8 (v - 1))) : r = nI a := by
  obtain ⟨v, h1, h2, h3, h4, h5, h6⟩ := hr
  obtain ⟨c1, c2, c3, c4, c5, c6, c7⟩ := h
  have h7 := gbg_le P 8 (v - 1)
  have h8 := (nI_eq (by omega) (by omega)).mp h6
  have : v = a := gbg_inj h1 c1 ⟨h4, h5⟩ ⟨c4 a (Nat.le_refl _) c2, c5⟩ (by omega)
  rw [h3, this]
theorem rg_to {P : Nat → Int32} {k a b : Nat} {r : Int32} (h0 : ¬ P 0 = 8) (hk : k ≤ 5000) (h : gRg P k a b) (hr : ∃ v : Nat, 1 ≤ v ∧ v ≤ 5000 ∧ r = nI v ∧ P v = 8 ∧ ¬ P (v + 1) = 8 ∧ nI k = nI (gen P 8 (v - 1))) : r = nI b := by
  obtain ⟨v, h1, h2, h3, h4, h5, h6⟩ := hr
  obtain ⟨c1, c2, c3, c4, c5, c6, c7⟩ := h
  have h7 := gen_le P 8 (v - 1)
  have h8 := (nI_eq (by omega) (by omega)).mp h6
  have h9 := (gen_to c1 c2 c4 c6).2
  have g1 := gbg_gen h0 (a - 1)
  rw [if_neg (fun z => c5 z.1)] at g1
  have : v = b := gen_inj h1 (by omega) ⟨h4, h5⟩ ⟨c4 b c2 (Nat.le_refl _), c6⟩ (by omega)
  rw [h3, this]
theorem rg_ok {P : Nat → Int32} {k a b : Nat} (h : gRg P k a b) (hc : ∀ j, 1 ≤ j → j ≤ 5000 → P j = 8 → ¬ P (j - 1) = 8 → ¬ nI k = nI (gbg P 8 (j - 1))) : False := by
  obtain ⟨c1, c2, c3, c4, c5, c6, c7⟩ := h
  exact hc a c1 (by omega) (c4 a (Nat.le_refl _) c2) c5 (by rw [c7])
theorem rg_place {P : Nat → Int32} {n j : Nat} {r : Int32} (h : gEv P n) (hj : j ≤ 5000) (hr : (∃ i : Nat, 1 ≤ i ∧ i ≤ 5000 ∧ nI j = nI i ∧ r = P i) ∨ (r = -1 ∧ ∀ i : Nat, 1 ≤ i → i ≤ 5000 → ¬ nI j = nI i)) : r = P j := by
  rcases hr with ⟨i, h1, h2, h3, h4⟩ | ⟨h1, h2⟩
  · rw [h4, (nI_eq (by omega) (by omega)).mp h3]
  · rcases Nat.eq_zero_or_pos j with z | z
    · rw [z, h_0 h]; exact h1
    · exact absurd rfl (h2 j z hj)
/-- one range is behind another -/
theorem rg_next {P : Nat → Int32} {k a b e : Nat} (h : gRg P k a b) (he : gbg P 8 e = k) (hs : ¬ (P e = 8 ∧ P (e + 1) = 8)) : e < a ∧ gct P 8 b = gct P 8 e + (b - a + 1) ∧ gbg P 8 b = k + 1 := by
  obtain ⟨c1, c2, c3, c4, c5, c6, c7⟩ := h
  have e1 := gbg_to c1 c2 c4 c5
  have hlt : e < a := by
    rcases Nat.lt_or_ge e a with z | z
    · exact z
    · have h1 := gbg_to c1 (Nat.le_refl a) (fun j x y => c4 j x (by omega)) c5
      have h2 := gbg_mono P 8 (m := a) (e - a)
      rw [show a + (e - a) = e by omega] at h2
      omega
  have h3 := gap hs (show e ≤ a - 1 by omega) (by omega)
  have h4 := gct_past (P := P) (p := 8) (k := e + 1) (m := a - 1) (by omega) (fun j x y => h3 j (by omega) y)
  rw [Nat.add_sub_cancel] at h4
  have h5 := gct_to c1 c2 c4
  exact ⟨hlt, by omega, by omega⟩
/-- behind the last range there is none -/
theorem rg_last {P : Nat → Int32} {e : Nat} (hm : e ≤ 5000) (he : gbg P 8 e = gbg P 8 5000) (hs : ¬ (P e = 8 ∧ P (e + 1) = 8)) : gct P 8 5000 = gct P 8 e := by
  have h3 := gap hs hm he.symm
  have h4 := gct_past (P := P) (p := 8) (k := e + 1) (m := 5000) (by omega) (fun j x y => h3 j (by omega) y)
  rwa [Nat.add_sub_cancel] at h4
/-- the longest range -/
theorem lg_inv {P : Nat → Int32} (h0 : ¬ P 0 = 8) : ∀ m : Nat,
    (∀ a b i, 1 ≤ a → a ≤ b → b ≤ m → (∀ j, a ≤ j → j ≤ b → P j = 8) → ¬ P (a - 1) = 8 → gbg P 8 (a - 1) = i → b - a + 1 ≤ (glg P m).2.1 ∧ (i + 1 < (glg P m).1 → b - a + 1 < (glg P m).2.1)) ∧
    (((glg P m).1 = 0 ∧ (glg P m).2.1 = 0) ∨ ∃ a b, 1 ≤ a ∧ a ≤ b ∧ b ≤ m ∧ (∀ j, a ≤ j → j ≤ b → P j = 8) ∧ ¬ P (a - 1) = 8 ∧ gbg P 8 (a - 1) + 1 = (glg P m).1 ∧ b - a + 1 = (glg P m).2.1) ∧
    (∀ a, 1 ≤ a → a ≤ m → (∀ j, a ≤ j → j ≤ m → P j = 8) → ¬ P (a - 1) = 8 → (glg P m).2.2 = m - a + 1) ∧ (glg P m).1 ≤ gbg P 8 m
  | 0 => ⟨fun a b i h1 h2 h3 => absurd h1 (by omega), Or.inl ⟨rfl, rfl⟩, fun a h1 h2 => absurd h1 (by omega), Nat.le_refl _⟩
  | m + 1 => by
    obtain ⟨i1, i2, i3, i4⟩ := lg_inv h0 m
    by_cases z : P (m + 1) = 8
    · have k3 : ∀ a, 1 ≤ a → a ≤ m + 1 → (∀ j, a ≤ j → j ≤ m + 1 → P j = 8) → ¬ P (a - 1) = 8 → (glg P m).2.2 + 1 = m + 1 - a + 1 := by
        intro a h1 h2 h3 h4
        by_cases y : a = m + 1
        · rw [y, Nat.add_sub_cancel] at h4
          rw [glg_last m h4]
          omega
        · rw [i3 a h1 (by omega) (fun j x w => h3 j x (by omega)) h4]
          omega
      have kb : ∀ a, 1 ≤ a → a ≤ m + 1 → (∀ j, a ≤ j → j ≤ m + 1 → P j = 8) → ¬ P (a - 1) = 8 → gbg P 8 (a - 1) + 1 = gbg P 8 (m + 1) := fun a h1 h2 h3 h4 => (gbg_to h1 h2 h3 h4).symm
      have km := gbg_mono P 8 (m := m) 1
      rw [glg_1 z]
      by_cases y : (glg P m).2.1 < (glg P m).2.2 + 1
      · rw [if_pos y]
        refine ⟨fun a b i h1 h2 h3 h4 h5 h6 => ?_, Or.inr ?_, k3, Nat.le_refl _⟩
        · show b - a + 1 ≤ (glg P m).2.2 + 1 ∧ (i + 1 < gbg P 8 (m + 1) → b - a + 1 < (glg P m).2.2 + 1)
          by_cases w : b = m + 1
          · subst w
            have e1 := k3 a h1 h2 h4 h5
            have e2 := kb a h1 h2 h4 h5
            exact ⟨by omega, fun q => by omega⟩
          · have e1 := (i1 a b i h1 h2 (by omega) h4 h5 h6).1
            exact ⟨by omega, fun _ => by omega⟩
        · obtain ⟨a, c1, c2, c3, c4⟩ := g_run h0 (m + 1) z
          exact ⟨a, m + 1, c1, c2, Nat.le_refl _, c4, c3, kb a c1 c2 c4 c3, (k3 a c1 c2 c4 c3).symm⟩
      · rw [if_neg y]
        refine ⟨fun a b i h1 h2 h3 h4 h5 h6 => ?_, ?_, k3, ?_⟩
        · show b - a + 1 ≤ (glg P m).2.1 ∧ (i + 1 < (glg P m).1 → b - a + 1 < (glg P m).2.1)
          by_cases w : b = m + 1
          · subst w
            have e1 := k3 a h1 h2 h4 h5
            have e2 := kb a h1 h2 h4 h5
            exact ⟨by omega, fun q => by omega⟩
          · exact i1 a b i h1 h2 (by omega) h4 h5 h6
        · rcases i2 with h | ⟨a, b, c1, c2, c3, c4⟩
          · exact Or.inl h
          · exact Or.inr ⟨a, b, c1, c2, by omega, c4⟩
        · show (glg P m).1 ≤ gbg P 8 (m + 1); omega
    · have km := gbg_mono P 8 (m := m) 1
      rw [glg_0 z]
      refine ⟨fun a b i h1 h2 h3 h4 h5 h6 => ?_, ?_, fun a h1 h2 h3 h4 => absurd (h3 (m + 1) h2 (Nat.le_refl _)) z, ?_⟩
      · refine i1 a b i h1 h2 ?_ h4 h5 h6
        rcases Nat.lt_or_ge m b with w | w
        · exact absurd (h4 (m + 1) (by omega) (by omega)) z
        · exact w
      · rcases i2 with h | ⟨a, b, c1, c2, c3, c4⟩
        · exact Or.inl h
        · exact Or.inr ⟨a, b, c1, c2, by omega, c4⟩
      · show (glg P m).1 ≤ gbg P 8 (m + 1); omega
theorem lg_none {P : Nat → Int32} {n : Nat} (h : gEv P n) (hz : gbg P 8 5000 = 0) : (glg P 5000).1 = 0 := by
  have := (lg_inv (h_0n h) 5000).2.2.2
  omega
theorem lg_some {P : Nat → Int32} {n : Nat} (h : gEv P n) (hz : ¬ gbg P 8 5000 = 0) : ∃ k a b, (glg P 5000).1 = k + 1 ∧ k < gbg P 8 5000 ∧ gRg P k a b ∧ b ≤ n ∧ ∀ i x y, gRg P i x y → y - x + 1 ≤ b - a + 1 ∧ (i < k → y - x + 1 < b - a + 1) := by
  obtain ⟨i1, i2, i3, i4⟩ := lg_inv (h_0n h) 5000
  rcases i2 with ⟨c1, c2⟩ | ⟨a, b, c1, c2, c3, c4, c5, c6, c7⟩
  · obtain ⟨a, b, ⟨d1, d2, d3, d4, d5, d6, d7⟩, -⟩ := rg_ex h (k := 0) (by omega)
    have := (i1 a b 0 d1 d2 d3 d4 d5 d7).1
    omega
  · have hk : gbg P 8 (a - 1) < gbg P 8 5000 := by omega
    obtain ⟨a2, b2, hr, hb⟩ := rg_ex h hk
    obtain ⟨d1, d2, d3, d4, d5, d6, d7⟩ := id hr
    have e1 : a2 = a := gbg_inj d1 c1 ⟨d4 a2 (Nat.le_refl _) d2, d5⟩ ⟨c4 a (Nat.le_refl _) c2, c5⟩ d7
    subst e1
    have e2 := (i1 a2 b2 _ d1 d2 d3 d4 d5 d7).1
    have e3 : b ≤ b2 := by
      rcases Nat.lt_or_ge b2 b with z | z
      · exact absurd (c4 (b2 + 1) (by omega) (by omega)) d6
      · exact z
    have e4 : b2 = b := by omega
    subst e4
    refine ⟨_, a2, b2, c6.symm, hk, hr, hb, fun i x y hx => ?_⟩
    obtain ⟨f1, f2, f3, f4, f5, f6, f7⟩ := hx
    have e5 := i1 x y i f1 f2 f3 f4 f5 f7
    rw [c7]
    exact ⟨e5.1, fun z => e5.2 (by omega)⟩
end
section
/-! p25: what moves do to the counts and the ranges -/
theorem mv_ct {P : Nat → Int32} {fr to : Int32} {st cn : Nat} (hne : ¬ fr = to) : ∀ m : Nat, gct (gmv P fr to st cn) fr m + min (gct P fr m - st) cn = gct P fr m ∧ gct (gmv P fr to st cn) to m = gct P to m + min (gct P fr m - st) cn
  | 0 => by
    show 0 + min (0 - st) cn = 0 ∧ 0 = 0 + min (0 - st) cn
    omega
  | m + 1 => by
    obtain ⟨i1, i2⟩ := mv_ct (P := P) (fr := fr) (to := to) (st := st) (cn := cn) hne m
    by_cases z : P (m + 1) = fr
    · have e1 := gct_yes z
      have e2 := gct_no (P := P) (p := to) (n := m) (fun w => hne (z.symm.trans w))
      by_cases y : st < gct P fr (m + 1) ∧ gct P fr (m + 1) ≤ st + cn
      · have q := gmv_in (to := to) z y.1 y.2
        have e3 := gct_yes (P := gmv P fr to st cn) (p := to) (n := m) q
        have e4 := gct_no (P := gmv P fr to st cn) (p := fr) (n := m) (fun w => hne (w.symm.trans q))
        omega
      · have q : gmv P fr to st cn (m + 1) = P (m + 1) := gmv_out (Or.inr (by omega))
        have e3 := gct_yes (P := gmv P fr to st cn) (p := fr) (n := m) (q.trans z)
        have e4 := gct_no (P := gmv P fr to st cn) (p := to) (n := m) (fun w => hne ((q.trans z).symm.trans w))
        omega
    · have q : gmv P fr to st cn (m + 1) = P (m + 1) := gmv_out (Or.inl z)
      have e1 := gct_no z
      have e3 := gct_no (P := gmv P fr to st cn) (p := fr) (n := m) (fun w => z (q.symm.trans w))
      by_cases y : P (m + 1) = to
      · have e2 := gct_yes y
        have e4 := gct_yes (P := gmv P fr to st cn) (p := to) (n := m) (q.trans y)
        omega
      · have e2 := gct_no y
        have e4 := gct_no (P := gmv P fr to st cn) (p := to) (n := m) (fun w => y (q.symm.trans w))
        omega
theorem mv_ot {P : Nat → Int32} {fr to p : Int32} {st cn m : Nat} (h1 : ¬ p = fr) (h2 : ¬ p = to) : gct (gmv P fr to st cn) p m = gct P p m := by
  refine gct_cong m (fun j _ _ => ?_)
  by_cases z : P j = fr ∧ st < gct P fr j ∧ gct P fr j ≤ st + cn
  · rw [gmv_in z.1 z.2.1 z.2.2, z.1]
    exact ⟨fun w => absurd w.symm h2, fun w => absurd w.symm h1⟩
  · rw [gmv_out (by by_cases y : P j = fr; exact Or.inr (by have w : ¬ (st < gct P fr j ∧ gct P fr j ≤ st + cn) := fun q => z ⟨y, q⟩; omega); exact Or.inl y)]
theorem inv_mv {P : Nat → Int32} {n a b st cn : Nat} (ha : a ≤ 10) (hb : b ≤ 10) (h : gInv P n) : gInv (gmv P (nI a) (nI b) st cn) n := by
  refine ⟨gEv_mv (h_neg ha) (h_neg hb) h.1, h.2.1, fun j h1 h2 => ?_⟩
  unfold gmv
  split
  · exact ⟨b, hb, rfl⟩
  · exact h.2.2 j h1 h2
theorem inv_up {P : Nat → Int32} {n v k : Nat} (hk : k ≤ 10) (h1 : 1 ≤ v) (h2 : v ≤ n) (h : gInv P n) : gInv (va_up P v (nI k)) n := by
  refine ⟨gEv_up (h_neg hk) h1 h2 h.1, h.2.1, fun j h3 h4 => ?_⟩
  by_cases z : j = v
  · rw [z, va_up_self]; exact ⟨k, hk, rfl⟩
  · rw [va_up_ne _ _ z]; exact h.2.2 j h3 h4
theorem inv_grow {P : Nat → Int32} {n vn : Nat} (h1 : n < vn) (h2 : vn ≤ 219) (h : gInv P n) : gInv (gmv P (-1) 8 0 (vn - n)) vn := by
  refine ⟨gEv_grow h.1 h1 (by omega), h2, fun j h3 h4 => ?_⟩
  rw [gmv_grow h.1 h1]
  show ∃ k : Nat, k ≤ 10 ∧ (if n < j ∧ j ≤ vn then (8 : Int32) else P j) = nI k
  by_cases z : n < j ∧ j ≤ vn
  · rw [if_pos z]; exact ⟨8, by omega, rfl⟩
  · rw [if_neg z]; exact h.2.2 j h3 (by omega)
theorem inv_in {P : Nat → Int32} {n v k : Nat} (hk : k ≤ 10) (h : gEv P n) (hv : P v = nI k) : 1 ≤ v ∧ v ≤ n := by
  by_cases z : v = 0 ∨ n < v
  · rw [h.2.2.1 v z] at hv
    exact absurd hv.symm (h_neg hk)
  · omega
theorem inv_0 : gInv gP0 100 := ⟨gEv0, by omega, fun j h1 h2 => ⟨8, by omega, by unfold gP0; rw [if_pos ⟨h1, h2⟩]; rfl⟩⟩
/-- enlarging -/
theorem grow_ct {P : Nat → Int32} {n vn : Nat} (h : gEv P n) (h1 : n < vn) (h2 : vn ≤ 5000) : gct (gmv P (-1) 8 0 (vn - n)) 8 5000 = gct P 8 5000 + (vn - n) := by
  have h3 := gEv_grow h h1 h2
  rw [b_ct h3 (by decide), b_ct h (by decide)]
  have e1 : gct (gmv P (-1) 8 0 (vn - n)) 8 n = gct P 8 n := by
    refine gct_cong n (fun j a b => ?_)
    rw [gmv_grow h h1]
    show (if n < j ∧ j ≤ vn then (8 : Int32) else P j) = 8 ↔ P j = 8
    rw [if_neg (by omega)]
  have e2 := gct_run (P := gmv P (-1) 8 0 (vn - n)) (p := 8) (m := n) (vn - n) (fun j a b => by
    rw [gmv_grow h h1]
    show (if n < j ∧ j ≤ vn then (8 : Int32) else P j) = 8
    rw [if_pos (by omega)])
  rw [show n + (vn - n) = vn by omega] at e2
  omega
theorem grow_rg {P : Nat → Int32} {n vn : Nat} (h : gEv P n) (h1 : n < vn) (h2 : vn ≤ 5000) : ∃ k a, gbg (gmv P (-1) 8 0 (vn - n)) 8 5000 = k + 1 ∧ gRg (gmv P (-1) 8 0 (vn - n)) k a vn := by
  have h3 := gEv_grow h h1 h2
  have hv : gmv P (-1) 8 0 (vn - n) vn = 8 := by
    rw [gmv_grow h h1]
    show (if n < vn ∧ vn ≤ vn then (8 : Int32) else P vn) = 8
    rw [if_pos ⟨h1, Nat.le_refl _⟩]
  obtain ⟨a, c1, c2, c3, c4⟩ := g_run (h_0n h3) vn hv
  have e1 := gbg_to c1 c2 c4 c3
  have e2 := b_bg (p := 8) h3 (by decide)
  refine ⟨gbg (gmv P (-1) 8 0 (vn - n)) 8 (a - 1), a, by omega, c1, c2, h2, c4, c3, ?_, rfl⟩
  rw [h3.2.2.1 (vn + 1) (Or.inr (Nat.lt_succ_self _))]
  decide
/-- what an empty goblet got goes back -/
theorem mv_back {P : Nat → Int32} {n c : Nat} {g : Int32} (h : gEv P n) (hg : ¬ g = -1) (h0 : gct P g 5000 = 0) : gmv (gmv P 8 g 0 c) g 8 0 5000 = P := by
  have hno := gct_none h0
  funext j
  by_cases hj : j = 0 ∨ n < j
  · have e0 := h.2.2.1 j hj
    have e1 : gmv P 8 g 0 c j = P j := gmv_out (Or.inl (by rw [e0]; decide))
    rw [gmv_out (Or.inl (by rw [e1, e0]; exact fun z => hg z.symm)), e1]
  · have hj1 : 1 ≤ j := by omega
    have hj2 : j ≤ 5000 := by have := h.2.1; omega
    by_cases z : P j = 8 ∧ 0 < gct P 8 j ∧ gct P 8 j ≤ 0 + c
    · have e1 := gmv_in (to := g) z.1 z.2.1 z.2.2
      have e2 := gct_step (P := gmv P 8 g 0 c) (p := g) (k := j) (j := j) hj1 (Nat.le_refl _) e1
      have e3 := gct_le (gmv P 8 g 0 c) g j
      rw [gmv_in e1 (by omega) (by omega), z.1]
    · have e1 : gmv P 8 g 0 c j = P j := gmv_out (by by_cases y : P j = 8; exact Or.inr (by have w : ¬ (0 < gct P 8 j ∧ gct P 8 j ≤ 0 + c) := fun q => z ⟨y, q⟩; omega); exact Or.inl y)
      rw [gmv_out (Or.inl (by rw [e1]; exact hno j hj1 hj2)), e1]
/-- pouring parts one range at most -/
theorem mv_split {P Q : Nat → Int32} {n c : Nat} {g : Int32} (h : gEv P n) (hg : ¬ g = -1) (hg8 : ¬ g = 8) (h0 : gct P g 5000 = 0) (hQ : Q = gmv P 8 g 0 c) : ∀ m : Nat, m ≤ 5000 → gbg Q g m + gbg Q 8 m = gbg P 8 m ∨ (gbg Q g m + gbg Q 8 m = gbg P 8 m + 1 ∧ c < gct P 8 m) := by
  have hno := gct_none h0
  have hq : ∀ j, j ≤ 5000 → (P j = 8 ∧ ((gct P 8 j ≤ c ∧ Q j = g) ∨ (c < gct P 8 j ∧ Q j = 8))) ∨ (¬ P j = 8 ∧ ¬ Q j = g ∧ ¬ Q j = 8) := by
    intro j hj
    by_cases z : P j = 8
    · have hj1 := (inv_in (k := 8) (by omega) h z).1
      have e2 := gct_step (P := P) (p := 8) (k := j) (j := j) hj1 (Nat.le_refl _) z
      by_cases y : gct P 8 j ≤ c
      · exact Or.inl ⟨z, Or.inl ⟨y, by rw [hQ]; exact gmv_in z (by omega) (by omega)⟩⟩
      · exact Or.inl ⟨z, Or.inr ⟨by omega, by rw [hQ, gmv_out (Or.inr (Or.inr (by omega)))]; exact z⟩⟩
    · have e1 : Q j = P j := by rw [hQ]; exact gmv_out (Or.inl z)
      refine Or.inr ⟨z, ?_, by rw [e1]; exact z⟩
      rw [e1]
      rcases Nat.eq_zero_or_pos j with y | y
      · rw [y, h_0 h]; exact fun w => hg w.symm
      · exact hno j y hj
  have hg8' : ¬ (8 : Int32) = g := fun z => hg8 z.symm
  intro m
  induction m with
  | zero => exact fun _ => Or.inl rfl
  | succ m ih =>
    intro hm
    have ih := ih (by omega)
    have hc : P (m + 1) = 8 → gct P 8 (m + 1) = gct P 8 m + 1 := fun z => gct_yes z
    have hc2 := gct_mono P 8 (m := m) 1
    rcases hq m (by omega) with ⟨a1, ⟨a2, a3⟩ | ⟨a2, a3⟩⟩ | ⟨a1, a2, a3⟩ <;> rcases hq (m + 1) hm with ⟨b1, ⟨b2, b3⟩ | ⟨b2, b3⟩⟩ | ⟨b1, b2, b3⟩ <;> simp only [gbg, a1, a2, a3, b1, b2, b3, hg8, hg8', not_true_eq_false, not_false_eq_true, and_true, true_and, and_false, false_and, if_true, if_false, Nat.add_zero] <;> (try have := hc b1) <;> omega
/-- a number changes its place -/
theorem up_to {P : Nat → Int32} {q : Int32} {v : Nat} (hv : 1 ≤ v) (hp : ¬ P v = q) : ∀ m : Nat, gct (va_up P v q) q m = gct P q m + if v ≤ m then 1 else 0
  | 0 => by rw [if_neg (by omega)]; rfl
  | m + 1 => by
    have ih := up_to hv hp m
    by_cases z : m + 1 = v
    · subst z
      rw [gct_yes (va_up_self _ _ _), gct_no hp, ih, if_neg (by omega), if_pos (Nat.le_refl _)]
    · have e := va_up_ne (f := P) (k := v) (j := m + 1) q z
      by_cases y : P (m + 1) = q
      · rw [gct_yes (e.trans y), gct_yes y, ih]
        by_cases w : v ≤ m
        · rw [if_pos w, if_pos (by omega)]
        · rw [if_neg w, if_neg (by omega)]
      · rw [gct_no (fun w => y (e.symm.trans w)), gct_no y, ih]
        by_cases w : v ≤ m
        · rw [if_pos w, if_pos (by omega)]
        · rw [if_neg w, if_neg (by omega)]
theorem up_ot {P : Nat → Int32} {q r : Int32} {v m : Nat} (h1 : ¬ P v = r) (h2 : ¬ q = r) : gct (va_up P v q) r m = gct P r m := by
  refine gct_cong m (fun j _ _ => ?_)
  by_cases z : j = v
  · subst z
    rw [va_up_self]
    exact ⟨fun w => absurd w h2, fun w => absurd w h1⟩
  · rw [va_up_ne _ _ z]
theorem up_up {P : Nat → Int32} {q r : Int32} {v : Nat} : va_up (va_up P v q) v r = va_up P v r := by
  funext j
  by_cases z : j = v
  · subst z; rw [va_up_self, va_up_self]
  · rw [va_up_ne _ _ z, va_up_ne _ _ z, va_up_ne _ _ z]
theorem up_same {P : Nat → Int32} {r : Int32} {v : Nat} (h : P v = r) : va_up P v r = P := by
  funext j
  by_cases z : j = v
  · subst z; rw [va_up_self, h]
  · rw [va_up_ne _ _ z]
/-- a new round -/
theorem rd_all {P : Nat → Int32} {n : Nat} (h : gInv P n) (hs : gct P 9 5000 + gct P 10 5000 = n) : ∀ j, 1 ≤ j → j ≤ n → P j = 9 ∨ P j = 10 := by
  intro j h1 h2
  have hsum := h_sumAt n h.2.2
  have e9 := b_ct (p := 9) h.1 (by decide)
  have e10 := b_ct (p := 10) h.1 (by decide)
  obtain ⟨k, hk, e⟩ := h.2.2 j h1 h2
  have hst : 1 ≤ gct P (nI k) n := by
    have a := gct_step (P := P) (p := nI k) (k := j) (j := j) h1 (Nat.le_refl _) e
    have b := gct_mono' P (nI k) h2
    omega
  have hu : gsum (fun q => gct P (nI q) n) 11 = gct P (nI 0) n + gct P (nI 1) n + gct P (nI 2) n + gct P (nI 3) n + gct P (nI 4) n + gct P (nI 5) n + gct P (nI 6) n + gct P (nI 7) n + gct P (nI 8) n + gct P 9 n + gct P 10 n := by
    show 0 + gct P (nI 0) n + gct P (nI 1) n + gct P (nI 2) n + gct P (nI 3) n + gct P (nI 4) n + gct P (nI 5) n + gct P (nI 6) n + gct P (nI 7) n + gct P (nI 8) n + gct P 9 n + gct P 10 n = _
    rw [Nat.zero_add]
  rcases (show k = 0 ∨ k = 1 ∨ k = 2 ∨ k = 3 ∨ k = 4 ∨ k = 5 ∨ k = 6 ∨ k = 7 ∨ k = 8 ∨ k = 9 ∨ k = 10 by omega) with rfl | rfl | rfl | rfl | rfl | rfl | rfl | rfl | rfl | rfl | rfl
  · omega
  · omega
  · omega
  · omega
  · omega
  · omega
  · omega
  · omega
  · omega
  · exact Or.inl e
  · exact Or.inr e
theorem rd_new {P : Nat → Int32} {n : Nat} (h : gInv P n) (hs : gct P 9 5000 + gct P 10 5000 = n) : ∀ j, 1 ≤ j → j ≤ n → gmv (gmv P 9 8 0 5000) 10 8 0 5000 j = 8 := by
  intro j h1 h2
  have h5 : j ≤ 5000 := by have := h.2.1; omega
  rcases rd_all h hs j h1 h2 with e | e
  · have a := gct_step (P := P) (p := 9) (k := j) (j := j) h1 (Nat.le_refl _) e
    have b := gct_le P 9 j
    have q := gmv_in (to := 8) (stay := 0) (cnt := 5000) e (by omega) (by omega)
    rw [gmv_out (Or.inl (by rw [q]; decide)), q]
  · have q : gmv P 9 8 0 5000 j = 10 := by rw [gmv_out (Or.inl (by rw [e]; decide)), e]
    have a := gct_step (P := gmv P 9 8 0 5000) (p := 10) (k := j) (j := j) h1 (Nat.le_refl _) q
    have b := gct_le (gmv P 9 8 0 5000) 10 j
    exact gmv_in q (by omega) (by omega)
theorem rd_ev {P : Nat → Int32} {n : Nat} (h : gInv P n) : gEv (gmv (gmv P 9 8 0 5000) 10 8 0 5000) n := gEv_mv (by decide) (by decide) (gEv_mv (by decide) (by decide) h.1)
theorem rd_rg {Q : Nat → Int32} {n : Nat} (h : gEv Q n) (ha : ∀ j, 1 ≤ j → j ≤ n → Q j = 8) : gbg Q 8 5000 = 1 ∧ gRg Q 0 1 n := by
  have h1 := h.1
  have e1 := gbg_to (P := Q) (p := 8) (k := 1) (m := n) (Nat.le_refl _) (by omega) ha (h_0n h)
  have e2 : gbg Q 8 n = 0 + 1 := e1
  rw [← b_bg h (by decide)] at e2
  refine ⟨e2, Nat.le_refl _, by omega, h.2.1, ha, h_0n h, ?_, rfl⟩
  rw [h.2.2.1 (n + 1) (Or.inr (Nat.lt_succ_self _))]
  decide
theorem rd_left {Q : Nat → Int32} {n v : Nat} (h : gEv Q n) (ha : ∀ j, 1 ≤ j → j ≤ n → Q j = 8) (hv : glow (fun j => ¬ Q j = 9 ∧ ¬ Q j = -1) 5000 v) : v = 1 := by
  have h1 := h.1
  have e := ha 1 (Nat.le_refl _) (by omega)
  exact glow_one hv (Or.inr ⟨Nat.le_refl _, by omega, ⟨by rw [e]; decide, by rw [e]; decide⟩, fun j x y => absurd x (by omega)⟩)
/-- the lowest one that isn't drunk -/
theorem left_ct {P : Nat → Int32} {n v : Nat} (h : gEv P n) (hv : glow (fun j => ¬ P j = 9 ∧ ¬ P j = -1) 5000 v) : v = 0 ↔ gct P 9 5000 = n := by
  have hn := h.2.1
  rcases hv with ⟨h1, h2⟩ | ⟨h1, h2, h3, h4⟩
  · refine ⟨fun _ => ?_, fun _ => h1⟩
    rw [b_ct h (by decide)]
    have := gct_run (P := P) (p := 9) (m := 0) n (fun j a b => by
      have q1 := h2 j (by omega) (by omega)
      have q2 := h.2.2.2 j (by omega) (by omega)
      exact Classical.byContradiction fun z => q1 ⟨z, q2⟩)
    rw [Nat.zero_add] at this
    rw [this]
    exact Nat.zero_add _
  · refine ⟨fun z => by omega, fun z => ?_⟩
    have hvn : v ≤ n := by
      rcases Nat.lt_or_ge n v with y | y
      · exact absurd (h.2.2.1 v (Or.inr y)) h3.2
      · exact y
    rw [b_ct h (by decide)] at z
    have e1 := gct_le P 9 (v - 1)
    have e2 := gct_no (P := P) (p := 9) (n := v - 1) (by rw [show v - 1 + 1 = v by omega]; exact h3.1)
    rw [show v - 1 + 1 = v by omega] at e2
    have e3 : ∀ d, gct P 9 (v + d) ≤ gct P 9 v + d := by
      intro d
      induction d with
      | zero => exact Nat.le_refl _
      | succ d ih =>
        have : gct P 9 (v + d + 1) ≤ gct P 9 (v + d) + 1 := by
          by_cases w : P (v + d + 1) = 9
          · rw [gct_yes w]; exact Nat.le_refl _
          · rw [gct_no w]; omega
        show gct P 9 (v + d + 1) ≤ _
        omega
    have e4 := e3 (n - v)
    rw [show v + (n - v) = n by omega] at e4
    omega
end
section
/-! p25: the law's small methods: what can't be thrown; inGoblets -/
theorem xb_pour {E : String} {v0 v1 : Int32} {P : Nat → Int32} (hg : gGob v0) (hc : gCnt v1) (hj : ¬ gct P 8 5000 = 0) (h : (E = xIOB ∧ ¬ gGob v0) ∨ (E = xIAE ∧ gGob v0 ∧ ¬ gCnt v1) ∨ (E = xISE ∧ gGob v0 ∧ gCnt v1 ∧ glow (fun j => P j = 8) 5000 0)) : False := by
  rcases h with h | h | h
  · exact h.2 hg
  · exact h.2.2 hc
  · exact hj (glow_0.mp h.2.2.2)
theorem xb_drink {E : String} {v0 : Int32} {P : Nat → Int32} (hg : gGob v0) (hj : ¬ (gct P v0 5000 = 0 ∧ gct P 8 5000 = 0)) (h : (E = xIOB ∧ ¬ gGob v0) ∨ (E = xISE ∧ gGob v0 ∧ glow (fun j => P j = v0) 5000 0 ∧ glow (fun j => P j = 8) 5000 0)) : False := by
  rcases h with h | h
  · exact h.2 hg
  · exact hj ⟨glow_0.mp h.2.2.1, glow_0.mp h.2.2.2⟩
theorem xb_share {E : String} {v0 v1 v2 : Int32} (h1 : gGob v0) (h2 : gGob v1) (hn : ¬ v0 = v1) (hc : gCnt v2) (h : (E = xIOB ∧ ¬ (gGob v0 ∧ gGob v1)) ∨ (E = xIAE ∧ gGob v0 ∧ gGob v1 ∧ (v0 = v1 ∨ ¬ gCnt v2))) : False := by
  rcases h with h | h
  · exact h.2 ⟨h1, h2⟩
  · rcases h.2.2.2 with z | z
    · exact hn z
    · exact z hc
theorem z_eq {a b : Nat} (h : a = b) : nI a = nI b := congrArg nI h
theorem z_ne {a b : Nat} (ha : a < 2 ^ 31) (hb : b < 2 ^ 31) (h : a ≠ b) : ¬ nI a = nI b := fun z => h ((nI_eq ha hb).mp z)
theorem z_le {a b : Nat} (h : a ≤ b) (hb : b < 2 ^ 31) : nI a ≤ nI b := nI_le h hb
theorem z_nle {a b : Nat} (h : b < a) (ha : a < 2 ^ 31) : ¬ nI a ≤ nI b := nI_ge h ha
theorem z_lt {a b : Nat} (h : a < b) (hb : b < 2 ^ 31) : nI a < nI b := nI_lt h hb
theorem z_nlt {a b : Nat} (h : b ≤ a) (ha : a < 2 ^ 31) : ¬ nI a < nI b := nI_nlt h ha
set_option maxHeartbeats 4000000 in
set_option maxRecDepth 100000 in
/-- inGoblets: the sum over the goblets -/
theorem w_inGoblets (l : Launch) (hl9 : l.stackTraces = false) (D : va_G) (tys : List (ClassId × FieldType)) (L0 : List Nat) (S0 : gS) (sz : Nat) {P : Nat → Int32} {n h0 lo : Nat} (hC : gCh P lo (L0, S0)) (hI : gInv P n)  : Met l yL_inGoblets wsL_inGoblets ({ frames := 8, cells := 8, slots := 48, locals := 150 } : Room) (gP D tys [.ref h0] ([gO h0 lo (nI n) 1] ++ va_pl L0 (gE S0)) sz (gG (va_A ([gO h0 lo (nI n) 1] ++ va_pl L0 (gE S0)) sz))) (va_Qi (fun (r : Int32) (u : List Nat × gS) => r = nI (gsum (fun q => gct P (nI q) 5000) 8) ∧ gCh P lo u) (fun u t => gWd D tys (va_A ([gO h0 lo (nI n) 1] ++ va_pl L0 (gE S0)) sz) ([gO h0 lo (nI n) 1] ++ va_pl u.1 (gE u.2)) t) (va_A ([gO h0 lo (nI n) 1] ++ va_pl L0 (gE S0)) sz)) 8 48 (va_A ([gO h0 lo (nI n) 1] ++ va_pl L0 (gE S0)) sz) := by
  refine g_ofW (cc := cL_inGoblets) (maxL := 3) (ret := some .int) (by decide) rfl (Nat.le_of_ble_eq_true rfl) ?_
  intro p e s m below meth c hx hb hr hml hts hown hlocks hin hsz hP hK hD hA hS hGG ls hl
  subst hsz
  have hown : s.vm.findClass RL = some m.cls := hown
  have hev := hI.1
  have hn1 := hI.1.1
  have hn2 := hI.2.1
  have hl : lv_has ls 3 [(0, .ref h0)] := hl
  refine lv_iconst (v := nI 0) hx hb dL_inGoblets_0 (by decide) ?_
  refine lv_istore_n (lv' := [(1, .int (nI 0)), (0, .ref h0)]) hx hb dL_inGoblets_1 rfl hl (by decide) rfl (fun ls hl => ?_)
  refine lv_iconst (v := nI 0) hx hb dL_inGoblets_2 (by decide) ?_
  refine lv_istore_n (lv' := [(2, .int (nI 0)), (1, .int (nI 0)), (0, .ref h0)]) hx hb dL_inGoblets_3 rfl hl (by decide) rfl (fun ls hl => ?_)
  have hloop : ∀ (d i : Nat) (L : List Nat) (S : gS) (H : Heap) (locs : List Loc) (ls : Array Slot), i + d = 8 → gCh P lo (L, S) → va_P D vwCl ([gO h0 lo (nI n) 1] ++ va_pl L (gE S)) H → va_D (va_A ([gO h0 lo (nI n) 1] ++ va_pl L0 (gE S0)) s.heap.size) ([gO h0 lo (nI n) 1] ++ va_pl L (gE S)) → va_S (va_A ([gO h0 lo (nI n) 1] ++ va_pl L0 (gE S0)) s.heap.size) s.heap H locs → lv_has ls 3 [(0, .ref h0), (1, .int (nI (gsum (fun q => gct P (nI q) 5000) i))), (2, .int (nI i))] → W p l e ({ frames := 8, cells := 8, slots := 48, locals := 150 } : Room) s m ([.ref h0] : List Value).toArray below meth c H locs i (6 * i) (MQ below (va_Qi (fun (r : Int32) (u : List Nat × gS) => r = nI (gsum (fun q => gct P (nI q) 5000) 8) ∧ gCh P lo u) (fun u t => gWd D tys (va_A ([gO h0 lo (nI n) 1] ++ va_pl L0 (gE S0)) s.heap.size) ([gO h0 lo (nI n) 1] ++ va_pl u.1 (gE u.2)) t) (va_A ([gO h0 lo (nI n) 1] ++ va_pl L0 (gE S0)) s.heap.size)) ([.ref h0] : List Value).toArray s 8 48 (va_A ([gO h0 lo (nI n) 1] ++ va_pl L0 (gE S0)) s.heap.size)) (F0 m 4 ls []) := by
    intro d
    induction d with
    | zero =>
      intro i L S H locs ls hi hC hP hD hS hl
      refine lv_iload_n hx hb dL_inGoblets_4 rfl (lv_at hl 2 rfl) ?_
      refine lv_bipush (v := nI 8) hx hb dL_inGoblets_5 (by decide) ?_
      refine lv_icmp_ge (tgt := 24) hx hb dL_inGoblets_7 (by decide) (fun _ => ?_) (fun c9 => absurd (z_le (by omega) (by omega)) c9)
      refine lv_iload_n hx hb dL_inGoblets_24 rfl (lv_at hl 1 rfl) ?_
      rw [show i = 8 by omega]
      exact g_reti (wo := fun u : List Nat × gS => [gO h0 lo (nI n) 1] ++ va_pl u.1 (gE u.2)) hx hb hr hlocks hK (nI (gsum (fun q => gct P (nI q) 5000) 8)) (L, S) hP hD hS (by omega) (by omega) ⟨rfl, hC⟩ dL_inGoblets_25
    | succ d ih =>
      intro i L S H locs ls hi hC hP hD hS hl
      have hi8 : i < 8 := by omega
      refine lv_iload_n hx hb dL_inGoblets_4 rfl (lv_at hl 2 rfl) ?_
      refine lv_bipush (v := nI 8) hx hb dL_inGoblets_5 (by decide) ?_
      refine lv_icmp_ge (tgt := 24) hx hb dL_inGoblets_7 (by decide) (fun c9 => absurd c9 (z_nle (by omega) (by omega))) (fun _ => ?_)
      refine lv_iload_n hx hb dL_inGoblets_10 rfl (lv_at hl 1 rfl) ?_
      refine lv_aload_n hx hb dL_inGoblets_11 rfl (lv_at hl 0 rfl) ?_
      refine lv_iload_n hx hb dL_inGoblets_12 rfl (lv_at hl 2 rfl) ?_
      refine g_xcalli (vx_runV (As := [.int (nI i)]) (rest := [.int (nI (gsum (fun q => gct P (nI q) 5000) i))]) ⟨hx, hb, hml, hown, hts⟩ (c_inGoblet l hl9 D tys [gO h0 lo (nI n) 1] L S H.size (i := 0) rfl hC (nI i)) (cwV 1 hts gL_inGoblets_X1_inGoblet rfl rfl rfl (by decide +kernel) ⟨Nat.le_of_ble_eq_true rfl, Nat.le_of_ble_eq_true rfl⟩) (gP_V (va_recv hK hP (ci := 1) rfl (g_inX (X := [gO h0 lo (nI n) 1]) (i := 0) rfl)) hP hK hD gBl_G (fun U hU hW => gG.call hGG hS (gA_sub hD hS hA) U hU hW)) rfl rfl hl.1 rfl (lv_room (Nat.le_of_ble_eq_true rfl)) dL_inGoblets_13 ⟨by show i + 1 ≤ 8; omega, by show 6 * i + 6 ≤ 48; omega⟩) hD hS hA (fun E ce q9 u9 H locs hc hP hD hS e1 e2 e3 => False.elim (hc.1.2 (h_gob hi8))) (fun r9 u9 H locs hr9 hP hD hS => ?_)
      obtain ⟨⟨-, hr9⟩, hC⟩ := hr9
      obtain ⟨L, S⟩ := u9
      have hP : va_P D vwCl ([gO h0 lo (nI n) 1] ++ va_pl L (gE S)) H := hP
      have hD : va_D (va_A ([gO h0 lo (nI n) 1] ++ va_pl L0 (gE S0)) s.heap.size) ([gO h0 lo (nI n) 1] ++ va_pl L (gE S)) := hD
      have hr9 : r9 = nI (gct P (nI i) 5000) := hr9
      subst hr9
      refine lv_iadd hx hb dL_inGoblets_16 ?_
      refine g_top (y := nI ((gsum (fun q => gct P (nI q) 5000) i) + (gct P (nI i) 5000))) (nI_add _ _) ?_
      refine g_top (y := nI (gsum (fun q => gct P (nI q) 5000) (i + 1))) (rfl) ?_
      refine lv_istore_n (lv' := [(1, .int (nI (gsum (fun q => gct P (nI q) 5000) (i + 1)))), (0, .ref h0), (2, .int (nI i))]) hx hb dL_inGoblets_17 rfl hl (by decide) rfl (fun ls hl => ?_)
      refine lv_iinc (v := nI (i + 1)) (lv' := [(2, .int (nI (i + 1))), (1, .int (nI (gsum (fun q => gct P (nI q) 5000) (i + 1)))), (0, .ref h0)]) hx hb dL_inGoblets_18 hl (k := 2) rfl (nI_1 _) (by decide) rfl (fun ls hl => ?_)
      refine lv_goto (tgt := 4) hx hb dL_inGoblets_21 (by decide) ?_
      refine W.widen (k := (i + 1)) (n := (6 * (i + 1))) (by omega) (by omega) ?_
      exact ih (i + 1) L S H locs ls (by omega) hC hP hD hS (lv_sub hl [2, 1, 0] rfl)
  exact hloop 8 0 L0 S0 s.heap [] ls rfl hC hP hD hS (lv_sub hl [2, 1, 0] rfl)
end
section
/-! p25: isAllSomewhere -/
set_option maxHeartbeats 4000000 in
set_option maxRecDepth 100000 in
/-- isAllSomewhere: every number is at one place -/
theorem w_isAllSomewhere (l : Launch) (hl9 : l.stackTraces = false) (D : va_G) (tys : List (ClassId × FieldType)) (L0 : List Nat) (S0 : gS) (sz : Nat) {P : Nat → Int32} {n h0 lo : Nat} (hC : gCh P lo (L0, S0)) (hI : gInv P n)  : Met l yL_isAllSomewhere wsL_isAllSomewhere ({ frames := 9, cells := 60, slots := 340, locals := 200 } : Room) (gP D tys [.ref h0] ([gO h0 lo (nI n) 1] ++ va_pl L0 (gE S0)) sz (gG (va_A ([gO h0 lo (nI n) 1] ++ va_pl L0 (gE S0)) sz))) (va_Qi (fun (r : Int32) (u : List Nat × gS) => r = nI 1 ∧ gCh P lo u) (fun u t => gWd D tys (va_A ([gO h0 lo (nI n) 1] ++ va_pl L0 (gE S0)) sz) ([gO h0 lo (nI n) 1] ++ va_pl u.1 (gE u.2)) t) (va_A ([gO h0 lo (nI n) 1] ++ va_pl L0 (gE S0)) sz)) 60 340 (va_A ([gO h0 lo (nI n) 1] ++ va_pl L0 (gE S0)) sz) := by
  refine g_ofW (cc := cL_isAllSomewhere) (maxL := 5) (ret := some .boolean) (by decide) rfl (Nat.le_of_ble_eq_true rfl) ?_
  intro p e s m below meth c hx hb hr hml hts hown hlocks hin hsz hP hK hD hA hS hGG ls hl
  subst hsz
  have hown : s.vm.findClass RL = some m.cls := hown
  have hev := hI.1
  have hn1 := hI.1.1
  have hn2 := hI.2.1
  have hl : lv_has ls 5 [(0, .ref h0)] := hl
  have hsum := h_sum hI
  have hP1 := hI.1.2.2.2 1 (by omega) (by omega)
  have hloop : ∀ (d i : Nat) (L : List Nat) (S : gS) (H : Heap) (locs : List Loc) (ls : Array Slot), i + d = 8 → gCh P lo (L, S) → va_P D vwCl ([gO h0 lo (nI n) 1] ++ va_pl L (gE S)) H → va_D (va_A ([gO h0 lo (nI n) 1] ++ va_pl L0 (gE S0)) s.heap.size) ([gO h0 lo (nI n) 1] ++ va_pl L (gE S)) → va_S (va_A ([gO h0 lo (nI n) 1] ++ va_pl L0 (gE S0)) s.heap.size) s.heap H locs → lv_has ls 5 [(0, .ref h0), (2, .int (nI 1)), (3, .int (nI i))] → W p l e ({ frames := 9, cells := 60, slots := 340, locals := 200 } : Room) s m ([.ref h0] : List Value).toArray below meth c H locs (8 + 6 * i) (48 + 36 * i) (MQ below (va_Qi (fun (r : Int32) (u : List Nat × gS) => r = nI 1 ∧ gCh P lo u) (fun u t => gWd D tys (va_A ([gO h0 lo (nI n) 1] ++ va_pl L0 (gE S0)) s.heap.size) ([gO h0 lo (nI n) 1] ++ va_pl u.1 (gE u.2)) t) (va_A ([gO h0 lo (nI n) 1] ++ va_pl L0 (gE S0)) s.heap.size)) ([.ref h0] : List Value).toArray s 60 340 (va_A ([gO h0 lo (nI n) 1] ++ va_pl L0 (gE S0)) s.heap.size)) (F0 m 90 ls []) := by
    intro d
    induction d with
    | zero =>
      intro i L S H locs ls hi hC hP hD hS hl
      refine lv_iload_n hx hb dL_isAllSomewhere_90 rfl (lv_at hl 2 rfl) ?_
      refine lv_bipush (v := nI 8) hx hb dL_isAllSomewhere_91 (by decide) ?_
      refine lv_icmp_ge (tgt := 207) hx hb dL_isAllSomewhere_93 (by decide) (fun _ => ?_) (fun c9 => absurd (z_le (by omega) (by omega)) c9)
      refine lv_iload_n hx hb dL_isAllSomewhere_207 rfl (lv_at hl 1 rfl) ?_
      exact g_retz (wo := fun u : List Nat × gS => [gO h0 lo (nI n) 1] ++ va_pl u.1 (gE u.2)) hx hb hr hlocks hK (nI 1) rfl (L, S) hP hD hS (by omega) (by omega) ⟨rfl, hC⟩ dL_isAllSomewhere_208
    | succ d ih =>
      intro i L S H locs ls hi hC hP hD hS hl
      have hi8 : i < 8 := by omega
      have hg1 := h_few hev (k := i) (by omega)
      have hg2 := gbg_ct P (nI i) 5000
      have hg3 := gbg_iff (P := P) (p := nI i) (m := 5000) (h_0p hev (by omega))
      have hg4 := h_few hev (k := 8) (by omega)
      have hj195 : ∀ (L : List Nat) (S : gS) (H : Heap) (locs : List Loc) (ls : Array Slot), gCh P lo (L, S) → va_P D vwCl ([gO h0 lo (nI n) 1] ++ va_pl L (gE S)) H → va_D (va_A ([gO h0 lo (nI n) 1] ++ va_pl L0 (gE S0)) s.heap.size) ([gO h0 lo (nI n) 1] ++ va_pl L (gE S)) → va_S (va_A ([gO h0 lo (nI n) 1] ++ va_pl L0 (gE S0)) s.heap.size) s.heap H locs → lv_has ls 5 [(0, .ref h0), (2, .int (nI 1)), (3, .int (nI i))] → W p l e ({ frames := 9, cells := 60, slots := 340, locals := 200 } : Room) s m ([.ref h0] : List Value).toArray below meth c H locs (8 + 6 * i + 6) (48 + 36 * i + 36) (MQ below (va_Qi (fun (r : Int32) (u : List Nat × gS) => r = nI 1 ∧ gCh P lo u) (fun u t => gWd D tys (va_A ([gO h0 lo (nI n) 1] ++ va_pl L0 (gE S0)) s.heap.size) ([gO h0 lo (nI n) 1] ++ va_pl u.1 (gE u.2)) t) (va_A ([gO h0 lo (nI n) 1] ++ va_pl L0 (gE S0)) s.heap.size)) ([.ref h0] : List Value).toArray s 60 340 (va_A ([gO h0 lo (nI n) 1] ++ va_pl L0 (gE S0)) s.heap.size)) (F0 m 195 ls []) := by
        intro L S H locs ls hC hP hD hS hl
        refine lv_iconst (v := nI 1) hx hb dL_isAllSomewhere_195 (by decide) ?_
        refine lv_goto (tgt := 200) hx hb dL_isAllSomewhere_196 (by decide) ?_
        refine lv_istore_n (lv' := [(2, .int (nI 1)), (0, .ref h0), (3, .int (nI i))]) hx hb dL_isAllSomewhere_200 rfl hl (by decide) rfl (fun ls hl => ?_)
        refine lv_iinc (v := nI (i + 1)) (lv' := [(3, .int (nI (i + 1))), (2, .int (nI 1)), (0, .ref h0)]) hx hb dL_isAllSomewhere_201 hl (k := 2) rfl (nI_1 _) (by decide) rfl (fun ls hl => ?_)
        refine lv_goto (tgt := 90) hx hb dL_isAllSomewhere_204 (by decide) ?_
        refine W.widen (k := (8 + 6 * (i + 1))) (n := (48 + 36 * (i + 1))) (by omega) (by omega) ?_
        exact ih (i + 1) L S H locs ls (by omega) hC hP hD hS (lv_sub hl [2, 1, 0] rfl)
      refine lv_iload_n hx hb dL_isAllSomewhere_90 rfl (lv_at hl 2 rfl) ?_
      refine lv_bipush (v := nI 8) hx hb dL_isAllSomewhere_91 (by decide) ?_
      refine lv_icmp_ge (tgt := 207) hx hb dL_isAllSomewhere_93 (by decide) (fun c9 => absurd c9 (z_nle (by omega) (by omega))) (fun _ => ?_)
      refine lv_aload_n hx hb dL_isAllSomewhere_96 rfl (lv_at hl 0 rfl) ?_
      refine lv_iload_n hx hb dL_isAllSomewhere_97 rfl (lv_at hl 2 rfl) ?_
      refine g_xcalli (vx_runV (As := [.int (nI i)]) (rest := []) ⟨hx, hb, hml, hown, hts⟩ (c_nextOf l hl9 D tys [gO h0 lo (nI n) 1] L S H.size (i := 0) rfl hC (nI i)) (cwV 1 hts gL_isAllSomewhere_X1_nextOf rfl rfl rfl (by decide +kernel) ⟨Nat.le_of_ble_eq_true rfl, Nat.le_of_ble_eq_true rfl⟩) (gP_V (va_recv hK hP (ci := 1) rfl (g_inX (X := [gO h0 lo (nI n) 1]) (i := 0) rfl)) hP hK hD gBl_G (fun U hU hW => gG.call hGG hS (gA_sub hD hS hA) U hU hW)) rfl rfl hl.1 rfl (lv_room (Nat.le_of_ble_eq_true rfl)) dL_isAllSomewhere_98 ⟨by show (8 + 6 * i) + 1 ≤ 60; omega, by show (48 + 36 * i) + 6 ≤ 340; omega⟩) hD hS hA (fun E ce q9 u9 H locs hc hP hD hS e1 e2 e3 => False.elim (hc.1.2 (h_gob hi8))) (fun r9 u9 H locs hr9 hP hD hS => ?_)
      obtain ⟨⟨-, v, y, hv, hy, hr9⟩, hC⟩ := hr9
      obtain ⟨L, S⟩ := u9
      have hP : va_P D vwCl ([gO h0 lo (nI n) 1] ++ va_pl L (gE S)) H := hP
      have hD : va_D (va_A ([gO h0 lo (nI n) 1] ++ va_pl L0 (gE S0)) s.heap.size) ([gO h0 lo (nI n) 1] ++ va_pl L (gE S)) := hD
      have hr9 : r9 = nI (if v = 0 then y else v) := hr9
      subst hr9
      have hv1 := glow_ct hv
      have hy1 := glow_ct hy
      by_cases hv0 : v = 0
      · have hg0 : gct P (nI i) 5000 = 0 := hv1.mp hv0
        by_cases hy0 : y = 0
        · have hj0 : gct P 8 5000 = 0 := hy1.mp hy0
          refine g_top (y := nI 0) (by rw [if_pos hv0, hy0]) ?_
          refine lv_istore (lv' := [(4, .int (nI 0)), (0, .ref h0), (2, .int (nI 1)), (3, .int (nI i))]) hx hb dL_isAllSomewhere_101 hl (by decide) rfl (fun ls hl => ?_)
          refine lv_iload_n hx hb dL_isAllSomewhere_103 rfl (lv_at hl 2 rfl) ?_
          refine lv_if_eq (tgt := 199) hx hb dL_isAllSomewhere_104 (by decide) (fun c9 => absurd c9 (by decide)) (fun _ => ?_)
          refine lv_aload_n hx hb dL_isAllSomewhere_107 rfl (lv_at hl 1 rfl) ?_
          refine lv_iload_n hx hb dL_isAllSomewhere_108 rfl (lv_at hl 3 rfl) ?_
          refine g_xcalli (vx_runV (As := [.int (nI i)]) (rest := []) ⟨hx, hb, hml, hown, hts⟩ (c_inGoblet l hl9 D tys [gO h0 lo (nI n) 1] L S H.size (i := 0) rfl hC (nI i)) (cwV 1 hts gL_isAllSomewhere_X1_inGoblet rfl rfl rfl (by decide +kernel) ⟨Nat.le_of_ble_eq_true rfl, Nat.le_of_ble_eq_true rfl⟩) (gP_V (va_recv hK hP (ci := 1) rfl (g_inX (X := [gO h0 lo (nI n) 1]) (i := 0) rfl)) hP hK hD gBl_G (fun U hU hW => gG.call hGG hS (gA_sub hD hS hA) U hU hW)) rfl rfl hl.1 rfl (lv_room (Nat.le_of_ble_eq_true rfl)) dL_isAllSomewhere_109 ⟨by show (8 + 6 * i) + 1 + 1 ≤ 60; omega, by show (48 + 36 * i) + 6 + 6 ≤ 340; omega⟩) hD hS hA (fun E ce q9 u9 H locs hc hP hD hS e1 e2 e3 => False.elim (hc.1.2 (h_gob hi8))) (fun r9 u9 H locs hr9 hP hD hS => ?_)
          obtain ⟨⟨-, hr9⟩, hC⟩ := hr9
          obtain ⟨L, S⟩ := u9
          have hP : va_P D vwCl ([gO h0 lo (nI n) 1] ++ va_pl L (gE S)) H := hP
          have hD : va_D (va_A ([gO h0 lo (nI n) 1] ++ va_pl L0 (gE S0)) s.heap.size) ([gO h0 lo (nI n) 1] ++ va_pl L (gE S)) := hD
          have hr9 : r9 = nI (gct P (nI i) 5000) := hr9
          subst hr9
          refine lv_if_ne (tgt := 119) hx hb dL_isAllSomewhere_112 (by decide) (fun c9 => absurd (z_eq (b := 0) (by omega)) c9) (fun _ => ?_)
          refine lv_iconst (v := nI 1) hx hb dL_isAllSomewhere_115 (by decide) ?_
          refine lv_goto (tgt := 120) hx hb dL_isAllSomewhere_116 (by decide) ?_
          refine lv_aload_n hx hb dL_isAllSomewhere_120 rfl (lv_at hl 1 rfl) ?_
          refine lv_iload_n hx hb dL_isAllSomewhere_121 rfl (lv_at hl 3 rfl) ?_
          refine g_xcalli (vx_runV (As := [.int (nI i)]) (rest := [.int (nI 1)]) ⟨hx, hb, hml, hown, hts⟩ (c_rangesOf l hl9 D tys [gO h0 lo (nI n) 1] L S H.size (i := 0) rfl hC (nI i) (h_0 hev)) (cwV 1 hts gL_isAllSomewhere_X1_rangesOf rfl rfl rfl (by decide +kernel) ⟨Nat.le_of_ble_eq_true rfl, Nat.le_of_ble_eq_true rfl⟩) (gP_V (va_recv hK hP (ci := 1) rfl (g_inX (X := [gO h0 lo (nI n) 1]) (i := 0) rfl)) hP hK hD gBl_G (fun U hU hW => gG.call hGG hS (gA_sub hD hS hA) U hU hW)) rfl rfl hl.1 rfl (lv_room (Nat.le_of_ble_eq_true rfl)) dL_isAllSomewhere_122 ⟨by show (8 + 6 * i) + 1 + 1 + 1 ≤ 60; omega, by show (48 + 36 * i) + 6 + 6 + 6 ≤ 340; omega⟩) hD hS hA (fun E ce q9 u9 H locs hc hP hD hS e1 e2 e3 => False.elim (hc.1.2 (h_gob hi8))) (fun r9 u9 H locs hr9 hP hD hS => ?_)
          obtain ⟨⟨-, hr9⟩, hC⟩ := hr9
          obtain ⟨L, S⟩ := u9
          have hP : va_P D vwCl ([gO h0 lo (nI n) 1] ++ va_pl L (gE S)) H := hP
          have hD : va_D (va_A ([gO h0 lo (nI n) 1] ++ va_pl L0 (gE S0)) s.heap.size) ([gO h0 lo (nI n) 1] ++ va_pl L (gE S)) := hD
          have hr9 : r9 = nI (gbg P (nI i) 5000) := hr9
          subst hr9
          refine lv_if_ne (tgt := 132) hx hb dL_isAllSomewhere_125 (by decide) (fun c9 => absurd (z_eq (b := 0) (by omega)) c9) (fun _ => ?_)
          refine lv_iconst (v := nI 1) hx hb dL_isAllSomewhere_128 (by decide) ?_
          refine lv_goto (tgt := 133) hx hb dL_isAllSomewhere_129 (by decide) ?_
          refine lv_icmp_ne (tgt := 199) hx hb dL_isAllSomewhere_133 (by decide) (fun c9 => absurd (rfl) c9) (fun _ => ?_)
          refine lv_aload_n hx hb dL_isAllSomewhere_136 rfl (lv_at hl 1 rfl) ?_
          refine lv_iload_n hx hb dL_isAllSomewhere_137 rfl (lv_at hl 3 rfl) ?_
          refine g_xcalli (vx_runV (As := [.int (nI i)]) (rest := []) ⟨hx, hb, hml, hown, hts⟩ (c_rangesOf l hl9 D tys [gO h0 lo (nI n) 1] L S H.size (i := 0) rfl hC (nI i) (h_0 hev)) (cwV 1 hts gL_isAllSomewhere_X1_rangesOf rfl rfl rfl (by decide +kernel) ⟨Nat.le_of_ble_eq_true rfl, Nat.le_of_ble_eq_true rfl⟩) (gP_V (va_recv hK hP (ci := 1) rfl (g_inX (X := [gO h0 lo (nI n) 1]) (i := 0) rfl)) hP hK hD gBl_G (fun U hU hW => gG.call hGG hS (gA_sub hD hS hA) U hU hW)) rfl rfl hl.1 rfl (lv_room (Nat.le_of_ble_eq_true rfl)) dL_isAllSomewhere_138 ⟨by show (8 + 6 * i) + 1 + 1 + 1 + 1 ≤ 60; omega, by show (48 + 36 * i) + 6 + 6 + 6 + 6 ≤ 340; omega⟩) hD hS hA (fun E ce q9 u9 H locs hc hP hD hS e1 e2 e3 => False.elim (hc.1.2 (h_gob hi8))) (fun r9 u9 H locs hr9 hP hD hS => ?_)
          obtain ⟨⟨-, hr9⟩, hC⟩ := hr9
          obtain ⟨L, S⟩ := u9
          have hP : va_P D vwCl ([gO h0 lo (nI n) 1] ++ va_pl L (gE S)) H := hP
          have hD : va_D (va_A ([gO h0 lo (nI n) 1] ++ va_pl L0 (gE S0)) s.heap.size) ([gO h0 lo (nI n) 1] ++ va_pl L (gE S)) := hD
          have hr9 : r9 = nI (gbg P (nI i) 5000) := hr9
          subst hr9
          refine lv_aload_n hx hb dL_isAllSomewhere_141 rfl (lv_at hl 1 rfl) ?_
          refine lv_iload_n hx hb dL_isAllSomewhere_142 rfl (lv_at hl 3 rfl) ?_
          refine g_xcalli (vx_runV (As := [.int (nI i)]) (rest := [.int (nI (gbg P (nI i) 5000))]) ⟨hx, hb, hml, hown, hts⟩ (c_inGoblet l hl9 D tys [gO h0 lo (nI n) 1] L S H.size (i := 0) rfl hC (nI i)) (cwV 1 hts gL_isAllSomewhere_X1_inGoblet rfl rfl rfl (by decide +kernel) ⟨Nat.le_of_ble_eq_true rfl, Nat.le_of_ble_eq_true rfl⟩) (gP_V (va_recv hK hP (ci := 1) rfl (g_inX (X := [gO h0 lo (nI n) 1]) (i := 0) rfl)) hP hK hD gBl_G (fun U hU hW => gG.call hGG hS (gA_sub hD hS hA) U hU hW)) rfl rfl hl.1 rfl (lv_room (Nat.le_of_ble_eq_true rfl)) dL_isAllSomewhere_143 ⟨by show (8 + 6 * i) + 1 + 1 + 1 + 1 + 1 ≤ 60; omega, by show (48 + 36 * i) + 6 + 6 + 6 + 6 + 6 ≤ 340; omega⟩) hD hS hA (fun E ce q9 u9 H locs hc hP hD hS e1 e2 e3 => False.elim (hc.1.2 (h_gob hi8))) (fun r9 u9 H locs hr9 hP hD hS => ?_)
          obtain ⟨⟨-, hr9⟩, hC⟩ := hr9
          obtain ⟨L, S⟩ := u9
          have hP : va_P D vwCl ([gO h0 lo (nI n) 1] ++ va_pl L (gE S)) H := hP
          have hD : va_D (va_A ([gO h0 lo (nI n) 1] ++ va_pl L0 (gE S0)) s.heap.size) ([gO h0 lo (nI n) 1] ++ va_pl L (gE S)) := hD
          have hr9 : r9 = nI (gct P (nI i) 5000) := hr9
          subst hr9
          refine lv_icmp_gt (tgt := 199) hx hb dL_isAllSomewhere_146 (by decide) (fun c9 => absurd c9 (z_nlt (by omega) (by omega))) (fun _ => ?_)
          refine lv_iload hx hb dL_isAllSomewhere_149 (lv_at hl 0 rfl) ?_
          refine lv_if_ne (tgt := 172) hx hb dL_isAllSomewhere_151 (by decide) (fun c9 => absurd (rfl) c9) (fun _ => ?_)
          refine lv_aload_n hx hb dL_isAllSomewhere_154 rfl (lv_at hl 1 rfl) ?_
          refine g_calli (va_runV (As := []) (rest := []) ⟨hx, hb, hml, hown, hts⟩ (c_inJug l D tys [gO h0 lo (nI n) 1] L S H.size (i := 0) rfl hC) (cwV 0 hts gL_isAllSomewhere_X1_inJug rfl rfl rfl (by decide +kernel) ⟨Nat.le_of_ble_eq_true rfl, Nat.le_of_ble_eq_true rfl⟩) (gP_V (va_recv hK hP (ci := 1) rfl (g_inX (X := [gO h0 lo (nI n) 1]) (i := 0) rfl)) hP hK hD gBl_N (fun U _ hW => hGG.1.warm hW)) rfl rfl hl.1 rfl (lv_room (Nat.le_of_ble_eq_true rfl)) dL_isAllSomewhere_155 ⟨by show (8 + 6 * i) + 1 + 1 + 1 + 1 + 1 + 0 ≤ 60; omega, by show (48 + 36 * i) + 6 + 6 + 6 + 6 + 6 + 0 ≤ 340; omega⟩) hD hS hA (fun r9 u9 H locs hr9 hP hD hS => ?_)
          have hP : va_P D vwCl ([gO h0 lo (nI n) 1] ++ va_pl L (gE S)) H := hP
          have hD : va_D (va_A ([gO h0 lo (nI n) 1] ++ va_pl L0 (gE S0)) s.heap.size) ([gO h0 lo (nI n) 1] ++ va_pl L (gE S)) := hD
          have hr9 : r9 = nI (gct P 8 5000) := hr9
          subst hr9
          refine lv_if_ne (tgt := 199) hx hb dL_isAllSomewhere_158 (by decide) (fun c9 => absurd (z_eq (b := 0) (by omega)) c9) (fun _ => ?_)
          refine lv_aload_n hx hb dL_isAllSomewhere_161 rfl (lv_at hl 1 rfl) ?_
          refine lv_iload_n hx hb dL_isAllSomewhere_162 rfl (lv_at hl 3 rfl) ?_
          refine g_xcalli (vx_runV (As := [.int (nI i)]) (rest := []) ⟨hx, hb, hml, hown, hts⟩ (c_inGoblet l hl9 D tys [gO h0 lo (nI n) 1] L S H.size (i := 0) rfl hC (nI i)) (cwV 1 hts gL_isAllSomewhere_X1_inGoblet rfl rfl rfl (by decide +kernel) ⟨Nat.le_of_ble_eq_true rfl, Nat.le_of_ble_eq_true rfl⟩) (gP_V (va_recv hK hP (ci := 1) rfl (g_inX (X := [gO h0 lo (nI n) 1]) (i := 0) rfl)) hP hK hD gBl_G (fun U hU hW => gG.call hGG hS (gA_sub hD hS hA) U hU hW)) rfl rfl hl.1 rfl (lv_room (Nat.le_of_ble_eq_true rfl)) dL_isAllSomewhere_163 ⟨by show (8 + 6 * i) + 1 + 1 + 1 + 1 + 1 + 0 + 1 ≤ 60; omega, by show (48 + 36 * i) + 6 + 6 + 6 + 6 + 6 + 0 + 6 ≤ 340; omega⟩) hD hS hA (fun E ce q9 u9 H locs hc hP hD hS e1 e2 e3 => False.elim (hc.1.2 (h_gob hi8))) (fun r9 u9 H locs hr9 hP hD hS => ?_)
          obtain ⟨⟨-, hr9⟩, hC⟩ := hr9
          obtain ⟨L, S⟩ := u9
          have hP : va_P D vwCl ([gO h0 lo (nI n) 1] ++ va_pl L (gE S)) H := hP
          have hD : va_D (va_A ([gO h0 lo (nI n) 1] ++ va_pl L0 (gE S0)) s.heap.size) ([gO h0 lo (nI n) 1] ++ va_pl L (gE S)) := hD
          have hr9 : r9 = nI (gct P (nI i) 5000) := hr9
          subst hr9
          refine lv_if_ne (tgt := 199) hx hb dL_isAllSomewhere_166 (by decide) (fun c9 => absurd (z_eq (b := 0) (by omega)) c9) (fun _ => ?_)
          refine lv_goto (tgt := 195) hx hb dL_isAllSomewhere_169 (by decide) ?_
          refine W.widen (k := (8 + 6 * i + 6)) (n := (48 + 36 * i + 36)) (by omega) (by omega) ?_
          exact hj195 L S H locs ls hC hP hD hS (lv_sub hl [1, 2, 3] rfl)
        · have hya := glow_at hy hy0
          refine g_top (y := nI y) (by rw [if_pos hv0]) ?_
          refine lv_istore (lv' := [(4, .int (nI y)), (0, .ref h0), (2, .int (nI 1)), (3, .int (nI i))]) hx hb dL_isAllSomewhere_101 hl (by decide) rfl (fun ls hl => ?_)
          refine lv_iload_n hx hb dL_isAllSomewhere_103 rfl (lv_at hl 2 rfl) ?_
          refine lv_if_eq (tgt := 199) hx hb dL_isAllSomewhere_104 (by decide) (fun c9 => absurd c9 (by decide)) (fun _ => ?_)
          refine lv_aload_n hx hb dL_isAllSomewhere_107 rfl (lv_at hl 1 rfl) ?_
          refine lv_iload_n hx hb dL_isAllSomewhere_108 rfl (lv_at hl 3 rfl) ?_
          refine g_xcalli (vx_runV (As := [.int (nI i)]) (rest := []) ⟨hx, hb, hml, hown, hts⟩ (c_inGoblet l hl9 D tys [gO h0 lo (nI n) 1] L S H.size (i := 0) rfl hC (nI i)) (cwV 1 hts gL_isAllSomewhere_X1_inGoblet rfl rfl rfl (by decide +kernel) ⟨Nat.le_of_ble_eq_true rfl, Nat.le_of_ble_eq_true rfl⟩) (gP_V (va_recv hK hP (ci := 1) rfl (g_inX (X := [gO h0 lo (nI n) 1]) (i := 0) rfl)) hP hK hD gBl_G (fun U hU hW => gG.call hGG hS (gA_sub hD hS hA) U hU hW)) rfl rfl hl.1 rfl (lv_room (Nat.le_of_ble_eq_true rfl)) dL_isAllSomewhere_109 ⟨by show (8 + 6 * i) + 1 + 1 ≤ 60; omega, by show (48 + 36 * i) + 6 + 6 ≤ 340; omega⟩) hD hS hA (fun E ce q9 u9 H locs hc hP hD hS e1 e2 e3 => False.elim (hc.1.2 (h_gob hi8))) (fun r9 u9 H locs hr9 hP hD hS => ?_)
          obtain ⟨⟨-, hr9⟩, hC⟩ := hr9
          obtain ⟨L, S⟩ := u9
          have hP : va_P D vwCl ([gO h0 lo (nI n) 1] ++ va_pl L (gE S)) H := hP
          have hD : va_D (va_A ([gO h0 lo (nI n) 1] ++ va_pl L0 (gE S0)) s.heap.size) ([gO h0 lo (nI n) 1] ++ va_pl L (gE S)) := hD
          have hr9 : r9 = nI (gct P (nI i) 5000) := hr9
          subst hr9
          refine lv_if_ne (tgt := 119) hx hb dL_isAllSomewhere_112 (by decide) (fun c9 => absurd (z_eq (b := 0) (by omega)) c9) (fun _ => ?_)
          refine lv_iconst (v := nI 1) hx hb dL_isAllSomewhere_115 (by decide) ?_
          refine lv_goto (tgt := 120) hx hb dL_isAllSomewhere_116 (by decide) ?_
          refine lv_aload_n hx hb dL_isAllSomewhere_120 rfl (lv_at hl 1 rfl) ?_
          refine lv_iload_n hx hb dL_isAllSomewhere_121 rfl (lv_at hl 3 rfl) ?_
          refine g_xcalli (vx_runV (As := [.int (nI i)]) (rest := [.int (nI 1)]) ⟨hx, hb, hml, hown, hts⟩ (c_rangesOf l hl9 D tys [gO h0 lo (nI n) 1] L S H.size (i := 0) rfl hC (nI i) (h_0 hev)) (cwV 1 hts gL_isAllSomewhere_X1_rangesOf rfl rfl rfl (by decide +kernel) ⟨Nat.le_of_ble_eq_true rfl, Nat.le_of_ble_eq_true rfl⟩) (gP_V (va_recv hK hP (ci := 1) rfl (g_inX (X := [gO h0 lo (nI n) 1]) (i := 0) rfl)) hP hK hD gBl_G (fun U hU hW => gG.call hGG hS (gA_sub hD hS hA) U hU hW)) rfl rfl hl.1 rfl (lv_room (Nat.le_of_ble_eq_true rfl)) dL_isAllSomewhere_122 ⟨by show (8 + 6 * i) + 1 + 1 + 1 ≤ 60; omega, by show (48 + 36 * i) + 6 + 6 + 6 ≤ 340; omega⟩) hD hS hA (fun E ce q9 u9 H locs hc hP hD hS e1 e2 e3 => False.elim (hc.1.2 (h_gob hi8))) (fun r9 u9 H locs hr9 hP hD hS => ?_)
          obtain ⟨⟨-, hr9⟩, hC⟩ := hr9
          obtain ⟨L, S⟩ := u9
          have hP : va_P D vwCl ([gO h0 lo (nI n) 1] ++ va_pl L (gE S)) H := hP
          have hD : va_D (va_A ([gO h0 lo (nI n) 1] ++ va_pl L0 (gE S0)) s.heap.size) ([gO h0 lo (nI n) 1] ++ va_pl L (gE S)) := hD
          have hr9 : r9 = nI (gbg P (nI i) 5000) := hr9
          subst hr9
          refine lv_if_ne (tgt := 132) hx hb dL_isAllSomewhere_125 (by decide) (fun c9 => absurd (z_eq (b := 0) (by omega)) c9) (fun _ => ?_)
          refine lv_iconst (v := nI 1) hx hb dL_isAllSomewhere_128 (by decide) ?_
          refine lv_goto (tgt := 133) hx hb dL_isAllSomewhere_129 (by decide) ?_
          refine lv_icmp_ne (tgt := 199) hx hb dL_isAllSomewhere_133 (by decide) (fun c9 => absurd (rfl) c9) (fun _ => ?_)
          refine lv_aload_n hx hb dL_isAllSomewhere_136 rfl (lv_at hl 1 rfl) ?_
          refine lv_iload_n hx hb dL_isAllSomewhere_137 rfl (lv_at hl 3 rfl) ?_
          refine g_xcalli (vx_runV (As := [.int (nI i)]) (rest := []) ⟨hx, hb, hml, hown, hts⟩ (c_rangesOf l hl9 D tys [gO h0 lo (nI n) 1] L S H.size (i := 0) rfl hC (nI i) (h_0 hev)) (cwV 1 hts gL_isAllSomewhere_X1_rangesOf rfl rfl rfl (by decide +kernel) ⟨Nat.le_of_ble_eq_true rfl, Nat.le_of_ble_eq_true rfl⟩) (gP_V (va_recv hK hP (ci := 1) rfl (g_inX (X := [gO h0 lo (nI n) 1]) (i := 0) rfl)) hP hK hD gBl_G (fun U hU hW => gG.call hGG hS (gA_sub hD hS hA) U hU hW)) rfl rfl hl.1 rfl (lv_room (Nat.le_of_ble_eq_true rfl)) dL_isAllSomewhere_138 ⟨by show (8 + 6 * i) + 1 + 1 + 1 + 1 ≤ 60; omega, by show (48 + 36 * i) + 6 + 6 + 6 + 6 ≤ 340; omega⟩) hD hS hA (fun E ce q9 u9 H locs hc hP hD hS e1 e2 e3 => False.elim (hc.1.2 (h_gob hi8))) (fun r9 u9 H locs hr9 hP hD hS => ?_)
          obtain ⟨⟨-, hr9⟩, hC⟩ := hr9
          obtain ⟨L, S⟩ := u9
          have hP : va_P D vwCl ([gO h0 lo (nI n) 1] ++ va_pl L (gE S)) H := hP
          have hD : va_D (va_A ([gO h0 lo (nI n) 1] ++ va_pl L0 (gE S0)) s.heap.size) ([gO h0 lo (nI n) 1] ++ va_pl L (gE S)) := hD
          have hr9 : r9 = nI (gbg P (nI i) 5000) := hr9
          subst hr9
          refine lv_aload_n hx hb dL_isAllSomewhere_141 rfl (lv_at hl 1 rfl) ?_
          refine lv_iload_n hx hb dL_isAllSomewhere_142 rfl (lv_at hl 3 rfl) ?_
          refine g_xcalli (vx_runV (As := [.int (nI i)]) (rest := [.int (nI (gbg P (nI i) 5000))]) ⟨hx, hb, hml, hown, hts⟩ (c_inGoblet l hl9 D tys [gO h0 lo (nI n) 1] L S H.size (i := 0) rfl hC (nI i)) (cwV 1 hts gL_isAllSomewhere_X1_inGoblet rfl rfl rfl (by decide +kernel) ⟨Nat.le_of_ble_eq_true rfl, Nat.le_of_ble_eq_true rfl⟩) (gP_V (va_recv hK hP (ci := 1) rfl (g_inX (X := [gO h0 lo (nI n) 1]) (i := 0) rfl)) hP hK hD gBl_G (fun U hU hW => gG.call hGG hS (gA_sub hD hS hA) U hU hW)) rfl rfl hl.1 rfl (lv_room (Nat.le_of_ble_eq_true rfl)) dL_isAllSomewhere_143 ⟨by show (8 + 6 * i) + 1 + 1 + 1 + 1 + 1 ≤ 60; omega, by show (48 + 36 * i) + 6 + 6 + 6 + 6 + 6 ≤ 340; omega⟩) hD hS hA (fun E ce q9 u9 H locs hc hP hD hS e1 e2 e3 => False.elim (hc.1.2 (h_gob hi8))) (fun r9 u9 H locs hr9 hP hD hS => ?_)
          obtain ⟨⟨-, hr9⟩, hC⟩ := hr9
          obtain ⟨L, S⟩ := u9
          have hP : va_P D vwCl ([gO h0 lo (nI n) 1] ++ va_pl L (gE S)) H := hP
          have hD : va_D (va_A ([gO h0 lo (nI n) 1] ++ va_pl L0 (gE S0)) s.heap.size) ([gO h0 lo (nI n) 1] ++ va_pl L (gE S)) := hD
          have hr9 : r9 = nI (gct P (nI i) 5000) := hr9
          subst hr9
          refine lv_icmp_gt (tgt := 199) hx hb dL_isAllSomewhere_146 (by decide) (fun c9 => absurd c9 (z_nlt (by omega) (by omega))) (fun _ => ?_)
          refine lv_iload hx hb dL_isAllSomewhere_149 (lv_at hl 0 rfl) ?_
          refine lv_if_ne (tgt := 172) hx hb dL_isAllSomewhere_151 (by decide) (fun _ => ?_) (fun c9 => absurd c9 (z_ne (b := 0) (by omega) (by omega) (by omega)))
          refine lv_aload_n hx hb dL_isAllSomewhere_172 rfl (lv_at hl 1 rfl) ?_
          refine lv_iload hx hb dL_isAllSomewhere_173 (lv_at hl 0 rfl) ?_
          obtain ⟨g9, hch9, hwf9, hmx9⟩ := id hC
          refine g_calli (va_runV (As := [.int (nI y)]) (rest := []) ⟨hx, hb, hml, hown, hts⟩ (c_place l D tys [gO h0 lo (nI n) 1] L S H.size (i := 0) rfl hwf9 hmx9 hch9 (nI y)) (cwV 1 hts gL_isAllSomewhere_X1_placeOf rfl rfl rfl (by decide +kernel) ⟨Nat.le_of_ble_eq_true rfl, Nat.le_of_ble_eq_true rfl⟩) (gP_V (va_recv hK hP (ci := 1) rfl (g_inX (X := [gO h0 lo (nI n) 1]) (i := 0) rfl)) hP hK hD gBl_N (fun U _ hW => hGG.1.warm hW)) rfl rfl hl.1 rfl (lv_room (Nat.le_of_ble_eq_true rfl)) dL_isAllSomewhere_175 ⟨by show (8 + 6 * i) + 1 + 1 + 1 + 1 + 1 + 0 ≤ 60; omega, by show (48 + 36 * i) + 6 + 6 + 6 + 6 + 6 + 0 ≤ 340; omega⟩) hD hS hA (fun r9 u9 H locs hr9 hP hD hS => ?_)
          have hP : va_P D vwCl ([gO h0 lo (nI n) 1] ++ va_pl L (gE S)) H := hP
          have hD : va_D (va_A ([gO h0 lo (nI n) 1] ++ va_pl L0 (gE S0)) s.heap.size) ([gO h0 lo (nI n) 1] ++ va_pl L (gE S)) := hD
          have hr9 : r9 = P y := rg_place hev (by omega) hr9
          subst hr9
          refine lv_aload_n hx hb dL_isAllSomewhere_178 rfl (lv_at hl 1 rfl) ?_
          refine lv_iload_n hx hb dL_isAllSomewhere_179 rfl (lv_at hl 3 rfl) ?_
          refine g_xcalli (vx_runV (As := [.int (nI i)]) (rest := [.int (P y)]) ⟨hx, hb, hml, hown, hts⟩ (c_inGoblet l hl9 D tys [gO h0 lo (nI n) 1] L S H.size (i := 0) rfl hC (nI i)) (cwV 1 hts gL_isAllSomewhere_X1_inGoblet rfl rfl rfl (by decide +kernel) ⟨Nat.le_of_ble_eq_true rfl, Nat.le_of_ble_eq_true rfl⟩) (gP_V (va_recv hK hP (ci := 1) rfl (g_inX (X := [gO h0 lo (nI n) 1]) (i := 0) rfl)) hP hK hD gBl_G (fun U hU hW => gG.call hGG hS (gA_sub hD hS hA) U hU hW)) rfl rfl hl.1 rfl (lv_room (Nat.le_of_ble_eq_true rfl)) dL_isAllSomewhere_180 ⟨by show (8 + 6 * i) + 1 + 1 + 1 + 1 + 1 + 0 + 1 ≤ 60; omega, by show (48 + 36 * i) + 6 + 6 + 6 + 6 + 6 + 0 + 6 ≤ 340; omega⟩) hD hS hA (fun E ce q9 u9 H locs hc hP hD hS e1 e2 e3 => False.elim (hc.1.2 (h_gob hi8))) (fun r9 u9 H locs hr9 hP hD hS => ?_)
          obtain ⟨⟨-, hr9⟩, hC⟩ := hr9
          obtain ⟨L, S⟩ := u9
          have hP : va_P D vwCl ([gO h0 lo (nI n) 1] ++ va_pl L (gE S)) H := hP
          have hD : va_D (va_A ([gO h0 lo (nI n) 1] ++ va_pl L0 (gE S0)) s.heap.size) ([gO h0 lo (nI n) 1] ++ va_pl L (gE S)) := hD
          have hr9 : r9 = nI (gct P (nI i) 5000) := hr9
          subst hr9
          refine lv_if_ne (tgt := 191) hx hb dL_isAllSomewhere_183 (by decide) (fun c9 => absurd (z_eq (b := 0) (by omega)) c9) (fun _ => ?_)
          refine lv_bipush (v := nI 8) hx hb dL_isAllSomewhere_186 (by decide) ?_
          refine lv_goto (tgt := 192) hx hb dL_isAllSomewhere_188 (by decide) ?_
          refine lv_icmp_ne (tgt := 199) hx hb dL_isAllSomewhere_192 (by decide) (fun c9 => absurd (hya.2.2) c9) (fun _ => ?_)
          refine W.widen (k := (8 + 6 * i + 6)) (n := (48 + 36 * i + 36)) (by omega) (by omega) ?_
          exact hj195 L S H locs ls hC hP hD hS (lv_sub hl [1, 2, 3] rfl)
      · have hva := glow_at hv hv0
        have hg0 : ¬ gct P (nI i) 5000 = 0 := fun z => hv0 (hv1.mpr z)
        refine g_top (y := nI v) (by rw [if_neg hv0]) ?_
        refine lv_istore (lv' := [(4, .int (nI v)), (0, .ref h0), (2, .int (nI 1)), (3, .int (nI i))]) hx hb dL_isAllSomewhere_101 hl (by decide) rfl (fun ls hl => ?_)
        refine lv_iload_n hx hb dL_isAllSomewhere_103 rfl (lv_at hl 2 rfl) ?_
        refine lv_if_eq (tgt := 199) hx hb dL_isAllSomewhere_104 (by decide) (fun c9 => absurd c9 (by decide)) (fun _ => ?_)
        refine lv_aload_n hx hb dL_isAllSomewhere_107 rfl (lv_at hl 1 rfl) ?_
        refine lv_iload_n hx hb dL_isAllSomewhere_108 rfl (lv_at hl 3 rfl) ?_
        refine g_xcalli (vx_runV (As := [.int (nI i)]) (rest := []) ⟨hx, hb, hml, hown, hts⟩ (c_inGoblet l hl9 D tys [gO h0 lo (nI n) 1] L S H.size (i := 0) rfl hC (nI i)) (cwV 1 hts gL_isAllSomewhere_X1_inGoblet rfl rfl rfl (by decide +kernel) ⟨Nat.le_of_ble_eq_true rfl, Nat.le_of_ble_eq_true rfl⟩) (gP_V (va_recv hK hP (ci := 1) rfl (g_inX (X := [gO h0 lo (nI n) 1]) (i := 0) rfl)) hP hK hD gBl_G (fun U hU hW => gG.call hGG hS (gA_sub hD hS hA) U hU hW)) rfl rfl hl.1 rfl (lv_room (Nat.le_of_ble_eq_true rfl)) dL_isAllSomewhere_109 ⟨by show (8 + 6 * i) + 1 + 1 ≤ 60; omega, by show (48 + 36 * i) + 6 + 6 ≤ 340; omega⟩) hD hS hA (fun E ce q9 u9 H locs hc hP hD hS e1 e2 e3 => False.elim (hc.1.2 (h_gob hi8))) (fun r9 u9 H locs hr9 hP hD hS => ?_)
        obtain ⟨⟨-, hr9⟩, hC⟩ := hr9
        obtain ⟨L, S⟩ := u9
        have hP : va_P D vwCl ([gO h0 lo (nI n) 1] ++ va_pl L (gE S)) H := hP
        have hD : va_D (va_A ([gO h0 lo (nI n) 1] ++ va_pl L0 (gE S0)) s.heap.size) ([gO h0 lo (nI n) 1] ++ va_pl L (gE S)) := hD
        have hr9 : r9 = nI (gct P (nI i) 5000) := hr9
        subst hr9
        refine lv_if_ne (tgt := 119) hx hb dL_isAllSomewhere_112 (by decide) (fun _ => ?_) (fun c9 => absurd c9 (z_ne (b := 0) (by omega) (by omega) (by omega)))
        refine lv_iconst (v := nI 0) hx hb dL_isAllSomewhere_119 (by decide) ?_
        refine lv_aload_n hx hb dL_isAllSomewhere_120 rfl (lv_at hl 1 rfl) ?_
        refine lv_iload_n hx hb dL_isAllSomewhere_121 rfl (lv_at hl 3 rfl) ?_
        refine g_xcalli (vx_runV (As := [.int (nI i)]) (rest := [.int (nI 0)]) ⟨hx, hb, hml, hown, hts⟩ (c_rangesOf l hl9 D tys [gO h0 lo (nI n) 1] L S H.size (i := 0) rfl hC (nI i) (h_0 hev)) (cwV 1 hts gL_isAllSomewhere_X1_rangesOf rfl rfl rfl (by decide +kernel) ⟨Nat.le_of_ble_eq_true rfl, Nat.le_of_ble_eq_true rfl⟩) (gP_V (va_recv hK hP (ci := 1) rfl (g_inX (X := [gO h0 lo (nI n) 1]) (i := 0) rfl)) hP hK hD gBl_G (fun U hU hW => gG.call hGG hS (gA_sub hD hS hA) U hU hW)) rfl rfl hl.1 rfl (lv_room (Nat.le_of_ble_eq_true rfl)) dL_isAllSomewhere_122 ⟨by show (8 + 6 * i) + 1 + 1 + 1 ≤ 60; omega, by show (48 + 36 * i) + 6 + 6 + 6 ≤ 340; omega⟩) hD hS hA (fun E ce q9 u9 H locs hc hP hD hS e1 e2 e3 => False.elim (hc.1.2 (h_gob hi8))) (fun r9 u9 H locs hr9 hP hD hS => ?_)
        obtain ⟨⟨-, hr9⟩, hC⟩ := hr9
        obtain ⟨L, S⟩ := u9
        have hP : va_P D vwCl ([gO h0 lo (nI n) 1] ++ va_pl L (gE S)) H := hP
        have hD : va_D (va_A ([gO h0 lo (nI n) 1] ++ va_pl L0 (gE S0)) s.heap.size) ([gO h0 lo (nI n) 1] ++ va_pl L (gE S)) := hD
        have hr9 : r9 = nI (gbg P (nI i) 5000) := hr9
        subst hr9
        refine lv_if_ne (tgt := 132) hx hb dL_isAllSomewhere_125 (by decide) (fun _ => ?_) (fun c9 => absurd c9 (z_ne (b := 0) (by omega) (by omega) (by omega)))
        refine lv_iconst (v := nI 0) hx hb dL_isAllSomewhere_132 (by decide) ?_
        refine lv_icmp_ne (tgt := 199) hx hb dL_isAllSomewhere_133 (by decide) (fun c9 => absurd (rfl) c9) (fun _ => ?_)
        refine lv_aload_n hx hb dL_isAllSomewhere_136 rfl (lv_at hl 1 rfl) ?_
        refine lv_iload_n hx hb dL_isAllSomewhere_137 rfl (lv_at hl 3 rfl) ?_
        refine g_xcalli (vx_runV (As := [.int (nI i)]) (rest := []) ⟨hx, hb, hml, hown, hts⟩ (c_rangesOf l hl9 D tys [gO h0 lo (nI n) 1] L S H.size (i := 0) rfl hC (nI i) (h_0 hev)) (cwV 1 hts gL_isAllSomewhere_X1_rangesOf rfl rfl rfl (by decide +kernel) ⟨Nat.le_of_ble_eq_true rfl, Nat.le_of_ble_eq_true rfl⟩) (gP_V (va_recv hK hP (ci := 1) rfl (g_inX (X := [gO h0 lo (nI n) 1]) (i := 0) rfl)) hP hK hD gBl_G (fun U hU hW => gG.call hGG hS (gA_sub hD hS hA) U hU hW)) rfl rfl hl.1 rfl (lv_room (Nat.le_of_ble_eq_true rfl)) dL_isAllSomewhere_138 ⟨by show (8 + 6 * i) + 1 + 1 + 1 + 1 ≤ 60; omega, by show (48 + 36 * i) + 6 + 6 + 6 + 6 ≤ 340; omega⟩) hD hS hA (fun E ce q9 u9 H locs hc hP hD hS e1 e2 e3 => False.elim (hc.1.2 (h_gob hi8))) (fun r9 u9 H locs hr9 hP hD hS => ?_)
        obtain ⟨⟨-, hr9⟩, hC⟩ := hr9
        obtain ⟨L, S⟩ := u9
        have hP : va_P D vwCl ([gO h0 lo (nI n) 1] ++ va_pl L (gE S)) H := hP
        have hD : va_D (va_A ([gO h0 lo (nI n) 1] ++ va_pl L0 (gE S0)) s.heap.size) ([gO h0 lo (nI n) 1] ++ va_pl L (gE S)) := hD
        have hr9 : r9 = nI (gbg P (nI i) 5000) := hr9
        subst hr9
        refine lv_aload_n hx hb dL_isAllSomewhere_141 rfl (lv_at hl 1 rfl) ?_
        refine lv_iload_n hx hb dL_isAllSomewhere_142 rfl (lv_at hl 3 rfl) ?_
        refine g_xcalli (vx_runV (As := [.int (nI i)]) (rest := [.int (nI (gbg P (nI i) 5000))]) ⟨hx, hb, hml, hown, hts⟩ (c_inGoblet l hl9 D tys [gO h0 lo (nI n) 1] L S H.size (i := 0) rfl hC (nI i)) (cwV 1 hts gL_isAllSomewhere_X1_inGoblet rfl rfl rfl (by decide +kernel) ⟨Nat.le_of_ble_eq_true rfl, Nat.le_of_ble_eq_true rfl⟩) (gP_V (va_recv hK hP (ci := 1) rfl (g_inX (X := [gO h0 lo (nI n) 1]) (i := 0) rfl)) hP hK hD gBl_G (fun U hU hW => gG.call hGG hS (gA_sub hD hS hA) U hU hW)) rfl rfl hl.1 rfl (lv_room (Nat.le_of_ble_eq_true rfl)) dL_isAllSomewhere_143 ⟨by show (8 + 6 * i) + 1 + 1 + 1 + 1 + 1 ≤ 60; omega, by show (48 + 36 * i) + 6 + 6 + 6 + 6 + 6 ≤ 340; omega⟩) hD hS hA (fun E ce q9 u9 H locs hc hP hD hS e1 e2 e3 => False.elim (hc.1.2 (h_gob hi8))) (fun r9 u9 H locs hr9 hP hD hS => ?_)
        obtain ⟨⟨-, hr9⟩, hC⟩ := hr9
        obtain ⟨L, S⟩ := u9
        have hP : va_P D vwCl ([gO h0 lo (nI n) 1] ++ va_pl L (gE S)) H := hP
        have hD : va_D (va_A ([gO h0 lo (nI n) 1] ++ va_pl L0 (gE S0)) s.heap.size) ([gO h0 lo (nI n) 1] ++ va_pl L (gE S)) := hD
        have hr9 : r9 = nI (gct P (nI i) 5000) := hr9
        subst hr9
        refine lv_icmp_gt (tgt := 199) hx hb dL_isAllSomewhere_146 (by decide) (fun c9 => absurd c9 (z_nlt (by omega) (by omega))) (fun _ => ?_)
        refine lv_iload hx hb dL_isAllSomewhere_149 (lv_at hl 0 rfl) ?_
        refine lv_if_ne (tgt := 172) hx hb dL_isAllSomewhere_151 (by decide) (fun _ => ?_) (fun c9 => absurd c9 (z_ne (b := 0) (by omega) (by omega) (by omega)))
        refine lv_aload_n hx hb dL_isAllSomewhere_172 rfl (lv_at hl 1 rfl) ?_
        refine lv_iload hx hb dL_isAllSomewhere_173 (lv_at hl 0 rfl) ?_
        obtain ⟨g9, hch9, hwf9, hmx9⟩ := id hC
        refine g_calli (va_runV (As := [.int (nI v)]) (rest := []) ⟨hx, hb, hml, hown, hts⟩ (c_place l D tys [gO h0 lo (nI n) 1] L S H.size (i := 0) rfl hwf9 hmx9 hch9 (nI v)) (cwV 1 hts gL_isAllSomewhere_X1_placeOf rfl rfl rfl (by decide +kernel) ⟨Nat.le_of_ble_eq_true rfl, Nat.le_of_ble_eq_true rfl⟩) (gP_V (va_recv hK hP (ci := 1) rfl (g_inX (X := [gO h0 lo (nI n) 1]) (i := 0) rfl)) hP hK hD gBl_N (fun U _ hW => hGG.1.warm hW)) rfl rfl hl.1 rfl (lv_room (Nat.le_of_ble_eq_true rfl)) dL_isAllSomewhere_175 ⟨by show (8 + 6 * i) + 1 + 1 + 1 + 1 + 1 + 0 ≤ 60; omega, by show (48 + 36 * i) + 6 + 6 + 6 + 6 + 6 + 0 ≤ 340; omega⟩) hD hS hA (fun r9 u9 H locs hr9 hP hD hS => ?_)
        have hP : va_P D vwCl ([gO h0 lo (nI n) 1] ++ va_pl L (gE S)) H := hP
        have hD : va_D (va_A ([gO h0 lo (nI n) 1] ++ va_pl L0 (gE S0)) s.heap.size) ([gO h0 lo (nI n) 1] ++ va_pl L (gE S)) := hD
        have hr9 : r9 = P v := rg_place hev (by omega) hr9
        subst hr9
        refine lv_aload_n hx hb dL_isAllSomewhere_178 rfl (lv_at hl 1 rfl) ?_
        refine lv_iload_n hx hb dL_isAllSomewhere_179 rfl (lv_at hl 3 rfl) ?_
        refine g_xcalli (vx_runV (As := [.int (nI i)]) (rest := [.int (P v)]) ⟨hx, hb, hml, hown, hts⟩ (c_inGoblet l hl9 D tys [gO h0 lo (nI n) 1] L S H.size (i := 0) rfl hC (nI i)) (cwV 1 hts gL_isAllSomewhere_X1_inGoblet rfl rfl rfl (by decide +kernel) ⟨Nat.le_of_ble_eq_true rfl, Nat.le_of_ble_eq_true rfl⟩) (gP_V (va_recv hK hP (ci := 1) rfl (g_inX (X := [gO h0 lo (nI n) 1]) (i := 0) rfl)) hP hK hD gBl_G (fun U hU hW => gG.call hGG hS (gA_sub hD hS hA) U hU hW)) rfl rfl hl.1 rfl (lv_room (Nat.le_of_ble_eq_true rfl)) dL_isAllSomewhere_180 ⟨by show (8 + 6 * i) + 1 + 1 + 1 + 1 + 1 + 0 + 1 ≤ 60; omega, by show (48 + 36 * i) + 6 + 6 + 6 + 6 + 6 + 0 + 6 ≤ 340; omega⟩) hD hS hA (fun E ce q9 u9 H locs hc hP hD hS e1 e2 e3 => False.elim (hc.1.2 (h_gob hi8))) (fun r9 u9 H locs hr9 hP hD hS => ?_)
        obtain ⟨⟨-, hr9⟩, hC⟩ := hr9
        obtain ⟨L, S⟩ := u9
        have hP : va_P D vwCl ([gO h0 lo (nI n) 1] ++ va_pl L (gE S)) H := hP
        have hD : va_D (va_A ([gO h0 lo (nI n) 1] ++ va_pl L0 (gE S0)) s.heap.size) ([gO h0 lo (nI n) 1] ++ va_pl L (gE S)) := hD
        have hr9 : r9 = nI (gct P (nI i) 5000) := hr9
        subst hr9
        refine lv_if_ne (tgt := 191) hx hb dL_isAllSomewhere_183 (by decide) (fun _ => ?_) (fun c9 => absurd c9 (z_ne (b := 0) (by omega) (by omega) (by omega)))
        refine lv_iload_n hx hb dL_isAllSomewhere_191 rfl (lv_at hl 3 rfl) ?_
        refine lv_icmp_ne (tgt := 199) hx hb dL_isAllSomewhere_192 (by decide) (fun c9 => absurd (hva.2.2) c9) (fun _ => ?_)
        refine W.widen (k := (8 + 6 * i + 6)) (n := (48 + 36 * i + 36)) (by omega) (by omega) ?_
        exact hj195 L S H locs ls hC hP hD hS (lv_sub hl [1, 2, 3] rfl)
  have hj73 : ∀ (L : List Nat) (S : gS) (H : Heap) (locs : List Loc) (ls : Array Slot), gCh P lo (L, S) → va_P D vwCl ([gO h0 lo (nI n) 1] ++ va_pl L (gE S)) H → va_D (va_A ([gO h0 lo (nI n) 1] ++ va_pl L0 (gE S0)) s.heap.size) ([gO h0 lo (nI n) 1] ++ va_pl L (gE S)) → va_S (va_A ([gO h0 lo (nI n) 1] ++ va_pl L0 (gE S0)) s.heap.size) s.heap H locs → lv_has ls 5 [(0, .ref h0)] → W p l e ({ frames := 9, cells := 60, slots := 340, locals := 200 } : Room) s m ([.ref h0] : List Value).toArray below meth c H locs 8 48 (MQ below (va_Qi (fun (r : Int32) (u : List Nat × gS) => r = nI 1 ∧ gCh P lo u) (fun u t => gWd D tys (va_A ([gO h0 lo (nI n) 1] ++ va_pl L0 (gE S0)) s.heap.size) ([gO h0 lo (nI n) 1] ++ va_pl u.1 (gE u.2)) t) (va_A ([gO h0 lo (nI n) 1] ++ va_pl L0 (gE S0)) s.heap.size)) ([.ref h0] : List Value).toArray s 60 340 (va_A ([gO h0 lo (nI n) 1] ++ va_pl L0 (gE S0)) s.heap.size)) (F0 m 73 ls []) := by
    intro L S H locs ls hC hP hD hS hl
    refine lv_aload_n hx hb dL_isAllSomewhere_73 rfl (lv_at hl 0 rfl) ?_
    refine lv_iconst (v := nI 1) hx hb dL_isAllSomewhere_74 (by decide) ?_
    obtain ⟨g9, hch9, hwf9, hmx9⟩ := id hC
    refine g_calli (va_runV (As := [.int (nI 1)]) (rest := []) ⟨hx, hb, hml, hown, hts⟩ (c_place l D tys [gO h0 lo (nI n) 1] L S H.size (i := 0) rfl hwf9 hmx9 hch9 (nI 1)) (cwV 1 hts gL_isAllSomewhere_X1_placeOf rfl rfl rfl (by decide +kernel) ⟨Nat.le_of_ble_eq_true rfl, Nat.le_of_ble_eq_true rfl⟩) (gP_V (va_recv hK hP (ci := 1) rfl (g_inX (X := [gO h0 lo (nI n) 1]) (i := 0) rfl)) hP hK hD gBl_N (fun U _ hW => hGG.1.warm hW)) rfl rfl hl.1 rfl (lv_room (Nat.le_of_ble_eq_true rfl)) dL_isAllSomewhere_75 ⟨by show 8 + 0 ≤ 60; omega, by show 48 + 0 ≤ 340; omega⟩) hD hS hA (fun r9 u9 H locs hr9 hP hD hS => ?_)
    have hP : va_P D vwCl ([gO h0 lo (nI n) 1] ++ va_pl L (gE S)) H := hP
    have hD : va_D (va_A ([gO h0 lo (nI n) 1] ++ va_pl L0 (gE S0)) s.heap.size) ([gO h0 lo (nI n) 1] ++ va_pl L (gE S)) := hD
    have hr9 : r9 = P 1 := rg_place hev (by omega) hr9
    subst hr9
    refine lv_iconst (v := -1) hx hb dL_isAllSomewhere_78 (by decide) ?_
    refine lv_icmp_eq (tgt := 86) hx hb dL_isAllSomewhere_79 (by decide) (fun c9 => absurd c9 (hP1)) (fun _ => ?_)
    refine lv_iconst (v := nI 1) hx hb dL_isAllSomewhere_82 (by decide) ?_
    refine lv_goto (tgt := 87) hx hb dL_isAllSomewhere_83 (by decide) ?_
    refine lv_istore_n (lv' := [(2, .int (nI 1)), (0, .ref h0)]) hx hb dL_isAllSomewhere_87 rfl hl (by decide) rfl (fun ls hl => ?_)
    refine lv_iconst (v := nI 0) hx hb dL_isAllSomewhere_88 (by decide) ?_
    refine lv_istore_n (lv' := [(3, .int (nI 0)), (2, .int (nI 1)), (0, .ref h0)]) hx hb dL_isAllSomewhere_89 rfl hl (by decide) rfl (fun ls hl => ?_)
    refine W.widen (k := (8 + 6 * 0)) (n := (48 + 36 * 0)) (by omega) (by omega) ?_
    exact hloop 8 0 L S H locs ls rfl hC hP hD hS (lv_sub hl [2, 1, 0] rfl)
  refine lv_aload_n hx hb dL_isAllSomewhere_0 rfl (lv_at hl 0 rfl) ?_
  obtain ⟨g9, hch9, hwf9, hmx9⟩ := id hC
  refine g_calli (va_runV (As := []) (rest := []) ⟨hx, hb, hml, hown, hts⟩ (c_left l D tys [gO h0 lo (nI n) 1] L0 S0 s.heap.size (i := 0) rfl hwf9 hmx9 hch9) (cwV 0 hts gL_isAllSomewhere_X1_lowestLeft rfl rfl rfl (by decide +kernel) ⟨Nat.le_of_ble_eq_true rfl, Nat.le_of_ble_eq_true rfl⟩) (gP_V (va_recv hK hP (ci := 1) rfl (g_inX (X := [gO h0 lo (nI n) 1]) (i := 0) rfl)) hP hK hD gBl_N (fun U _ hW => hGG.1.warm hW)) rfl rfl hl.1 rfl (lv_room (Nat.le_of_ble_eq_true rfl)) dL_isAllSomewhere_1 ⟨by show 0 + 0 ≤ 60; omega, by show 0 + 0 ≤ 340; omega⟩) hD hS hA (fun r9 u9 H locs hr9 hP hD hS => ?_)
  have hP : va_P D vwCl ([gO h0 lo (nI n) 1] ++ va_pl L0 (gE S0)) H := hP
  have hD : va_D (va_A ([gO h0 lo (nI n) 1] ++ va_pl L0 (gE S0)) s.heap.size) ([gO h0 lo (nI n) 1] ++ va_pl L0 (gE S0)) := hD
  obtain ⟨v, rfl, hv⟩ := hr9
  have hv1 := left_ct hev hv
  have hv2 := glow_le hv
  refine lv_istore_n (lv' := [(1, .int (nI v)), (0, .ref h0)]) hx hb dL_isAllSomewhere_4 rfl hl (by decide) rfl (fun ls hl => ?_)
  refine lv_aload_n hx hb dL_isAllSomewhere_5 rfl (lv_at hl 1 rfl) ?_
  refine g_calli (va_runV (As := []) (rest := []) ⟨hx, hb, hml, hown, hts⟩ (c_inJug l D tys [gO h0 lo (nI n) 1] L0 S0 H.size (i := 0) rfl hC) (cwV 0 hts gL_isAllSomewhere_X1_inJug rfl rfl rfl (by decide +kernel) ⟨Nat.le_of_ble_eq_true rfl, Nat.le_of_ble_eq_true rfl⟩) (gP_V (va_recv hK hP (ci := 1) rfl (g_inX (X := [gO h0 lo (nI n) 1]) (i := 0) rfl)) hP hK hD gBl_N (fun U _ hW => hGG.1.warm hW)) rfl rfl hl.1 rfl (lv_room (Nat.le_of_ble_eq_true rfl)) dL_isAllSomewhere_6 ⟨by show 0 + 0 + 0 ≤ 60; omega, by show 0 + 0 + 0 ≤ 340; omega⟩) hD hS hA (fun r9 u9 H locs hr9 hP hD hS => ?_)
  have hP : va_P D vwCl ([gO h0 lo (nI n) 1] ++ va_pl L0 (gE S0)) H := hP
  have hD : va_D (va_A ([gO h0 lo (nI n) 1] ++ va_pl L0 (gE S0)) s.heap.size) ([gO h0 lo (nI n) 1] ++ va_pl L0 (gE S0)) := hD
  have hr9 : r9 = nI (gct P 8 5000) := hr9
  subst hr9
  refine lv_aload_n hx hb dL_isAllSomewhere_9 rfl (lv_at hl 1 rfl) ?_
  refine g_calli (va_runS (As := [.ref h0]) (rest := [.int (nI (gct P 8 5000))]) ⟨hx, hb, hml, hown, hts⟩ (w_inGoblets l hl9 D tys L0 S0 H.size hC hI) (va_cwS 1 hts gL_isAllSomewhere_L_inGoblets rfl rfl rfl (by decide +kernel) ⟨Nat.le_of_ble_eq_true rfl, Nat.le_of_ble_eq_true rfl⟩) (gP_S hP hK hD gBl_G (fun U hU hW => gG.call hGG hS (gA_sub hD hS hA) U hU hW)) rfl rfl hl.1 rfl (lv_room (Nat.le_of_ble_eq_true rfl)) dL_isAllSomewhere_10 ⟨by show 0 + 0 + 0 + 8 ≤ 60; omega, by show 0 + 0 + 0 + 48 ≤ 340; omega⟩) hD hS hA (fun r9 u9 H locs hr9 hP hD hS => ?_)
  obtain ⟨hr9, hC⟩ := hr9
  obtain ⟨L, S⟩ := u9
  have hP : va_P D vwCl ([gO h0 lo (nI n) 1] ++ va_pl L (gE S)) H := hP
  have hD : va_D (va_A ([gO h0 lo (nI n) 1] ++ va_pl L0 (gE S0)) s.heap.size) ([gO h0 lo (nI n) 1] ++ va_pl L (gE S)) := hD
  have hr9 : r9 = nI (gsum (fun q => gct P (nI q) 5000) 8) := hr9
  subst hr9
  refine lv_iadd hx hb dL_isAllSomewhere_13 ?_
  refine g_top (y := nI ((gct P 8 5000) + (gsum (fun q => gct P (nI q) 5000) 8))) (nI_add _ _) ?_
  refine lv_aload_n hx hb dL_isAllSomewhere_14 rfl (lv_at hl 1 rfl) ?_
  refine g_calli (va_runV (As := []) (rest := [.int (nI ((gct P 8 5000) + (gsum (fun q => gct P (nI q) 5000) 8)))]) ⟨hx, hb, hml, hown, hts⟩ (c_drunk l D tys [gO h0 lo (nI n) 1] L S H.size (i := 0) rfl hC) (cwV 0 hts gL_isAllSomewhere_X1_drunk rfl rfl rfl (by decide +kernel) ⟨Nat.le_of_ble_eq_true rfl, Nat.le_of_ble_eq_true rfl⟩) (gP_V (va_recv hK hP (ci := 1) rfl (g_inX (X := [gO h0 lo (nI n) 1]) (i := 0) rfl)) hP hK hD gBl_N (fun U _ hW => hGG.1.warm hW)) rfl rfl hl.1 rfl (lv_room (Nat.le_of_ble_eq_true rfl)) dL_isAllSomewhere_15 ⟨by show 0 + 0 + 0 + 8 + 0 ≤ 60; omega, by show 0 + 0 + 0 + 48 + 0 ≤ 340; omega⟩) hD hS hA (fun r9 u9 H locs hr9 hP hD hS => ?_)
  have hP : va_P D vwCl ([gO h0 lo (nI n) 1] ++ va_pl L (gE S)) H := hP
  have hD : va_D (va_A ([gO h0 lo (nI n) 1] ++ va_pl L0 (gE S0)) s.heap.size) ([gO h0 lo (nI n) 1] ++ va_pl L (gE S)) := hD
  have hr9 : r9 = nI (gct P 9 5000) := hr9
  subst hr9
  refine lv_iadd hx hb dL_isAllSomewhere_18 ?_
  refine g_top (y := nI (((gct P 8 5000) + (gsum (fun q => gct P (nI q) 5000) 8)) + (gct P 9 5000))) (nI_add _ _) ?_
  refine lv_aload_n hx hb dL_isAllSomewhere_19 rfl (lv_at hl 1 rfl) ?_
  refine g_calli (va_runV (As := []) (rest := [.int (nI (((gct P 8 5000) + (gsum (fun q => gct P (nI q) 5000) 8)) + (gct P 9 5000)))]) ⟨hx, hb, hml, hown, hts⟩ (c_spilt l D tys [gO h0 lo (nI n) 1] L S H.size (i := 0) rfl hC) (cwV 0 hts gL_isAllSomewhere_X1_spilt rfl rfl rfl (by decide +kernel) ⟨Nat.le_of_ble_eq_true rfl, Nat.le_of_ble_eq_true rfl⟩) (gP_V (va_recv hK hP (ci := 1) rfl (g_inX (X := [gO h0 lo (nI n) 1]) (i := 0) rfl)) hP hK hD gBl_N (fun U _ hW => hGG.1.warm hW)) rfl rfl hl.1 rfl (lv_room (Nat.le_of_ble_eq_true rfl)) dL_isAllSomewhere_20 ⟨by show 0 + 0 + 0 + 8 + 0 + 0 ≤ 60; omega, by show 0 + 0 + 0 + 48 + 0 + 0 ≤ 340; omega⟩) hD hS hA (fun r9 u9 H locs hr9 hP hD hS => ?_)
  have hP : va_P D vwCl ([gO h0 lo (nI n) 1] ++ va_pl L (gE S)) H := hP
  have hD : va_D (va_A ([gO h0 lo (nI n) 1] ++ va_pl L0 (gE S0)) s.heap.size) ([gO h0 lo (nI n) 1] ++ va_pl L (gE S)) := hD
  have hr9 : r9 = nI (gct P 10 5000) := hr9
  subst hr9
  refine lv_iadd hx hb dL_isAllSomewhere_23 ?_
  refine g_top (y := nI ((((gct P 8 5000) + (gsum (fun q => gct P (nI q) 5000) 8)) + (gct P 9 5000)) + (gct P 10 5000))) (nI_add _ _) ?_
  refine lv_aload_n hx hb dL_isAllSomewhere_24 rfl (lv_at hl 1 rfl) ?_
  refine g_calli (va_runV (As := []) (rest := [.int (nI ((((gct P 8 5000) + (gsum (fun q => gct P (nI q) 5000) 8)) + (gct P 9 5000)) + (gct P 10 5000)))]) ⟨hx, hb, hml, hown, hts⟩ (c_size l D tys [gO h0 lo (nI n) 1] L S H.size (i := 0) rfl hC) (cwV 0 hts gL_isAllSomewhere_X1_size rfl rfl rfl (by decide +kernel) ⟨Nat.le_of_ble_eq_true rfl, Nat.le_of_ble_eq_true rfl⟩) (gP_V (va_recv hK hP (ci := 1) rfl (g_inX (X := [gO h0 lo (nI n) 1]) (i := 0) rfl)) hP hK hD gBl_N (fun U _ hW => hGG.1.warm hW)) rfl rfl hl.1 rfl (lv_room (Nat.le_of_ble_eq_true rfl)) dL_isAllSomewhere_25 ⟨by show 0 + 0 + 0 + 8 + 0 + 0 + 0 ≤ 60; omega, by show 0 + 0 + 0 + 48 + 0 + 0 + 0 ≤ 340; omega⟩) hD hS hA (fun r9 u9 H locs hr9 hP hD hS => ?_)
  have hP : va_P D vwCl ([gO h0 lo (nI n) 1] ++ va_pl L (gE S)) H := hP
  have hD : va_D (va_A ([gO h0 lo (nI n) 1] ++ va_pl L0 (gE S0)) s.heap.size) ([gO h0 lo (nI n) 1] ++ va_pl L (gE S)) := hD
  have hr9 : r9 = nI n := hr9
  subst hr9
  refine lv_icmp_ne (tgt := 86) hx hb dL_isAllSomewhere_28 (by decide) (fun c9 => absurd (z_eq (by omega)) c9) (fun _ => ?_)
  refine lv_iload_n hx hb dL_isAllSomewhere_31 rfl (lv_at hl 0 rfl) ?_
  by_cases hv0 : v = 0
  · have hd := hv1.mp hv0
    refine lv_if_ne (tgt := 39) hx hb dL_isAllSomewhere_32 (by decide) (fun c9 => absurd (z_eq hv0) c9) (fun _ => ?_)
    refine lv_iconst (v := nI 1) hx hb dL_isAllSomewhere_35 (by decide) ?_
    refine lv_goto (tgt := 40) hx hb dL_isAllSomewhere_36 (by decide) ?_
    refine lv_aload_n hx hb dL_isAllSomewhere_40 rfl (lv_at hl 1 rfl) ?_
    refine g_calli (va_runV (As := []) (rest := [.int (nI 1)]) ⟨hx, hb, hml, hown, hts⟩ (c_drunk l D tys [gO h0 lo (nI n) 1] L S H.size (i := 0) rfl hC) (cwV 0 hts gL_isAllSomewhere_X1_drunk rfl rfl rfl (by decide +kernel) ⟨Nat.le_of_ble_eq_true rfl, Nat.le_of_ble_eq_true rfl⟩) (gP_V (va_recv hK hP (ci := 1) rfl (g_inX (X := [gO h0 lo (nI n) 1]) (i := 0) rfl)) hP hK hD gBl_N (fun U _ hW => hGG.1.warm hW)) rfl rfl hl.1 rfl (lv_room (Nat.le_of_ble_eq_true rfl)) dL_isAllSomewhere_41 ⟨by show 0 + 0 + 0 + 8 + 0 + 0 + 0 + 0 ≤ 60; omega, by show 0 + 0 + 0 + 48 + 0 + 0 + 0 + 0 ≤ 340; omega⟩) hD hS hA (fun r9 u9 H locs hr9 hP hD hS => ?_)
    have hP : va_P D vwCl ([gO h0 lo (nI n) 1] ++ va_pl L (gE S)) H := hP
    have hD : va_D (va_A ([gO h0 lo (nI n) 1] ++ va_pl L0 (gE S0)) s.heap.size) ([gO h0 lo (nI n) 1] ++ va_pl L (gE S)) := hD
    have hr9 : r9 = nI (gct P 9 5000) := hr9
    subst hr9
    refine lv_aload_n hx hb dL_isAllSomewhere_44 rfl (lv_at hl 1 rfl) ?_
    refine g_calli (va_runV (As := []) (rest := [.int (nI (gct P 9 5000)), .int (nI 1)]) ⟨hx, hb, hml, hown, hts⟩ (c_size l D tys [gO h0 lo (nI n) 1] L S H.size (i := 0) rfl hC) (cwV 0 hts gL_isAllSomewhere_X1_size rfl rfl rfl (by decide +kernel) ⟨Nat.le_of_ble_eq_true rfl, Nat.le_of_ble_eq_true rfl⟩) (gP_V (va_recv hK hP (ci := 1) rfl (g_inX (X := [gO h0 lo (nI n) 1]) (i := 0) rfl)) hP hK hD gBl_N (fun U _ hW => hGG.1.warm hW)) rfl rfl hl.1 rfl (lv_room (Nat.le_of_ble_eq_true rfl)) dL_isAllSomewhere_45 ⟨by show 0 + 0 + 0 + 8 + 0 + 0 + 0 + 0 + 0 ≤ 60; omega, by show 0 + 0 + 0 + 48 + 0 + 0 + 0 + 0 + 0 ≤ 340; omega⟩) hD hS hA (fun r9 u9 H locs hr9 hP hD hS => ?_)
    have hP : va_P D vwCl ([gO h0 lo (nI n) 1] ++ va_pl L (gE S)) H := hP
    have hD : va_D (va_A ([gO h0 lo (nI n) 1] ++ va_pl L0 (gE S0)) s.heap.size) ([gO h0 lo (nI n) 1] ++ va_pl L (gE S)) := hD
    have hr9 : r9 = nI n := hr9
    subst hr9
    refine lv_icmp_ne (tgt := 55) hx hb dL_isAllSomewhere_48 (by decide) (fun c9 => absurd (z_eq hd) c9) (fun _ => ?_)
    refine lv_iconst (v := nI 1) hx hb dL_isAllSomewhere_51 (by decide) ?_
    refine lv_goto (tgt := 56) hx hb dL_isAllSomewhere_52 (by decide) ?_
    refine lv_icmp_ne (tgt := 86) hx hb dL_isAllSomewhere_56 (by decide) (fun c9 => absurd (rfl) c9) (fun _ => ?_)
    refine lv_iload_n hx hb dL_isAllSomewhere_59 rfl (lv_at hl 0 rfl) ?_
    refine lv_if_eq (tgt := 73) hx hb dL_isAllSomewhere_60 (by decide) (fun _ => ?_) (fun c9 => absurd (z_eq hv0) c9)
    refine W.widen (k := 8) (n := 48) (by omega) (by omega) ?_
    exact hj73 L S H locs ls hC hP hD hS (lv_sub hl [1] rfl)
  · have hd : ¬ gct P 9 5000 = n := fun z => hv0 (hv1.mpr z)
    have hd2 := h_few hev (k := 9) (by omega)
    have hd2 : gct P 9 5000 ≤ n := hd2
    have h9 : ¬ P v = 9 := by rcases hv with ⟨y, -⟩ | ⟨-, -, y, -⟩; exact absurd y hv0; exact y.1
    refine lv_if_ne (tgt := 39) hx hb dL_isAllSomewhere_32 (by decide) (fun _ => ?_) (fun c9 => absurd c9 (z_ne (b := 0) (by omega) (by omega) hv0))
    refine lv_iconst (v := nI 0) hx hb dL_isAllSomewhere_39 (by decide) ?_
    refine lv_aload_n hx hb dL_isAllSomewhere_40 rfl (lv_at hl 1 rfl) ?_
    refine g_calli (va_runV (As := []) (rest := [.int (nI 0)]) ⟨hx, hb, hml, hown, hts⟩ (c_drunk l D tys [gO h0 lo (nI n) 1] L S H.size (i := 0) rfl hC) (cwV 0 hts gL_isAllSomewhere_X1_drunk rfl rfl rfl (by decide +kernel) ⟨Nat.le_of_ble_eq_true rfl, Nat.le_of_ble_eq_true rfl⟩) (gP_V (va_recv hK hP (ci := 1) rfl (g_inX (X := [gO h0 lo (nI n) 1]) (i := 0) rfl)) hP hK hD gBl_N (fun U _ hW => hGG.1.warm hW)) rfl rfl hl.1 rfl (lv_room (Nat.le_of_ble_eq_true rfl)) dL_isAllSomewhere_41 ⟨by show 0 + 0 + 0 + 8 + 0 + 0 + 0 + 0 ≤ 60; omega, by show 0 + 0 + 0 + 48 + 0 + 0 + 0 + 0 ≤ 340; omega⟩) hD hS hA (fun r9 u9 H locs hr9 hP hD hS => ?_)
    have hP : va_P D vwCl ([gO h0 lo (nI n) 1] ++ va_pl L (gE S)) H := hP
    have hD : va_D (va_A ([gO h0 lo (nI n) 1] ++ va_pl L0 (gE S0)) s.heap.size) ([gO h0 lo (nI n) 1] ++ va_pl L (gE S)) := hD
    have hr9 : r9 = nI (gct P 9 5000) := hr9
    subst hr9
    refine lv_aload_n hx hb dL_isAllSomewhere_44 rfl (lv_at hl 1 rfl) ?_
    refine g_calli (va_runV (As := []) (rest := [.int (nI (gct P 9 5000)), .int (nI 0)]) ⟨hx, hb, hml, hown, hts⟩ (c_size l D tys [gO h0 lo (nI n) 1] L S H.size (i := 0) rfl hC) (cwV 0 hts gL_isAllSomewhere_X1_size rfl rfl rfl (by decide +kernel) ⟨Nat.le_of_ble_eq_true rfl, Nat.le_of_ble_eq_true rfl⟩) (gP_V (va_recv hK hP (ci := 1) rfl (g_inX (X := [gO h0 lo (nI n) 1]) (i := 0) rfl)) hP hK hD gBl_N (fun U _ hW => hGG.1.warm hW)) rfl rfl hl.1 rfl (lv_room (Nat.le_of_ble_eq_true rfl)) dL_isAllSomewhere_45 ⟨by show 0 + 0 + 0 + 8 + 0 + 0 + 0 + 0 + 0 ≤ 60; omega, by show 0 + 0 + 0 + 48 + 0 + 0 + 0 + 0 + 0 ≤ 340; omega⟩) hD hS hA (fun r9 u9 H locs hr9 hP hD hS => ?_)
    have hP : va_P D vwCl ([gO h0 lo (nI n) 1] ++ va_pl L (gE S)) H := hP
    have hD : va_D (va_A ([gO h0 lo (nI n) 1] ++ va_pl L0 (gE S0)) s.heap.size) ([gO h0 lo (nI n) 1] ++ va_pl L (gE S)) := hD
    have hr9 : r9 = nI n := hr9
    subst hr9
    refine lv_icmp_ne (tgt := 55) hx hb dL_isAllSomewhere_48 (by decide) (fun _ => ?_) (fun c9 => absurd c9 (z_ne (by omega) (by omega) hd))
    refine lv_iconst (v := nI 0) hx hb dL_isAllSomewhere_55 (by decide) ?_
    refine lv_icmp_ne (tgt := 86) hx hb dL_isAllSomewhere_56 (by decide) (fun c9 => absurd (rfl) c9) (fun _ => ?_)
    refine lv_iload_n hx hb dL_isAllSomewhere_59 rfl (lv_at hl 0 rfl) ?_
    refine lv_if_eq (tgt := 73) hx hb dL_isAllSomewhere_60 (by decide) (fun c9 => absurd c9 (z_ne (b := 0) (by omega) (by omega) hv0)) (fun _ => ?_)
    refine lv_aload_n hx hb dL_isAllSomewhere_63 rfl (lv_at hl 1 rfl) ?_
    refine lv_iload_n hx hb dL_isAllSomewhere_64 rfl (lv_at hl 0 rfl) ?_
    obtain ⟨g9, hch9, hwf9, hmx9⟩ := id hC
    refine g_calli (va_runV (As := [.int (nI v)]) (rest := []) ⟨hx, hb, hml, hown, hts⟩ (c_place l D tys [gO h0 lo (nI n) 1] L S H.size (i := 0) rfl hwf9 hmx9 hch9 (nI v)) (cwV 1 hts gL_isAllSomewhere_X1_placeOf rfl rfl rfl (by decide +kernel) ⟨Nat.le_of_ble_eq_true rfl, Nat.le_of_ble_eq_true rfl⟩) (gP_V (va_recv hK hP (ci := 1) rfl (g_inX (X := [gO h0 lo (nI n) 1]) (i := 0) rfl)) hP hK hD gBl_N (fun U _ hW => hGG.1.warm hW)) rfl rfl hl.1 rfl (lv_room (Nat.le_of_ble_eq_true rfl)) dL_isAllSomewhere_65 ⟨by show 0 + 0 + 0 + 8 + 0 + 0 + 0 + 0 + 0 + 0 ≤ 60; omega, by show 0 + 0 + 0 + 48 + 0 + 0 + 0 + 0 + 0 + 0 ≤ 340; omega⟩) hD hS hA (fun r9 u9 H locs hr9 hP hD hS => ?_)
    have hP : va_P D vwCl ([gO h0 lo (nI n) 1] ++ va_pl L (gE S)) H := hP
    have hD : va_D (va_A ([gO h0 lo (nI n) 1] ++ va_pl L0 (gE S0)) s.heap.size) ([gO h0 lo (nI n) 1] ++ va_pl L (gE S)) := hD
    have hr9 : r9 = P v := rg_place hev (by omega) hr9
    subst hr9
    refine lv_bipush (v := nI 9) hx hb dL_isAllSomewhere_68 (by decide) ?_
    refine lv_icmp_eq (tgt := 86) hx hb dL_isAllSomewhere_70 (by decide) (fun c9 => absurd c9 (h9)) (fun _ => ?_)
    refine W.widen (k := 8) (n := 48) (by omega) (by omega) ?_
    exact hj73 L S H locs ls hC hP hD hS (lv_sub hl [1] rfl)
end
section
/-! p25: areRangesApart -/
set_option maxHeartbeats 4000000 in
set_option maxRecDepth 100000 in
/-- areRangesApart: the ranges of the jug rise and do not touch -/
theorem w_areRangesApart (l : Launch) (hl9 : l.stackTraces = false) (D : va_G) (tys : List (ClassId × FieldType)) (L0 : List Nat) (S0 : gS) (sz : Nat) {P : Nat → Int32} {n h0 lo : Nat} (hC : gCh P lo (L0, S0)) (hI : gInv P n)  : Met l yL_areRangesApart wsL_areRangesApart ({ frames := 8, cells := 450, slots := 2700, locals := 200 } : Room) (gP D tys [.ref h0] ([gO h0 lo (nI n) 1] ++ va_pl L0 (gE S0)) sz (gG (va_A ([gO h0 lo (nI n) 1] ++ va_pl L0 (gE S0)) sz))) (va_Qi (fun (r : Int32) (u : List Nat × gS) => r = nI 1 ∧ gCh P lo u) (fun u t => gWd D tys (va_A ([gO h0 lo (nI n) 1] ++ va_pl L0 (gE S0)) sz) ([gO h0 lo (nI n) 1] ++ va_pl u.1 (gE u.2)) t) (va_A ([gO h0 lo (nI n) 1] ++ va_pl L0 (gE S0)) sz)) 450 2700 (va_A ([gO h0 lo (nI n) 1] ++ va_pl L0 (gE S0)) sz) := by
  refine g_ofW (cc := cL_areRangesApart) (maxL := 10) (ret := some .boolean) (by decide) rfl (Nat.le_of_ble_eq_true rfl) ?_
  intro p e s m below meth c hx hb hr hml hts hown hlocks hin hsz hP hK hD hA hS hGG ls hl
  subst hsz
  have hown : s.vm.findClass RL = some m.cls := hown
  have hev := hI.1
  have hn1 := hI.1.1
  have hn2 := hI.2.1
  have hl : lv_has ls 10 [(0, .ref h0)] := hl
  have hR := h_fewR hev (k := 8) (by omega)
  have hR : gbg P 8 5000 ≤ n := hR
  have h00 := h_0n hev
  have hloop : ∀ (lv : Int32) (mo : Nat) (hmo : mo ≤ 5000) (hM : (∀ i a b, gRg P i a b → b - a + 1 ≤ mo ∧ (nI i < lv → b - a + 1 < mo))) (d i e9 : Nat) (bv : Int32) (L : List Nat) (S : gS) (H : Heap) (locs : List Loc) (ls : Array Slot), i + d = gbg P 8 5000 → gbg P 8 e9 = i → e9 ≤ 5000 → ¬ (P e9 = 8 ∧ P (e9 + 1) = 8) → ((bv = -1 ∧ e9 = 0) ∨ (bv = nI e9 ∧ ¬ P (e9 + 1) = 8)) → gCh P lo (L, S) → va_P D vwCl ([gO h0 lo (nI n) 1] ++ va_pl L (gE S)) H → va_D (va_A ([gO h0 lo (nI n) 1] ++ va_pl L0 (gE S0)) s.heap.size) ([gO h0 lo (nI n) 1] ++ va_pl L (gE S)) → va_S (va_A ([gO h0 lo (nI n) 1] ++ va_pl L0 (gE S0)) s.heap.size) s.heap H locs → lv_has ls 10 [(0, .ref h0), (1, .int (nI (gct P 8 e9))), (2, .int bv), (3, .int lv), (4, .int (nI mo)), (5, .int (nI 1)), (6, .int (nI i))] → W p l e ({ frames := 8, cells := 450, slots := 2700, locals := 200 } : Room) s m ([.ref h0] : List Value).toArray below meth c H locs (2 + 2 * i) (12 + 12 * i) (MQ below (va_Qi (fun (r : Int32) (u : List Nat × gS) => r = nI 1 ∧ gCh P lo u) (fun u t => gWd D tys (va_A ([gO h0 lo (nI n) 1] ++ va_pl L0 (gE S0)) s.heap.size) ([gO h0 lo (nI n) 1] ++ va_pl u.1 (gE u.2)) t) (va_A ([gO h0 lo (nI n) 1] ++ va_pl L0 (gE S0)) s.heap.size)) ([.ref h0] : List Value).toArray s 450 2700 (va_A ([gO h0 lo (nI n) 1] ++ va_pl L0 (gE S0)) s.heap.size)) (F0 m 66 ls []) := by
    intro lv mo hmo hM d
    induction d with
    | zero =>
      intro i e9 bv L S H locs ls hi he1 he2 he3 he4 hC hP hD hS hl
      have hlast := rg_last he2 (by omega) he3
      have hfew := h_few hev (k := 8) (by omega)
      refine lv_iload hx hb dL_areRangesApart_66 (lv_at hl 6 rfl) ?_
      refine lv_aload_n hx hb dL_areRangesApart_68 rfl (lv_at hl 0 rfl) ?_
      refine g_calli (va_runV (As := []) (rest := [.int (nI i)]) ⟨hx, hb, hml, hown, hts⟩ (c_rangesP l D tys [gO h0 lo (nI n) 1] L S H.size (i := 0) rfl hC (h_0 hev)) (cwV 0 hts gL_areRangesApart_X1_ranges rfl rfl rfl (by decide +kernel) ⟨Nat.le_of_ble_eq_true rfl, Nat.le_of_ble_eq_true rfl⟩) (gP_V (va_recv hK hP (ci := 1) rfl (g_inX (X := [gO h0 lo (nI n) 1]) (i := 0) rfl)) hP hK hD gBl_N (fun U _ hW => hGG.1.warm hW)) rfl rfl hl.1 rfl (lv_room (Nat.le_of_ble_eq_true rfl)) dL_areRangesApart_69 ⟨by show (2 + 2 * i) + 0 ≤ 450; omega, by show (12 + 12 * i) + 0 ≤ 2700; omega⟩) hD hS hA (fun r9 u9 H locs hr9 hP hD hS => ?_)
      have hP : va_P D vwCl ([gO h0 lo (nI n) 1] ++ va_pl L (gE S)) H := hP
      have hD : va_D (va_A ([gO h0 lo (nI n) 1] ++ va_pl L0 (gE S0)) s.heap.size) ([gO h0 lo (nI n) 1] ++ va_pl L (gE S)) := hD
      have hr9 : r9 = nI (gbg P 8 5000) := hr9
      subst hr9
      refine lv_icmp_ge (tgt := 221) hx hb dL_areRangesApart_72 (by decide) (fun _ => ?_) (fun c9 => absurd (z_le (by omega) (by omega)) c9)
      refine lv_iload hx hb dL_areRangesApart_221 (lv_at hl 5 rfl) ?_
      refine lv_if_eq (tgt := 238) hx hb dL_areRangesApart_223 (by decide) (fun c9 => absurd c9 (by decide)) (fun _ => ?_)
      refine lv_iload_n hx hb dL_areRangesApart_226 rfl (lv_at hl 1 rfl) ?_
      refine lv_aload_n hx hb dL_areRangesApart_227 rfl (lv_at hl 0 rfl) ?_
      refine g_calli (va_runV (As := []) (rest := [.int (nI (gct P 8 e9))]) ⟨hx, hb, hml, hown, hts⟩ (c_inJug l D tys [gO h0 lo (nI n) 1] L S H.size (i := 0) rfl hC) (cwV 0 hts gL_areRangesApart_X1_inJug rfl rfl rfl (by decide +kernel) ⟨Nat.le_of_ble_eq_true rfl, Nat.le_of_ble_eq_true rfl⟩) (gP_V (va_recv hK hP (ci := 1) rfl (g_inX (X := [gO h0 lo (nI n) 1]) (i := 0) rfl)) hP hK hD gBl_N (fun U _ hW => hGG.1.warm hW)) rfl rfl hl.1 rfl (lv_room (Nat.le_of_ble_eq_true rfl)) dL_areRangesApart_228 ⟨by show (2 + 2 * i) + 0 + 0 ≤ 450; omega, by show (12 + 12 * i) + 0 + 0 ≤ 2700; omega⟩) hD hS hA (fun r9 u9 H locs hr9 hP hD hS => ?_)
      have hP : va_P D vwCl ([gO h0 lo (nI n) 1] ++ va_pl L (gE S)) H := hP
      have hD : va_D (va_A ([gO h0 lo (nI n) 1] ++ va_pl L0 (gE S0)) s.heap.size) ([gO h0 lo (nI n) 1] ++ va_pl L (gE S)) := hD
      have hr9 : r9 = nI (gct P 8 5000) := hr9
      subst hr9
      refine lv_icmp_ne (tgt := 238) hx hb dL_areRangesApart_231 (by decide) (fun c9 => absurd (z_eq hlast.symm) c9) (fun _ => ?_)
      refine lv_iconst (v := nI 1) hx hb dL_areRangesApart_234 (by decide) ?_
      refine lv_goto (tgt := 239) hx hb dL_areRangesApart_235 (by decide) ?_
      exact g_retz (wo := fun u : List Nat × gS => [gO h0 lo (nI n) 1] ++ va_pl u.1 (gE u.2)) hx hb hr hlocks hK (nI 1) rfl (L, S) hP hD hS (by omega) (by omega) ⟨rfl, hC⟩ dL_areRangesApart_239
    | succ d ih =>
      intro i e9 bv L S H locs ls hi he1 he2 he3 he4 hC hP hD hS hl
      obtain ⟨a, b, hrg, hbn⟩ := rg_ex hev (k := i) (by omega)
      obtain ⟨q1, q2, q3, q4, q5, q6, q7⟩ := id hrg
      have hpa : P a = 8 := q4 a (Nat.le_refl _) q2
      have hpb : P b = 8 := q4 b q2 (Nat.le_refl _)
      obtain ⟨hea, hect, heb⟩ := rg_next hrg he1 he3
      have hMi := hM i a b hrg
      obtain ⟨c, hc1, hc2⟩ : ∃ c : Nat, bv + nI 1 = nI c ∧ c < a := by
        rcases he4 with ⟨z1, z2⟩ | ⟨z1, z2⟩
        · exact ⟨0, by rw [z1]; decide, by omega⟩
        · refine ⟨e9 + 1, by rw [z1]; exact nI_add _ _, ?_⟩
          have : ¬ e9 + 1 = a := fun z => z2 (by rw [z]; exact hpa)
          omega
      refine lv_iload hx hb dL_areRangesApart_66 (lv_at hl 6 rfl) ?_
      refine lv_aload_n hx hb dL_areRangesApart_68 rfl (lv_at hl 0 rfl) ?_
      refine g_calli (va_runV (As := []) (rest := [.int (nI i)]) ⟨hx, hb, hml, hown, hts⟩ (c_rangesP l D tys [gO h0 lo (nI n) 1] L S H.size (i := 0) rfl hC (h_0 hev)) (cwV 0 hts gL_areRangesApart_X1_ranges rfl rfl rfl (by decide +kernel) ⟨Nat.le_of_ble_eq_true rfl, Nat.le_of_ble_eq_true rfl⟩) (gP_V (va_recv hK hP (ci := 1) rfl (g_inX (X := [gO h0 lo (nI n) 1]) (i := 0) rfl)) hP hK hD gBl_N (fun U _ hW => hGG.1.warm hW)) rfl rfl hl.1 rfl (lv_room (Nat.le_of_ble_eq_true rfl)) dL_areRangesApart_69 ⟨by show (2 + 2 * i) + 0 ≤ 450; omega, by show (12 + 12 * i) + 0 ≤ 2700; omega⟩) hD hS hA (fun r9 u9 H locs hr9 hP hD hS => ?_)
      have hP : va_P D vwCl ([gO h0 lo (nI n) 1] ++ va_pl L (gE S)) H := hP
      have hD : va_D (va_A ([gO h0 lo (nI n) 1] ++ va_pl L0 (gE S0)) s.heap.size) ([gO h0 lo (nI n) 1] ++ va_pl L (gE S)) := hD
      have hr9 : r9 = nI (gbg P 8 5000) := hr9
      subst hr9
      refine lv_icmp_ge (tgt := 221) hx hb dL_areRangesApart_72 (by decide) (fun c9 => absurd c9 (z_nle (by omega) (by omega))) (fun _ => ?_)
      refine lv_aload_n hx hb dL_areRangesApart_75 rfl (lv_at hl 0 rfl) ?_
      refine lv_iload hx hb dL_areRangesApart_76 (lv_at hl 6 rfl) ?_
      refine g_xcalli (vx_runV (As := [.int (nI i)]) (rest := []) ⟨hx, hb, hml, hown, hts⟩ (c_rangeFrom l hl9 D tys [gO h0 lo (nI n) 1] L S H.size (i := 0) rfl hC (nI i) (h_0 hev) (h_51 hev)) (cwV 1 hts gL_areRangesApart_X1_rangeFrom rfl rfl rfl (by decide +kernel) ⟨Nat.le_of_ble_eq_true rfl, Nat.le_of_ble_eq_true rfl⟩) (gP_V (va_recv hK hP (ci := 1) rfl (g_inX (X := [gO h0 lo (nI n) 1]) (i := 0) rfl)) hP hK hD gBl_G (fun U hU hW => gG.call hGG hS (gA_sub hD hS hA) U hU hW)) rfl rfl hl.1 rfl (lv_room (Nat.le_of_ble_eq_true rfl)) dL_areRangesApart_78 ⟨by show (2 + 2 * i) + 0 + 1 ≤ 450; omega, by show (12 + 12 * i) + 0 + 6 ≤ 2700; omega⟩) hD hS hA (fun E ce q9 u9 H locs hc hP hD hS e1 e2 e3 => False.elim (rg_ok hrg hc.1.2)) (fun r9 u9 H locs hr9 hP hD hS => ?_)
      obtain ⟨hr9, hC⟩ := hr9
      obtain ⟨L, S⟩ := u9
      have hP : va_P D vwCl ([gO h0 lo (nI n) 1] ++ va_pl L (gE S)) H := hP
      have hD : va_D (va_A ([gO h0 lo (nI n) 1] ++ va_pl L0 (gE S0)) s.heap.size) ([gO h0 lo (nI n) 1] ++ va_pl L (gE S)) := hD
      have hr9 : r9 = nI a := rg_from (by omega) hrg hr9
      subst hr9
      refine lv_istore (lv' := [(7, .int (nI a)), (0, .ref h0), (1, .int (nI (gct P 8 e9))), (2, .int bv), (3, .int lv), (4, .int (nI mo)), (5, .int (nI 1)), (6, .int (nI i))]) hx hb dL_areRangesApart_81 hl (by decide) rfl (fun ls hl => ?_)
      refine lv_aload_n hx hb dL_areRangesApart_83 rfl (lv_at hl 1 rfl) ?_
      refine lv_iload hx hb dL_areRangesApart_84 (lv_at hl 7 rfl) ?_
      refine g_xcalli (vx_runV (As := [.int (nI i)]) (rest := []) ⟨hx, hb, hml, hown, hts⟩ (c_rangeTo l hl9 D tys [gO h0 lo (nI n) 1] L S H.size (i := 0) rfl hC (nI i) (h_0 hev) (h_51 hev)) (cwV 1 hts gL_areRangesApart_X1_rangeTo rfl rfl rfl (by decide +kernel) ⟨Nat.le_of_ble_eq_true rfl, Nat.le_of_ble_eq_true rfl⟩) (gP_V (va_recv hK hP (ci := 1) rfl (g_inX (X := [gO h0 lo (nI n) 1]) (i := 0) rfl)) hP hK hD gBl_G (fun U hU hW => gG.call hGG hS (gA_sub hD hS hA) U hU hW)) rfl rfl hl.1 rfl (lv_room (Nat.le_of_ble_eq_true rfl)) dL_areRangesApart_86 ⟨by show (2 + 2 * i) + 0 + 1 + 1 ≤ 450; omega, by show (12 + 12 * i) + 0 + 6 + 6 ≤ 2700; omega⟩) hD hS hA (fun E ce q9 u9 H locs hc hP hD hS e1 e2 e3 => False.elim (rg_ok hrg hc.1.2)) (fun r9 u9 H locs hr9 hP hD hS => ?_)
      obtain ⟨hr9, hC⟩ := hr9
      obtain ⟨L, S⟩ := u9
      have hP : va_P D vwCl ([gO h0 lo (nI n) 1] ++ va_pl L (gE S)) H := hP
      have hD : va_D (va_A ([gO h0 lo (nI n) 1] ++ va_pl L0 (gE S0)) s.heap.size) ([gO h0 lo (nI n) 1] ++ va_pl L (gE S)) := hD
      have hr9 : r9 = nI b := rg_to (h_0n hev) (by omega) hrg hr9
      subst hr9
      refine lv_istore (lv' := [(8, .int (nI b)), (7, .int (nI a)), (0, .ref h0), (1, .int (nI (gct P 8 e9))), (2, .int bv), (3, .int lv), (4, .int (nI mo)), (5, .int (nI 1)), (6, .int (nI i))]) hx hb dL_areRangesApart_89 hl (by decide) rfl (fun ls hl => ?_)
      refine lv_iload hx hb dL_areRangesApart_91 (lv_at hl 0 rfl) ?_
      refine lv_iload hx hb dL_areRangesApart_93 (lv_at hl 1 rfl) ?_
      refine lv_isub hx hb dL_areRangesApart_95 ?_
      refine g_top (y := nI (b - a)) (pk_sub (by omega)) ?_
      refine lv_iconst (v := nI 1) hx hb dL_areRangesApart_96 (by decide) ?_
      refine lv_iadd hx hb dL_areRangesApart_97 ?_
      refine g_top (y := nI ((b - a) + 1)) (nI_add _ _) ?_
      refine lv_istore (lv' := [(9, .int (nI ((b - a) + 1))), (8, .int (nI b)), (7, .int (nI a)), (0, .ref h0), (1, .int (nI (gct P 8 e9))), (2, .int bv), (3, .int lv), (4, .int (nI mo)), (5, .int (nI 1)), (6, .int (nI i))]) hx hb dL_areRangesApart_98 hl (by decide) rfl (fun ls hl => ?_)
      refine lv_iload hx hb dL_areRangesApart_100 (lv_at hl 8 rfl) ?_
      refine lv_if_eq (tgt := 204) hx hb dL_areRangesApart_102 (by decide) (fun c9 => absurd c9 (by decide)) (fun _ => ?_)
      refine lv_iload hx hb dL_areRangesApart_105 (lv_at hl 2 rfl) ?_
      refine lv_iload_n hx hb dL_areRangesApart_107 rfl (lv_at hl 5 rfl) ?_
      refine lv_iconst (v := nI 1) hx hb dL_areRangesApart_108 (by decide) ?_
      refine lv_iadd hx hb dL_areRangesApart_109 ?_
      refine g_top (y := nI c) (hc1) ?_
      refine lv_icmp_le (tgt := 204) hx hb dL_areRangesApart_110 (by decide) (fun c9 => absurd c9 (z_nle (by omega) (by omega))) (fun _ => ?_)
      refine lv_iload hx hb dL_areRangesApart_113 (lv_at hl 1 rfl) ?_
      refine lv_iload hx hb dL_areRangesApart_115 (lv_at hl 2 rfl) ?_
      refine lv_icmp_lt (tgt := 204) hx hb dL_areRangesApart_117 (by decide) (fun c9 => absurd c9 (z_nlt (by omega) (by omega))) (fun _ => ?_)
      refine lv_iload hx hb dL_areRangesApart_120 (lv_at hl 1 rfl) ?_
      refine lv_aload_n hx hb dL_areRangesApart_122 rfl (lv_at hl 3 rfl) ?_
      refine g_calli (va_runV (As := []) (rest := [.int (nI b)]) ⟨hx, hb, hml, hown, hts⟩ (c_size l D tys [gO h0 lo (nI n) 1] L S H.size (i := 0) rfl hC) (cwV 0 hts gL_areRangesApart_X1_size rfl rfl rfl (by decide +kernel) ⟨Nat.le_of_ble_eq_true rfl, Nat.le_of_ble_eq_true rfl⟩) (gP_V (va_recv hK hP (ci := 1) rfl (g_inX (X := [gO h0 lo (nI n) 1]) (i := 0) rfl)) hP hK hD gBl_N (fun U _ hW => hGG.1.warm hW)) rfl rfl hl.1 rfl (lv_room (Nat.le_of_ble_eq_true rfl)) dL_areRangesApart_123 ⟨by show (2 + 2 * i) + 0 + 1 + 1 + 0 ≤ 450; omega, by show (12 + 12 * i) + 0 + 6 + 6 + 0 ≤ 2700; omega⟩) hD hS hA (fun r9 u9 H locs hr9 hP hD hS => ?_)
      have hP : va_P D vwCl ([gO h0 lo (nI n) 1] ++ va_pl L (gE S)) H := hP
      have hD : va_D (va_A ([gO h0 lo (nI n) 1] ++ va_pl L0 (gE S0)) s.heap.size) ([gO h0 lo (nI n) 1] ++ va_pl L (gE S)) := hD
      have hr9 : r9 = nI n := hr9
      subst hr9
      refine lv_icmp_gt (tgt := 204) hx hb dL_areRangesApart_126 (by decide) (fun c9 => absurd c9 (z_nlt (by omega) (by omega))) (fun _ => ?_)
      refine lv_aload_n hx hb dL_areRangesApart_129 rfl (lv_at hl 3 rfl) ?_
      refine lv_iload hx hb dL_areRangesApart_130 (lv_at hl 2 rfl) ?_
      obtain ⟨g9, hch9, hwf9, hmx9⟩ := id hC
      refine g_calli (va_runV (As := [.int (nI a)]) (rest := []) ⟨hx, hb, hml, hown, hts⟩ (c_place l D tys [gO h0 lo (nI n) 1] L S H.size (i := 0) rfl hwf9 hmx9 hch9 (nI a)) (cwV 1 hts gL_areRangesApart_X1_placeOf rfl rfl rfl (by decide +kernel) ⟨Nat.le_of_ble_eq_true rfl, Nat.le_of_ble_eq_true rfl⟩) (gP_V (va_recv hK hP (ci := 1) rfl (g_inX (X := [gO h0 lo (nI n) 1]) (i := 0) rfl)) hP hK hD gBl_N (fun U _ hW => hGG.1.warm hW)) rfl rfl hl.1 rfl (lv_room (Nat.le_of_ble_eq_true rfl)) dL_areRangesApart_132 ⟨by show (2 + 2 * i) + 0 + 1 + 1 + 0 + 0 ≤ 450; omega, by show (12 + 12 * i) + 0 + 6 + 6 + 0 + 0 ≤ 2700; omega⟩) hD hS hA (fun r9 u9 H locs hr9 hP hD hS => ?_)
      have hP : va_P D vwCl ([gO h0 lo (nI n) 1] ++ va_pl L (gE S)) H := hP
      have hD : va_D (va_A ([gO h0 lo (nI n) 1] ++ va_pl L0 (gE S0)) s.heap.size) ([gO h0 lo (nI n) 1] ++ va_pl L (gE S)) := hD
      have hr9 : r9 = P a := rg_place hev (by omega) hr9
      subst hr9
      refine lv_bipush (v := nI 8) hx hb dL_areRangesApart_135 (by decide) ?_
      refine lv_icmp_ne (tgt := 204) hx hb dL_areRangesApart_137 (by decide) (fun c9 => absurd (hpa) c9) (fun _ => ?_)
      refine lv_aload_n hx hb dL_areRangesApart_140 rfl (lv_at hl 3 rfl) ?_
      refine lv_iload hx hb dL_areRangesApart_141 (lv_at hl 1 rfl) ?_
      obtain ⟨g9, hch9, hwf9, hmx9⟩ := id hC
      refine g_calli (va_runV (As := [.int (nI b)]) (rest := []) ⟨hx, hb, hml, hown, hts⟩ (c_place l D tys [gO h0 lo (nI n) 1] L S H.size (i := 0) rfl hwf9 hmx9 hch9 (nI b)) (cwV 1 hts gL_areRangesApart_X1_placeOf rfl rfl rfl (by decide +kernel) ⟨Nat.le_of_ble_eq_true rfl, Nat.le_of_ble_eq_true rfl⟩) (gP_V (va_recv hK hP (ci := 1) rfl (g_inX (X := [gO h0 lo (nI n) 1]) (i := 0) rfl)) hP hK hD gBl_N (fun U _ hW => hGG.1.warm hW)) rfl rfl hl.1 rfl (lv_room (Nat.le_of_ble_eq_true rfl)) dL_areRangesApart_143 ⟨by show (2 + 2 * i) + 0 + 1 + 1 + 0 + 0 + 0 ≤ 450; omega, by show (12 + 12 * i) + 0 + 6 + 6 + 0 + 0 + 0 ≤ 2700; omega⟩) hD hS hA (fun r9 u9 H locs hr9 hP hD hS => ?_)
      have hP : va_P D vwCl ([gO h0 lo (nI n) 1] ++ va_pl L (gE S)) H := hP
      have hD : va_D (va_A ([gO h0 lo (nI n) 1] ++ va_pl L0 (gE S0)) s.heap.size) ([gO h0 lo (nI n) 1] ++ va_pl L (gE S)) := hD
      have hr9 : r9 = P b := rg_place hev (by omega) hr9
      subst hr9
      refine lv_bipush (v := nI 8) hx hb dL_areRangesApart_146 (by decide) ?_
      refine lv_icmp_ne (tgt := 204) hx hb dL_areRangesApart_148 (by decide) (fun c9 => absurd (hpb) c9) (fun _ => ?_)
      refine lv_aload_n hx hb dL_areRangesApart_151 rfl (lv_at hl 3 rfl) ?_
      refine lv_iload hx hb dL_areRangesApart_152 (lv_at hl 2 rfl) ?_
      refine lv_iconst (v := nI 1) hx hb dL_areRangesApart_154 (by decide) ?_
      refine lv_isub hx hb dL_areRangesApart_155 ?_
      refine g_top (y := nI (a - 1)) (pk_sub (by omega)) ?_
      obtain ⟨g9, hch9, hwf9, hmx9⟩ := id hC
      refine g_calli (va_runV (As := [.int (nI (a - 1))]) (rest := []) ⟨hx, hb, hml, hown, hts⟩ (c_place l D tys [gO h0 lo (nI n) 1] L S H.size (i := 0) rfl hwf9 hmx9 hch9 (nI (a - 1))) (cwV 1 hts gL_areRangesApart_X1_placeOf rfl rfl rfl (by decide +kernel) ⟨Nat.le_of_ble_eq_true rfl, Nat.le_of_ble_eq_true rfl⟩) (gP_V (va_recv hK hP (ci := 1) rfl (g_inX (X := [gO h0 lo (nI n) 1]) (i := 0) rfl)) hP hK hD gBl_N (fun U _ hW => hGG.1.warm hW)) rfl rfl hl.1 rfl (lv_room (Nat.le_of_ble_eq_true rfl)) dL_areRangesApart_156 ⟨by show (2 + 2 * i) + 0 + 1 + 1 + 0 + 0 + 0 + 0 ≤ 450; omega, by show (12 + 12 * i) + 0 + 6 + 6 + 0 + 0 + 0 + 0 ≤ 2700; omega⟩) hD hS hA (fun r9 u9 H locs hr9 hP hD hS => ?_)
      have hP : va_P D vwCl ([gO h0 lo (nI n) 1] ++ va_pl L (gE S)) H := hP
      have hD : va_D (va_A ([gO h0 lo (nI n) 1] ++ va_pl L0 (gE S0)) s.heap.size) ([gO h0 lo (nI n) 1] ++ va_pl L (gE S)) := hD
      have hr9 : r9 = P (a - 1) := rg_place hev (by omega) hr9
      subst hr9
      refine lv_bipush (v := nI 8) hx hb dL_areRangesApart_159 (by decide) ?_
      refine lv_icmp_eq (tgt := 204) hx hb dL_areRangesApart_161 (by decide) (fun c9 => absurd c9 (q5)) (fun _ => ?_)
      refine lv_aload_n hx hb dL_areRangesApart_164 rfl (lv_at hl 3 rfl) ?_
      refine lv_iload hx hb dL_areRangesApart_165 (lv_at hl 1 rfl) ?_
      refine lv_iconst (v := nI 1) hx hb dL_areRangesApart_167 (by decide) ?_
      refine lv_iadd hx hb dL_areRangesApart_168 ?_
      refine g_top (y := nI (b + 1)) (nI_add _ _) ?_
      obtain ⟨g9, hch9, hwf9, hmx9⟩ := id hC
      refine g_calli (va_runV (As := [.int (nI (b + 1))]) (rest := []) ⟨hx, hb, hml, hown, hts⟩ (c_place l D tys [gO h0 lo (nI n) 1] L S H.size (i := 0) rfl hwf9 hmx9 hch9 (nI (b + 1))) (cwV 1 hts gL_areRangesApart_X1_placeOf rfl rfl rfl (by decide +kernel) ⟨Nat.le_of_ble_eq_true rfl, Nat.le_of_ble_eq_true rfl⟩) (gP_V (va_recv hK hP (ci := 1) rfl (g_inX (X := [gO h0 lo (nI n) 1]) (i := 0) rfl)) hP hK hD gBl_N (fun U _ hW => hGG.1.warm hW)) rfl rfl hl.1 rfl (lv_room (Nat.le_of_ble_eq_true rfl)) dL_areRangesApart_169 ⟨by show (2 + 2 * i) + 0 + 1 + 1 + 0 + 0 + 0 + 0 + 0 ≤ 450; omega, by show (12 + 12 * i) + 0 + 6 + 6 + 0 + 0 + 0 + 0 + 0 ≤ 2700; omega⟩) hD hS hA (fun r9 u9 H locs hr9 hP hD hS => ?_)
      have hP : va_P D vwCl ([gO h0 lo (nI n) 1] ++ va_pl L (gE S)) H := hP
      have hD : va_D (va_A ([gO h0 lo (nI n) 1] ++ va_pl L0 (gE S0)) s.heap.size) ([gO h0 lo (nI n) 1] ++ va_pl L (gE S)) := hD
      have hr9 : r9 = P (b + 1) := rg_place hev (by omega) hr9
      subst hr9
      refine lv_bipush (v := nI 8) hx hb dL_areRangesApart_172 (by decide) ?_
      refine lv_icmp_eq (tgt := 204) hx hb dL_areRangesApart_174 (by decide) (fun c9 => absurd c9 (q6)) (fun _ => ?_)
      refine lv_iload hx hb dL_areRangesApart_177 (lv_at hl 9 rfl) ?_
      refine lv_iload_n hx hb dL_areRangesApart_179 rfl (lv_at hl 6 rfl) ?_
      refine lv_icmp_ge (tgt := 193) hx hb dL_areRangesApart_180 (by decide) (fun hlt => ?_) (fun hlt => ?_)
      · skip
        refine lv_iload hx hb dL_areRangesApart_193 (lv_at hl 0 rfl) ?_
        refine lv_iload hx hb dL_areRangesApart_195 (lv_at hl 7 rfl) ?_
        refine lv_icmp_gt (tgt := 204) hx hb dL_areRangesApart_197 (by decide) (fun c9 => absurd c9 (z_nlt hMi.1 (by omega))) (fun _ => ?_)
        refine lv_iconst (v := nI 1) hx hb dL_areRangesApart_200 (by decide) ?_
        refine lv_goto (tgt := 205) hx hb dL_areRangesApart_201 (by decide) ?_
        refine lv_istore (lv' := [(5, .int (nI 1)), (9, .int (nI ((b - a) + 1))), (8, .int (nI b)), (7, .int (nI a)), (0, .ref h0), (1, .int (nI (gct P 8 e9))), (2, .int bv), (3, .int lv), (4, .int (nI mo)), (6, .int (nI i))]) hx hb dL_areRangesApart_205 hl (by decide) rfl (fun ls hl => ?_)
        refine lv_iload hx hb dL_areRangesApart_207 (lv_at hl 2 rfl) ?_
        refine lv_istore_n (lv' := [(2, .int (nI b)), (5, .int (nI 1)), (9, .int (nI ((b - a) + 1))), (8, .int (nI b)), (7, .int (nI a)), (0, .ref h0), (1, .int (nI (gct P 8 e9))), (3, .int lv), (4, .int (nI mo)), (6, .int (nI i))]) hx hb dL_areRangesApart_209 rfl hl (by decide) rfl (fun ls hl => ?_)
        refine lv_iload_n hx hb dL_areRangesApart_210 rfl (lv_at hl 6 rfl) ?_
        refine lv_iload hx hb dL_areRangesApart_211 (lv_at hl 2 rfl) ?_
        refine lv_iadd hx hb dL_areRangesApart_213 ?_
        refine g_top (y := nI ((gct P 8 e9) + ((b - a) + 1))) (nI_add _ _) ?_
        refine g_top (y := nI (gct P 8 b)) (z_eq (by omega)) ?_
        refine lv_istore_n (lv' := [(1, .int (nI (gct P 8 b))), (2, .int (nI b)), (5, .int (nI 1)), (9, .int (nI ((b - a) + 1))), (8, .int (nI b)), (7, .int (nI a)), (0, .ref h0), (3, .int lv), (4, .int (nI mo)), (6, .int (nI i))]) hx hb dL_areRangesApart_214 rfl hl (by decide) rfl (fun ls hl => ?_)
        refine lv_iinc (v := nI (i + 1)) (lv' := [(6, .int (nI (i + 1))), (1, .int (nI (gct P 8 b))), (2, .int (nI b)), (5, .int (nI 1)), (9, .int (nI ((b - a) + 1))), (8, .int (nI b)), (7, .int (nI a)), (0, .ref h0), (3, .int lv), (4, .int (nI mo))]) hx hb dL_areRangesApart_215 hl (k := 9) rfl (nI_1 _) (by decide) rfl (fun ls hl => ?_)
        refine lv_goto (tgt := 66) hx hb dL_areRangesApart_218 (by decide) ?_
        refine W.widen (k := (2 + 2 * (i + 1))) (n := (12 + 12 * (i + 1))) (by omega) (by omega) ?_
        exact ih (i + 1) b (nI b) L S H locs ls (by omega) heb q3 (fun z => q6 z.2) (Or.inr ⟨rfl, q6⟩) hC hP hD hS (lv_sub hl [7, 1, 2, 8, 9, 3, 0] rfl)
      · skip
        have hlt2 : nI i < lv := Int32.not_le.mp hlt
        have hM2 := hMi.2 hlt2
        refine lv_iload hx hb dL_areRangesApart_183 (lv_at hl 0 rfl) ?_
        refine lv_iload hx hb dL_areRangesApart_185 (lv_at hl 7 rfl) ?_
        refine lv_icmp_ge (tgt := 204) hx hb dL_areRangesApart_187 (by decide) (fun c9 => absurd c9 (z_nle hM2 (by omega))) (fun _ => ?_)
        refine lv_goto (tgt := 200) hx hb dL_areRangesApart_190 (by decide) ?_
        refine lv_iconst (v := nI 1) hx hb dL_areRangesApart_200 (by decide) ?_
        refine lv_goto (tgt := 205) hx hb dL_areRangesApart_201 (by decide) ?_
        refine lv_istore (lv' := [(5, .int (nI 1)), (9, .int (nI ((b - a) + 1))), (8, .int (nI b)), (7, .int (nI a)), (0, .ref h0), (1, .int (nI (gct P 8 e9))), (2, .int bv), (3, .int lv), (4, .int (nI mo)), (6, .int (nI i))]) hx hb dL_areRangesApart_205 hl (by decide) rfl (fun ls hl => ?_)
        refine lv_iload hx hb dL_areRangesApart_207 (lv_at hl 2 rfl) ?_
        refine lv_istore_n (lv' := [(2, .int (nI b)), (5, .int (nI 1)), (9, .int (nI ((b - a) + 1))), (8, .int (nI b)), (7, .int (nI a)), (0, .ref h0), (1, .int (nI (gct P 8 e9))), (3, .int lv), (4, .int (nI mo)), (6, .int (nI i))]) hx hb dL_areRangesApart_209 rfl hl (by decide) rfl (fun ls hl => ?_)
        refine lv_iload_n hx hb dL_areRangesApart_210 rfl (lv_at hl 6 rfl) ?_
        refine lv_iload hx hb dL_areRangesApart_211 (lv_at hl 2 rfl) ?_
        refine lv_iadd hx hb dL_areRangesApart_213 ?_
        refine g_top (y := nI ((gct P 8 e9) + ((b - a) + 1))) (nI_add _ _) ?_
        refine g_top (y := nI (gct P 8 b)) (z_eq (by omega)) ?_
        refine lv_istore_n (lv' := [(1, .int (nI (gct P 8 b))), (2, .int (nI b)), (5, .int (nI 1)), (9, .int (nI ((b - a) + 1))), (8, .int (nI b)), (7, .int (nI a)), (0, .ref h0), (3, .int lv), (4, .int (nI mo)), (6, .int (nI i))]) hx hb dL_areRangesApart_214 rfl hl (by decide) rfl (fun ls hl => ?_)
        refine lv_iinc (v := nI (i + 1)) (lv' := [(6, .int (nI (i + 1))), (1, .int (nI (gct P 8 b))), (2, .int (nI b)), (5, .int (nI 1)), (9, .int (nI ((b - a) + 1))), (8, .int (nI b)), (7, .int (nI a)), (0, .ref h0), (3, .int lv), (4, .int (nI mo))]) hx hb dL_areRangesApart_215 hl (k := 9) rfl (nI_1 _) (by decide) rfl (fun ls hl => ?_)
        refine lv_goto (tgt := 66) hx hb dL_areRangesApart_218 (by decide) ?_
        refine W.widen (k := (2 + 2 * (i + 1))) (n := (12 + 12 * (i + 1))) (by omega) (by omega) ?_
        exact ih (i + 1) b (nI b) L S H locs ls (by omega) heb q3 (fun z => q6 z.2) (Or.inr ⟨rfl, q6⟩) hC hP hD hS (lv_sub hl [7, 1, 2, 8, 9, 3, 0] rfl)
  refine lv_iconst (v := nI 0) hx hb dL_areRangesApart_0 (by decide) ?_
  refine lv_istore_n (lv' := [(1, .int (nI 0)), (0, .ref h0)]) hx hb dL_areRangesApart_1 rfl hl (by decide) rfl (fun ls hl => ?_)
  refine lv_iconst (v := -1) hx hb dL_areRangesApart_2 (by decide) ?_
  refine lv_istore_n (lv' := [(2, .int (-1)), (1, .int (nI 0)), (0, .ref h0)]) hx hb dL_areRangesApart_3 rfl hl (by decide) rfl (fun ls hl => ?_)
  refine lv_aload_n hx hb dL_areRangesApart_4 rfl (lv_at hl 2 rfl) ?_
  obtain ⟨g9, hch9, hwf9, hmx9⟩ := id hC
  refine g_calli (va_runV (As := []) (rest := []) ⟨hx, hb, hml, hown, hts⟩ (c_longest l D tys [gO h0 lo (nI n) 1] L0 S0 s.heap.size (i := 0) rfl hwf9 hmx9 hch9 (h_0 hev)) (cwV 0 hts gL_areRangesApart_X1_longestRange rfl rfl rfl (by decide +kernel) ⟨Nat.le_of_ble_eq_true rfl, Nat.le_of_ble_eq_true rfl⟩) (gP_V (va_recv hK hP (ci := 1) rfl (g_inX (X := [gO h0 lo (nI n) 1]) (i := 0) rfl)) hP hK hD gBl_N (fun U _ hW => hGG.1.warm hW)) rfl rfl hl.1 rfl (lv_room (Nat.le_of_ble_eq_true rfl)) dL_areRangesApart_5 ⟨by show 0 + 0 ≤ 450; omega, by show 0 + 0 ≤ 2700; omega⟩) hD hS hA (fun r9 u9 H locs hr9 hP hD hS => ?_)
  have hP : va_P D vwCl ([gO h0 lo (nI n) 1] ++ va_pl L0 (gE S0)) H := hP
  have hD : va_D (va_A ([gO h0 lo (nI n) 1] ++ va_pl L0 (gE S0)) s.heap.size) ([gO h0 lo (nI n) 1] ++ va_pl L0 (gE S0)) := hD
  have hr9 : r9 = nI (glg P 5000).1 - 1 := hr9
  subst hr9
  by_cases hz : gbg P 8 5000 = 0
  · have hno := gbg_none h00 hz
    refine g_top (y := -1) (by rw [lg_none hev hz]; decide) ?_
    refine lv_istore_n (lv' := [(3, .int (-1)), (2, .int (-1)), (1, .int (nI 0)), (0, .ref h0)]) hx hb dL_areRangesApart_8 rfl hl (by decide) rfl (fun ls hl => ?_)
    refine lv_iload_n hx hb dL_areRangesApart_9 rfl (lv_at hl 0 rfl) ?_
    refine lv_if_ge (tgt := 17) hx hb dL_areRangesApart_10 (by decide) (fun c9 => absurd c9 (by decide)) (fun _ => ?_)
    refine lv_iconst (v := nI 0) hx hb dL_areRangesApart_13 (by decide) ?_
    refine lv_goto (tgt := 30) hx hb dL_areRangesApart_14 (by decide) ?_
    refine lv_istore (lv' := [(4, .int (nI 0)), (3, .int (-1)), (2, .int (-1)), (1, .int (nI 0)), (0, .ref h0)]) hx hb dL_areRangesApart_30 hl (by decide) rfl (fun ls hl => ?_)
    refine lv_iload_n hx hb dL_areRangesApart_32 rfl (lv_at hl 1 rfl) ?_
    refine lv_if_ge (tgt := 40) hx hb dL_areRangesApart_33 (by decide) (fun c9 => absurd c9 (by decide)) (fun _ => ?_)
    refine lv_iconst (v := nI 1) hx hb dL_areRangesApart_36 (by decide) ?_
    refine lv_goto (tgt := 41) hx hb dL_areRangesApart_37 (by decide) ?_
    refine lv_aload_n hx hb dL_areRangesApart_41 rfl (lv_at hl 4 rfl) ?_
    refine g_calli (va_runV (As := []) (rest := [.int (nI 1)]) ⟨hx, hb, hml, hown, hts⟩ (c_rangesP l D tys [gO h0 lo (nI n) 1] L0 S0 H.size (i := 0) rfl hC (h_0 hev)) (cwV 0 hts gL_areRangesApart_X1_ranges rfl rfl rfl (by decide +kernel) ⟨Nat.le_of_ble_eq_true rfl, Nat.le_of_ble_eq_true rfl⟩) (gP_V (va_recv hK hP (ci := 1) rfl (g_inX (X := [gO h0 lo (nI n) 1]) (i := 0) rfl)) hP hK hD gBl_N (fun U _ hW => hGG.1.warm hW)) rfl rfl hl.1 rfl (lv_room (Nat.le_of_ble_eq_true rfl)) dL_areRangesApart_42 ⟨by show 0 + 0 + 0 ≤ 450; omega, by show 0 + 0 + 0 ≤ 2700; omega⟩) hD hS hA (fun r9 u9 H locs hr9 hP hD hS => ?_)
    have hP : va_P D vwCl ([gO h0 lo (nI n) 1] ++ va_pl L0 (gE S0)) H := hP
    have hD : va_D (va_A ([gO h0 lo (nI n) 1] ++ va_pl L0 (gE S0)) s.heap.size) ([gO h0 lo (nI n) 1] ++ va_pl L0 (gE S0)) := hD
    have hr9 : r9 = nI (gbg P 8 5000) := hr9
    subst hr9
    refine lv_if_ne (tgt := 52) hx hb dL_areRangesApart_45 (by decide) (fun c9 => absurd (z_eq hz) c9) (fun _ => ?_)
    refine lv_iconst (v := nI 1) hx hb dL_areRangesApart_48 (by decide) ?_
    refine lv_goto (tgt := 53) hx hb dL_areRangesApart_49 (by decide) ?_
    refine lv_icmp_ne (tgt := 60) hx hb dL_areRangesApart_53 (by decide) (fun c9 => absurd (rfl) c9) (fun _ => ?_)
    refine lv_iconst (v := nI 1) hx hb dL_areRangesApart_56 (by decide) ?_
    refine lv_goto (tgt := 61) hx hb dL_areRangesApart_57 (by decide) ?_
    refine lv_istore (lv' := [(5, .int (nI 1)), (4, .int (nI 0)), (3, .int (-1)), (2, .int (-1)), (1, .int (nI 0)), (0, .ref h0)]) hx hb dL_areRangesApart_61 hl (by decide) rfl (fun ls hl => ?_)
    refine lv_iconst (v := nI 0) hx hb dL_areRangesApart_63 (by decide) ?_
    refine lv_istore (lv' := [(6, .int (nI 0)), (5, .int (nI 1)), (4, .int (nI 0)), (3, .int (-1)), (2, .int (-1)), (1, .int (nI 0)), (0, .ref h0)]) hx hb dL_areRangesApart_64 hl (by decide) rfl (fun ls hl => ?_)
    refine W.widen (k := (2 + 2 * 0)) (n := (12 + 12 * 0)) (by omega) (by omega) ?_
    exact hloop (-1) 0 (by omega) (fun i a b hx9 => absurd (hx9.2.2.2.1 a (Nat.le_refl _) hx9.2.1) (hno a hx9.1 (Nat.le_trans hx9.2.1 hx9.2.2.1))) (gbg P 8 5000) 0 0 (-1) L0 S0 H locs ls (Nat.zero_add _) rfl (by omega) (fun z => h00 z.1) (Or.inl ⟨rfl, rfl⟩) hC hP hD hS (lv_sub hl [6, 5, 4, 3, 2, 1, 0] rfl)
  · obtain ⟨k, ka, kb, hk1, hk2, hk3, hk4, hk5⟩ := lg_some hev hz
    have hk6 := hk3.2.1
    have hk7 := hk3.1
    refine g_top (y := nI k) (by rw [hk1]; exact nI_pred k) ?_
    refine lv_istore_n (lv' := [(3, .int (nI k)), (2, .int (-1)), (1, .int (nI 0)), (0, .ref h0)]) hx hb dL_areRangesApart_8 rfl hl (by decide) rfl (fun ls hl => ?_)
    refine lv_iload_n hx hb dL_areRangesApart_9 rfl (lv_at hl 0 rfl) ?_
    refine lv_if_ge (tgt := 17) hx hb dL_areRangesApart_10 (by decide) (fun _ => ?_) (fun c9 => absurd (z_le (a := 0) (by omega) (by omega)) c9)
    refine lv_aload_n hx hb dL_areRangesApart_17 rfl (lv_at hl 3 rfl) ?_
    refine lv_iload_n hx hb dL_areRangesApart_18 rfl (lv_at hl 0 rfl) ?_
    refine g_xcalli (vx_runV (As := [.int (nI k)]) (rest := []) ⟨hx, hb, hml, hown, hts⟩ (c_rangeTo l hl9 D tys [gO h0 lo (nI n) 1] L0 S0 H.size (i := 0) rfl hC (nI k) (h_0 hev) (h_51 hev)) (cwV 1 hts gL_areRangesApart_X1_rangeTo rfl rfl rfl (by decide +kernel) ⟨Nat.le_of_ble_eq_true rfl, Nat.le_of_ble_eq_true rfl⟩) (gP_V (va_recv hK hP (ci := 1) rfl (g_inX (X := [gO h0 lo (nI n) 1]) (i := 0) rfl)) hP hK hD gBl_G (fun U hU hW => gG.call hGG hS (gA_sub hD hS hA) U hU hW)) rfl rfl hl.1 rfl (lv_room (Nat.le_of_ble_eq_true rfl)) dL_areRangesApart_19 ⟨by show 0 + 0 + 1 ≤ 450; omega, by show 0 + 0 + 6 ≤ 2700; omega⟩) hD hS hA (fun E ce q9 u9 H locs hc hP hD hS e1 e2 e3 => False.elim (rg_ok hk3 hc.1.2)) (fun r9 u9 H locs hr9 hP hD hS => ?_)
    obtain ⟨hr9, hC⟩ := hr9
    obtain ⟨L, S⟩ := u9
    have hP : va_P D vwCl ([gO h0 lo (nI n) 1] ++ va_pl L (gE S)) H := hP
    have hD : va_D (va_A ([gO h0 lo (nI n) 1] ++ va_pl L0 (gE S0)) s.heap.size) ([gO h0 lo (nI n) 1] ++ va_pl L (gE S)) := hD
    have hr9 : r9 = nI kb := rg_to (h_0n hev) (by omega) hk3 hr9
    subst hr9
    refine lv_aload_n hx hb dL_areRangesApart_22 rfl (lv_at hl 3 rfl) ?_
    refine lv_iload_n hx hb dL_areRangesApart_23 rfl (lv_at hl 0 rfl) ?_
    refine g_xcalli (vx_runV (As := [.int (nI k)]) (rest := [.int (nI kb)]) ⟨hx, hb, hml, hown, hts⟩ (c_rangeFrom l hl9 D tys [gO h0 lo (nI n) 1] L S H.size (i := 0) rfl hC (nI k) (h_0 hev) (h_51 hev)) (cwV 1 hts gL_areRangesApart_X1_rangeFrom rfl rfl rfl (by decide +kernel) ⟨Nat.le_of_ble_eq_true rfl, Nat.le_of_ble_eq_true rfl⟩) (gP_V (va_recv hK hP (ci := 1) rfl (g_inX (X := [gO h0 lo (nI n) 1]) (i := 0) rfl)) hP hK hD gBl_G (fun U hU hW => gG.call hGG hS (gA_sub hD hS hA) U hU hW)) rfl rfl hl.1 rfl (lv_room (Nat.le_of_ble_eq_true rfl)) dL_areRangesApart_24 ⟨by show 0 + 0 + 1 + 1 ≤ 450; omega, by show 0 + 0 + 6 + 6 ≤ 2700; omega⟩) hD hS hA (fun E ce q9 u9 H locs hc hP hD hS e1 e2 e3 => False.elim (rg_ok hk3 hc.1.2)) (fun r9 u9 H locs hr9 hP hD hS => ?_)
    obtain ⟨hr9, hC⟩ := hr9
    obtain ⟨L, S⟩ := u9
    have hP : va_P D vwCl ([gO h0 lo (nI n) 1] ++ va_pl L (gE S)) H := hP
    have hD : va_D (va_A ([gO h0 lo (nI n) 1] ++ va_pl L0 (gE S0)) s.heap.size) ([gO h0 lo (nI n) 1] ++ va_pl L (gE S)) := hD
    have hr9 : r9 = nI ka := rg_from (by omega) hk3 hr9
    subst hr9
    refine lv_isub hx hb dL_areRangesApart_27 ?_
    refine g_top (y := nI (kb - ka)) (pk_sub (by omega)) ?_
    refine lv_iconst (v := nI 1) hx hb dL_areRangesApart_28 (by decide) ?_
    refine lv_iadd hx hb dL_areRangesApart_29 ?_
    refine g_top (y := nI ((kb - ka) + 1)) (nI_add _ _) ?_
    refine lv_istore (lv' := [(4, .int (nI ((kb - ka) + 1))), (3, .int (nI k)), (2, .int (-1)), (1, .int (nI 0)), (0, .ref h0)]) hx hb dL_areRangesApart_30 hl (by decide) rfl (fun ls hl => ?_)
    refine lv_iload_n hx hb dL_areRangesApart_32 rfl (lv_at hl 1 rfl) ?_
    refine lv_if_ge (tgt := 40) hx hb dL_areRangesApart_33 (by decide) (fun _ => ?_) (fun c9 => absurd (z_le (a := 0) (by omega) (by omega)) c9)
    refine lv_iconst (v := nI 0) hx hb dL_areRangesApart_40 (by decide) ?_
    refine lv_aload_n hx hb dL_areRangesApart_41 rfl (lv_at hl 4 rfl) ?_
    refine g_calli (va_runV (As := []) (rest := [.int (nI 0)]) ⟨hx, hb, hml, hown, hts⟩ (c_rangesP l D tys [gO h0 lo (nI n) 1] L S H.size (i := 0) rfl hC (h_0 hev)) (cwV 0 hts gL_areRangesApart_X1_ranges rfl rfl rfl (by decide +kernel) ⟨Nat.le_of_ble_eq_true rfl, Nat.le_of_ble_eq_true rfl⟩) (gP_V (va_recv hK hP (ci := 1) rfl (g_inX (X := [gO h0 lo (nI n) 1]) (i := 0) rfl)) hP hK hD gBl_N (fun U _ hW => hGG.1.warm hW)) rfl rfl hl.1 rfl (lv_room (Nat.le_of_ble_eq_true rfl)) dL_areRangesApart_42 ⟨by show 0 + 0 + 1 + 1 + 0 ≤ 450; omega, by show 0 + 0 + 6 + 6 + 0 ≤ 2700; omega⟩) hD hS hA (fun r9 u9 H locs hr9 hP hD hS => ?_)
    have hP : va_P D vwCl ([gO h0 lo (nI n) 1] ++ va_pl L (gE S)) H := hP
    have hD : va_D (va_A ([gO h0 lo (nI n) 1] ++ va_pl L0 (gE S0)) s.heap.size) ([gO h0 lo (nI n) 1] ++ va_pl L (gE S)) := hD
    have hr9 : r9 = nI (gbg P 8 5000) := hr9
    subst hr9
    refine lv_if_ne (tgt := 52) hx hb dL_areRangesApart_45 (by decide) (fun _ => ?_) (fun c9 => absurd c9 (z_ne (b := 0) (by omega) (by omega) hz))
    refine lv_iconst (v := nI 0) hx hb dL_areRangesApart_52 (by decide) ?_
    refine lv_icmp_ne (tgt := 60) hx hb dL_areRangesApart_53 (by decide) (fun c9 => absurd (rfl) c9) (fun _ => ?_)
    refine lv_iconst (v := nI 1) hx hb dL_areRangesApart_56 (by decide) ?_
    refine lv_goto (tgt := 61) hx hb dL_areRangesApart_57 (by decide) ?_
    refine lv_istore (lv' := [(5, .int (nI 1)), (4, .int (nI ((kb - ka) + 1))), (3, .int (nI k)), (2, .int (-1)), (1, .int (nI 0)), (0, .ref h0)]) hx hb dL_areRangesApart_61 hl (by decide) rfl (fun ls hl => ?_)
    refine lv_iconst (v := nI 0) hx hb dL_areRangesApart_63 (by decide) ?_
    refine lv_istore (lv' := [(6, .int (nI 0)), (5, .int (nI 1)), (4, .int (nI ((kb - ka) + 1))), (3, .int (nI k)), (2, .int (-1)), (1, .int (nI 0)), (0, .ref h0)]) hx hb dL_areRangesApart_64 hl (by decide) rfl (fun ls hl => ?_)
    refine W.widen (k := (2 + 2 * 0)) (n := (12 + 12 * 0)) (by omega) (by omega) ?_
    exact hloop (nI k) (kb - ka + 1) (by omega) (fun i a b hx9 => ⟨(hk5 i a b hx9).1, fun z => (hk5 i a b hx9).2 (by rcases Nat.lt_or_ge i k with y | y; exact y; exact absurd z (nI_nlt y (by have := gbg_le P 8 (a - 1); have := hx9.2.2.2.2.2.2; have := hx9.2.1; have := hx9.2.2.1; omega)))⟩) (gbg P 8 5000) 0 0 (-1) L S H locs ls (Nat.zero_add _) rfl (by omega) (fun z => h00 z.1) (Or.inl ⟨rfl, rfl⟩) hC hP hD hS (lv_sub hl [6, 5, 4, 3, 2, 1, 0] rfl)
end
section
/-! p25: isThereAndBack -/
/-- the first number that is poured is the jug's lowest -/
theorem tb_low {P Q : Nat → Int32} {n gb cn a b v : Nat} (hev : gEv P n) (hgb : gb < 8) (hc : 1 ≤ cn) (h0 : gct P (nI gb) 5000 = 0) (hr : gRg P 0 a b) (hQ : Q = gmv P 8 (nI gb) 0 cn) (hv : glow (fun j => Q j = nI gb) 5000 v) : v = a := by
  obtain ⟨q1, q2, q3, q4, q5, q6, q7⟩ := hr
  have hno := gct_none h0
  have hpa : P a = 8 := q4 a (Nat.le_refl _) q2
  have hno8 := gbg_none (h_0n hev) q7
  have e1 : gct P 8 (a - 1) = 0 := gct_zero hno8
  have e2 := gct_yes (P := P) (p := 8) (n := a - 1) (by rw [show a - 1 + 1 = a by omega]; exact hpa)
  rw [show a - 1 + 1 = a by omega] at e2
  have hqa : Q a = nI gb := by rw [hQ]; exact gmv_in hpa (by omega) (by omega)
  refine glow_one hv (Or.inr ⟨q1, by omega, hqa, fun j h1 h2 => ?_⟩)
  show ¬ Q j = nI gb
  rw [hQ, gmv_out (Or.inl (hno8 j h1 (by omega)))]
  exact hno j h1 (by omega)
set_option maxHeartbeats 4000000 in
set_option maxRecDepth 100000 in
/-- isThereAndBack: what an empty goblet got goes back -/
theorem w_isThereAndBack (l : Launch) (hl9 : l.stackTraces = false) (D : va_G) (tys : List (ClassId × FieldType)) (L0 : List Nat) (S0 : gS) (sz : Nat) {P : Nat → Int32} {n h0 lo : Nat} (hC : gCh P lo (L0, S0)) (hI : gInv P n) {gb cn : Nat} (hgb : gb < 8) (hc1 : 1 ≤ cn) (hc2 : cn ≤ 20) : Met l yL_isThereAndBack wsL_isThereAndBack ({ frames := 8, cells := 20, slots := 120, locals := 200 } : Room) (gP D tys [.ref h0, .int (nI gb), .int (nI cn)] ([gO h0 lo (nI n) 1] ++ va_pl L0 (gE S0)) sz (gG (va_A ([gO h0 lo (nI n) 1] ++ va_pl L0 (gE S0)) sz))) (va_Qi (fun (r : Int32) (u : List Nat × gS) => r = nI 1 ∧ gCh P lo u) (fun u t => gWd D tys (va_A ([gO h0 lo (nI n) 1] ++ va_pl L0 (gE S0)) sz) ([gO h0 lo (nI n) 1] ++ va_pl u.1 (gE u.2)) t) (va_A ([gO h0 lo (nI n) 1] ++ va_pl L0 (gE S0)) sz)) 20 120 (va_A ([gO h0 lo (nI n) 1] ++ va_pl L0 (gE S0)) sz) := by
  refine g_ofW (cc := cL_isThereAndBack) (maxL := 9) (ret := some .boolean) (by decide) rfl (Nat.le_of_ble_eq_true rfl) ?_
  intro p e s m below meth c hx hb hr hml hts hown hlocks hin hsz hP hK hD hA hS hGG ls hl
  subst hsz
  have hown : s.vm.findClass RL = some m.cls := hown
  have hev := hI.1
  have hn1 := hI.1.1
  have hn2 := hI.2.1
  have hl : lv_has ls 9 [(0, .ref h0), (1, .int (nI gb)), (2, .int (nI cn))] := hl
  have hg8 : ¬ nI gb = 8 := h_ne (b := 8) (by omega) (by omega) (by omega)
  have hf8 := h_few hev (k := 8) (by omega)
  have hf8 : gct P 8 5000 ≤ n := hf8
  have hfg := h_few hev (k := gb) (by omega)
  have hR := h_fewR hev (k := 8) (by omega)
  have hR : gbg P 8 5000 ≤ n := hR
  have hct := gbg_iff (m := 5000) (h_0n hev)
  refine lv_aload_n hx hb dL_isThereAndBack_0 rfl (lv_at hl 0 rfl) ?_
  refine lv_iload_n hx hb dL_isThereAndBack_1 rfl (lv_at hl 1 rfl) ?_
  refine g_xcalli (vx_runV (As := [.int (nI gb)]) (rest := []) ⟨hx, hb, hml, hown, hts⟩ (c_inGoblet l hl9 D tys [gO h0 lo (nI n) 1] L0 S0 s.heap.size (i := 0) rfl hC (nI gb)) (cwV 1 hts gL_isThereAndBack_X1_inGoblet rfl rfl rfl (by decide +kernel) ⟨Nat.le_of_ble_eq_true rfl, Nat.le_of_ble_eq_true rfl⟩) (gP_V (va_recv hK hP (ci := 1) rfl (g_inX (X := [gO h0 lo (nI n) 1]) (i := 0) rfl)) hP hK hD gBl_G (fun U hU hW => gG.call hGG hS (gA_sub hD hS hA) U hU hW)) rfl rfl hl.1 rfl (lv_room (Nat.le_of_ble_eq_true rfl)) dL_isThereAndBack_2 ⟨by show 0 + 1 ≤ 20; omega, by show 0 + 6 ≤ 120; omega⟩) hD hS hA (fun E ce q9 u9 H locs hc hP hD hS e1 e2 e3 => False.elim (hc.1.2 (h_gob hgb))) (fun r9 u9 H locs hr9 hP hD hS => ?_)
  obtain ⟨⟨-, hr9⟩, hC⟩ := hr9
  obtain ⟨L, S⟩ := u9
  have hP : va_P D vwCl ([gO h0 lo (nI n) 1] ++ va_pl L (gE S)) H := hP
  have hD : va_D (va_A ([gO h0 lo (nI n) 1] ++ va_pl L0 (gE S0)) s.heap.size) ([gO h0 lo (nI n) 1] ++ va_pl L (gE S)) := hD
  have hr9 : r9 = nI (gct P (nI gb) 5000) := hr9
  subst hr9
  by_cases hT : gct P (nI gb) 5000 = 0
  · skip
    refine lv_if_gt (tgt := 15) hx hb dL_isThereAndBack_5 (by decide) (fun c9 => absurd c9 ((z_nlt (by omega) (by omega) : ¬ nI 0 < nI (gct P (nI gb) 5000)))) (fun _ => ?_)
    refine lv_aload_n hx hb dL_isThereAndBack_8 rfl (lv_at hl 0 rfl) ?_
    refine g_calli (va_runV (As := []) (rest := []) ⟨hx, hb, hml, hown, hts⟩ (c_inJug l D tys [gO h0 lo (nI n) 1] L S H.size (i := 0) rfl hC) (cwV 0 hts gL_isThereAndBack_X1_inJug rfl rfl rfl (by decide +kernel) ⟨Nat.le_of_ble_eq_true rfl, Nat.le_of_ble_eq_true rfl⟩) (gP_V (va_recv hK hP (ci := 1) rfl (g_inX (X := [gO h0 lo (nI n) 1]) (i := 0) rfl)) hP hK hD gBl_N (fun U _ hW => hGG.1.warm hW)) rfl rfl hl.1 rfl (lv_room (Nat.le_of_ble_eq_true rfl)) dL_isThereAndBack_9 ⟨by show 0 + 1 + 0 ≤ 20; omega, by show 0 + 6 + 0 ≤ 120; omega⟩) hD hS hA (fun r9 u9 H locs hr9 hP hD hS => ?_)
    have hP : va_P D vwCl ([gO h0 lo (nI n) 1] ++ va_pl L (gE S)) H := hP
    have hD : va_D (va_A ([gO h0 lo (nI n) 1] ++ va_pl L0 (gE S0)) s.heap.size) ([gO h0 lo (nI n) 1] ++ va_pl L (gE S)) := hD
    have hr9 : r9 = nI (gct P 8 5000) := hr9
    subst hr9
    by_cases hJ : gct P 8 5000 = 0
    · skip
      refine lv_if_ne (tgt := 17) hx hb dL_isThereAndBack_12 (by decide) (fun c9 => absurd (z_eq hJ) c9) (fun _ => ?_)
      refine lv_iconst (v := nI 1) hx hb dL_isThereAndBack_15 (by decide) ?_
      exact g_retz (wo := fun u : List Nat × gS => [gO h0 lo (nI n) 1] ++ va_pl u.1 (gE u.2)) hx hb hr hlocks hK (nI 1) rfl (L, S) hP hD hS (by omega) (by omega) ⟨rfl, hC⟩ dL_isThereAndBack_16
    · obtain ⟨fa, fb, hrg, hbn⟩ := rg_ex hev (k := 0) (by have : ¬ gbg P 8 5000 = 0 := fun z => hJ (hct.mpr z); omega)
      obtain ⟨lv, hlv⟩ : ∃ x, x = nI (glg P 5000).1 - 1 := ⟨_, rfl⟩
      obtain ⟨Q, hQ⟩ : ∃ q, q = gmv P 8 (nI gb) 0 cn := ⟨_, rfl⟩
      have hQi : gInv Q n := by rw [hQ]; exact inv_mv (a := 8) (by omega) (by omega) hI
      have hqe := hQi.1
      have hsp := mv_split hev (h_neg (by omega)) hg8 hT hQ 5000 (Nat.le_refl _)
      have hback : gmv Q (nI gb) 8 0 5000 = P := by rw [hQ]; exact mv_back hev (h_neg (by omega)) hT
      have hmc := mv_ct (P := P) (st := 0) (cn := cn) (fun z => hg8 z.symm) 5000
      rw [← hQ, hT] at hmc
      have hrn := hrg.1
      have hrn2 := hrg.2.1
      refine lv_if_ne (tgt := 17) hx hb dL_isThereAndBack_12 (by decide) (fun _ => ?_) (fun c9 => absurd c9 (z_ne (b := 0) (by omega) (by omega) hJ))
      refine lv_aload_n hx hb dL_isThereAndBack_17 rfl (lv_at hl 0 rfl) ?_
      refine g_calli (va_runV (As := []) (rest := []) ⟨hx, hb, hml, hown, hts⟩ (c_inJug l D tys [gO h0 lo (nI n) 1] L S H.size (i := 0) rfl hC) (cwV 0 hts gL_isThereAndBack_X1_inJug rfl rfl rfl (by decide +kernel) ⟨Nat.le_of_ble_eq_true rfl, Nat.le_of_ble_eq_true rfl⟩) (gP_V (va_recv hK hP (ci := 1) rfl (g_inX (X := [gO h0 lo (nI n) 1]) (i := 0) rfl)) hP hK hD gBl_N (fun U _ hW => hGG.1.warm hW)) rfl rfl hl.1 rfl (lv_room (Nat.le_of_ble_eq_true rfl)) dL_isThereAndBack_18 ⟨by show 0 + 1 + 0 + 0 ≤ 20; omega, by show 0 + 6 + 0 + 0 ≤ 120; omega⟩) hD hS hA (fun r9 u9 H locs hr9 hP hD hS => ?_)
      have hP : va_P D vwCl ([gO h0 lo (nI n) 1] ++ va_pl L (gE S)) H := hP
      have hD : va_D (va_A ([gO h0 lo (nI n) 1] ++ va_pl L0 (gE S0)) s.heap.size) ([gO h0 lo (nI n) 1] ++ va_pl L (gE S)) := hD
      have hr9 : r9 = nI (gct P 8 5000) := hr9
      subst hr9
      refine lv_istore_n (lv' := [(3, .int (nI (gct P 8 5000))), (0, .ref h0), (1, .int (nI gb)), (2, .int (nI cn))]) hx hb dL_isThereAndBack_21 rfl hl (by decide) rfl (fun ls hl => ?_)
      refine lv_aload_n hx hb dL_isThereAndBack_22 rfl (lv_at hl 1 rfl) ?_
      refine g_calli (va_runV (As := []) (rest := []) ⟨hx, hb, hml, hown, hts⟩ (c_rangesP l D tys [gO h0 lo (nI n) 1] L S H.size (i := 0) rfl hC (h_0 hev)) (cwV 0 hts gL_isThereAndBack_X1_ranges rfl rfl rfl (by decide +kernel) ⟨Nat.le_of_ble_eq_true rfl, Nat.le_of_ble_eq_true rfl⟩) (gP_V (va_recv hK hP (ci := 1) rfl (g_inX (X := [gO h0 lo (nI n) 1]) (i := 0) rfl)) hP hK hD gBl_N (fun U _ hW => hGG.1.warm hW)) rfl rfl hl.1 rfl (lv_room (Nat.le_of_ble_eq_true rfl)) dL_isThereAndBack_23 ⟨by show 0 + 1 + 0 + 0 + 0 ≤ 20; omega, by show 0 + 6 + 0 + 0 + 0 ≤ 120; omega⟩) hD hS hA (fun r9 u9 H locs hr9 hP hD hS => ?_)
      have hP : va_P D vwCl ([gO h0 lo (nI n) 1] ++ va_pl L (gE S)) H := hP
      have hD : va_D (va_A ([gO h0 lo (nI n) 1] ++ va_pl L0 (gE S0)) s.heap.size) ([gO h0 lo (nI n) 1] ++ va_pl L (gE S)) := hD
      have hr9 : r9 = nI (gbg P 8 5000) := hr9
      subst hr9
      refine lv_istore (lv' := [(4, .int (nI (gbg P 8 5000))), (3, .int (nI (gct P 8 5000))), (0, .ref h0), (1, .int (nI gb)), (2, .int (nI cn))]) hx hb dL_isThereAndBack_26 hl (by decide) rfl (fun ls hl => ?_)
      refine lv_aload_n hx hb dL_isThereAndBack_28 rfl (lv_at hl 2 rfl) ?_
      refine lv_iconst (v := nI 0) hx hb dL_isThereAndBack_29 (by decide) ?_
      refine g_xcalli (vx_runV (As := [.int (nI 0)]) (rest := []) ⟨hx, hb, hml, hown, hts⟩ (c_rangeFrom l hl9 D tys [gO h0 lo (nI n) 1] L S H.size (i := 0) rfl hC (nI 0) (h_0 hev) (h_51 hev)) (cwV 1 hts gL_isThereAndBack_X1_rangeFrom rfl rfl rfl (by decide +kernel) ⟨Nat.le_of_ble_eq_true rfl, Nat.le_of_ble_eq_true rfl⟩) (gP_V (va_recv hK hP (ci := 1) rfl (g_inX (X := [gO h0 lo (nI n) 1]) (i := 0) rfl)) hP hK hD gBl_G (fun U hU hW => gG.call hGG hS (gA_sub hD hS hA) U hU hW)) rfl rfl hl.1 rfl (lv_room (Nat.le_of_ble_eq_true rfl)) dL_isThereAndBack_30 ⟨by show 0 + 1 + 0 + 0 + 0 + 1 ≤ 20; omega, by show 0 + 6 + 0 + 0 + 0 + 6 ≤ 120; omega⟩) hD hS hA (fun E ce q9 u9 H locs hc hP hD hS e1 e2 e3 => False.elim (rg_ok hrg hc.1.2)) (fun r9 u9 H locs hr9 hP hD hS => ?_)
      obtain ⟨hr9, hC⟩ := hr9
      obtain ⟨L, S⟩ := u9
      have hP : va_P D vwCl ([gO h0 lo (nI n) 1] ++ va_pl L (gE S)) H := hP
      have hD : va_D (va_A ([gO h0 lo (nI n) 1] ++ va_pl L0 (gE S0)) s.heap.size) ([gO h0 lo (nI n) 1] ++ va_pl L (gE S)) := hD
      have hr9 : r9 = nI fa := rg_from (by omega) hrg hr9
      subst hr9
      refine lv_istore (lv' := [(5, .int (nI fa)), (4, .int (nI (gbg P 8 5000))), (3, .int (nI (gct P 8 5000))), (0, .ref h0), (1, .int (nI gb)), (2, .int (nI cn))]) hx hb dL_isThereAndBack_33 hl (by decide) rfl (fun ls hl => ?_)
      refine lv_aload_n hx hb dL_isThereAndBack_35 rfl (lv_at hl 3 rfl) ?_
      obtain ⟨g9, hch9, hwf9, hmx9⟩ := id hC
      refine g_calli (va_runV (As := []) (rest := []) ⟨hx, hb, hml, hown, hts⟩ (c_longest l D tys [gO h0 lo (nI n) 1] L S H.size (i := 0) rfl hwf9 hmx9 hch9 (h_0 hev)) (cwV 0 hts gL_isThereAndBack_X1_longestRange rfl rfl rfl (by decide +kernel) ⟨Nat.le_of_ble_eq_true rfl, Nat.le_of_ble_eq_true rfl⟩) (gP_V (va_recv hK hP (ci := 1) rfl (g_inX (X := [gO h0 lo (nI n) 1]) (i := 0) rfl)) hP hK hD gBl_N (fun U _ hW => hGG.1.warm hW)) rfl rfl hl.1 rfl (lv_room (Nat.le_of_ble_eq_true rfl)) dL_isThereAndBack_36 ⟨by show 0 + 1 + 0 + 0 + 0 + 1 + 0 ≤ 20; omega, by show 0 + 6 + 0 + 0 + 0 + 6 + 0 ≤ 120; omega⟩) hD hS hA (fun r9 u9 H locs hr9 hP hD hS => ?_)
      have hP : va_P D vwCl ([gO h0 lo (nI n) 1] ++ va_pl L (gE S)) H := hP
      have hD : va_D (va_A ([gO h0 lo (nI n) 1] ++ va_pl L0 (gE S0)) s.heap.size) ([gO h0 lo (nI n) 1] ++ va_pl L (gE S)) := hD
      have hr9 : r9 = nI (glg P 5000).1 - 1 := hr9
      subst hr9
      refine g_top (y := lv) (hlv.symm) ?_
      refine lv_istore (lv' := [(6, .int lv), (5, .int (nI fa)), (4, .int (nI (gbg P 8 5000))), (3, .int (nI (gct P 8 5000))), (0, .ref h0), (1, .int (nI gb)), (2, .int (nI cn))]) hx hb dL_isThereAndBack_39 hl (by decide) rfl (fun ls hl => ?_)
      refine lv_aload_n hx hb dL_isThereAndBack_41 rfl (lv_at hl 4 rfl) ?_
      refine lv_iload_n hx hb dL_isThereAndBack_42 rfl (lv_at hl 5 rfl) ?_
      refine lv_iload_n hx hb dL_isThereAndBack_43 rfl (lv_at hl 6 rfl) ?_
      refine g_xcalli (vx_runV (As := [.int (nI gb), .int (nI cn)]) (rest := []) ⟨hx, hb, hml, hown, hts⟩ (c_pour l hl9 D tys [gO h0 lo (nI n) 1] L S H.size (i := 0) rfl hC (nI gb) (nI cn)) (cwV 2 hts gL_isThereAndBack_X1_pour rfl rfl rfl (by decide +kernel) ⟨Nat.le_of_ble_eq_true rfl, Nat.le_of_ble_eq_true rfl⟩) (gP_V (va_recv hK hP (ci := 1) rfl (g_inX (X := [gO h0 lo (nI n) 1]) (i := 0) rfl)) hP hK hD gBl_G (fun U hU hW => gG.call hGG hS (gA_sub hD hS hA) U hU hW)) rfl rfl hl.1 rfl (lv_room (Nat.le_of_ble_eq_true rfl)) dL_isThereAndBack_44 ⟨by show 0 + 1 + 0 + 0 + 0 + 1 + 0 + 4 ≤ 20; omega, by show 0 + 6 + 0 + 0 + 0 + 6 + 0 + 20 ≤ 120; omega⟩) hD hS hA (fun E ce q9 u9 H locs hc hP hD hS e1 e2 e3 => False.elim (xb_pour (h_gob hgb) (h_cnt hc1 (by omega)) hJ hc.1)) (fun r9 u9 H locs hr9 hP hD hS => ?_)
      obtain ⟨-, c8, c81, c82, c83, -, hr9, hC⟩ := hr9
      obtain ⟨L, S⟩ := u9
      have hP : va_P D vwCl ([gO h0 lo (nI n) 1] ++ va_pl L (gE S)) H := hP
      have hD : va_D (va_A ([gO h0 lo (nI n) 1] ++ va_pl L0 (gE S0)) s.heap.size) ([gO h0 lo (nI n) 1] ++ va_pl L (gE S)) := hD
      obtain rfl : cn = c8 := (nI_eq (by omega) (by omega)).mp c83
      have hr9 : r9 = nI (min cn (gct P 8 5000)) := hr9
      subst hr9
      rw [show gmv P 8 (nI gb) 0 cn = Q from hQ.symm] at hC
      refine lv_istore (lv' := [(7, .int (nI (min cn (gct P 8 5000)))), (6, .int lv), (5, .int (nI fa)), (4, .int (nI (gbg P 8 5000))), (3, .int (nI (gct P 8 5000))), (0, .ref h0), (1, .int (nI gb)), (2, .int (nI cn))]) hx hb dL_isThereAndBack_47 hl (by decide) rfl (fun ls hl => ?_)
      have hj64 : ∀ (L : List Nat) (S : gS) (H : Heap) (locs : List Loc) (ls : Array Slot), gCh Q lo (L, S) → va_P D vwCl ([gO h0 lo (nI n) 1] ++ va_pl L (gE S)) H → va_D (va_A ([gO h0 lo (nI n) 1] ++ va_pl L0 (gE S0)) s.heap.size) ([gO h0 lo (nI n) 1] ++ va_pl L (gE S)) → va_S (va_A ([gO h0 lo (nI n) 1] ++ va_pl L0 (gE S0)) s.heap.size) s.heap H locs → lv_has ls 9 [(7, .int (nI (min cn (gct P 8 5000)))), (6, .int lv), (5, .int (nI fa)), (4, .int (nI (gbg P 8 5000))), (3, .int (nI (gct P 8 5000))), (0, .ref h0), (1, .int (nI gb)), (2, .int (nI cn))] → W p l e ({ frames := 8, cells := 20, slots := 120, locals := 200 } : Room) s m ([.ref h0, .int (nI gb), .int (nI cn)] : List Value).toArray below meth c H locs (0 + 1 + 0 + 0 + 0 + 1 + 0 + 4) (0 + 6 + 0 + 0 + 0 + 6 + 0 + 20) (MQ below (va_Qi (fun (r : Int32) (u : List Nat × gS) => r = nI 1 ∧ gCh P lo u) (fun u t => gWd D tys (va_A ([gO h0 lo (nI n) 1] ++ va_pl L0 (gE S0)) s.heap.size) ([gO h0 lo (nI n) 1] ++ va_pl u.1 (gE u.2)) t) (va_A ([gO h0 lo (nI n) 1] ++ va_pl L0 (gE S0)) s.heap.size)) ([.ref h0, .int (nI gb), .int (nI cn)] : List Value).toArray s 20 120 (va_A ([gO h0 lo (nI n) 1] ++ va_pl L0 (gE S0)) s.heap.size)) (F0 m 64 ls []) := by
        intro L S H locs ls hC hP hD hS hl
        refine lv_aload_n hx hb dL_isThereAndBack_64 rfl (lv_at hl 5 rfl) ?_
        refine lv_iload_n hx hb dL_isThereAndBack_65 rfl (lv_at hl 6 rfl) ?_
        refine g_xcalli (vx_runV (As := [.int (nI gb)]) (rest := []) ⟨hx, hb, hml, hown, hts⟩ (c_nextOf l hl9 D tys [gO h0 lo (nI n) 1] L S H.size (i := 0) rfl hC (nI gb)) (cwV 1 hts gL_isThereAndBack_X1_nextOf rfl rfl rfl (by decide +kernel) ⟨Nat.le_of_ble_eq_true rfl, Nat.le_of_ble_eq_true rfl⟩) (gP_V (va_recv hK hP (ci := 1) rfl (g_inX (X := [gO h0 lo (nI n) 1]) (i := 0) rfl)) hP hK hD gBl_G (fun U hU hW => gG.call hGG hS (gA_sub hD hS hA) U hU hW)) rfl rfl hl.1 rfl (lv_room (Nat.le_of_ble_eq_true rfl)) dL_isThereAndBack_66 ⟨by show (0 + 1 + 0 + 0 + 0 + 1 + 0 + 4) + 1 ≤ 20; omega, by show (0 + 6 + 0 + 0 + 0 + 6 + 0 + 20) + 6 ≤ 120; omega⟩) hD hS hA (fun E ce q9 u9 H locs hc hP hD hS e1 e2 e3 => False.elim (hc.1.2 (h_gob hgb))) (fun r9 u9 H locs hr9 hP hD hS => ?_)
        obtain ⟨⟨-, v, y, hv, hy, hr9⟩, hC⟩ := hr9
        obtain ⟨L, S⟩ := u9
        have hP : va_P D vwCl ([gO h0 lo (nI n) 1] ++ va_pl L (gE S)) H := hP
        have hD : va_D (va_A ([gO h0 lo (nI n) 1] ++ va_pl L0 (gE S0)) s.heap.size) ([gO h0 lo (nI n) 1] ++ va_pl L (gE S)) := hD
        have hr9 : r9 = nI (if v = 0 then y else v) := hr9
        subst hr9
        have hva := tb_low hev hgb hc1 hT hrg hQ hv
        refine g_top (y := nI fa) (by rw [hva, if_neg (by omega)]) ?_
        refine lv_iload hx hb dL_isThereAndBack_69 (lv_at hl 2 rfl) ?_
        refine lv_icmp_ne (tgt := 121) hx hb dL_isThereAndBack_71 (by decide) (fun c9 => absurd (rfl) c9) (fun _ => ?_)
        refine lv_aload_n hx hb dL_isThereAndBack_74 rfl (lv_at hl 5 rfl) ?_
        refine g_calli (va_runV (As := []) (rest := []) ⟨hx, hb, hml, hown, hts⟩ (c_inJug l D tys [gO h0 lo (nI n) 1] L S H.size (i := 0) rfl hC) (cwV 0 hts gL_isThereAndBack_X1_inJug rfl rfl rfl (by decide +kernel) ⟨Nat.le_of_ble_eq_true rfl, Nat.le_of_ble_eq_true rfl⟩) (gP_V (va_recv hK hP (ci := 1) rfl (g_inX (X := [gO h0 lo (nI n) 1]) (i := 0) rfl)) hP hK hD gBl_N (fun U _ hW => hGG.1.warm hW)) rfl rfl hl.1 rfl (lv_room (Nat.le_of_ble_eq_true rfl)) dL_isThereAndBack_75 ⟨by show (0 + 1 + 0 + 0 + 0 + 1 + 0 + 4) + 1 + 0 ≤ 20; omega, by show (0 + 6 + 0 + 0 + 0 + 6 + 0 + 20) + 6 + 0 ≤ 120; omega⟩) hD hS hA (fun r9 u9 H locs hr9 hP hD hS => ?_)
        have hP : va_P D vwCl ([gO h0 lo (nI n) 1] ++ va_pl L (gE S)) H := hP
        have hD : va_D (va_A ([gO h0 lo (nI n) 1] ++ va_pl L0 (gE S0)) s.heap.size) ([gO h0 lo (nI n) 1] ++ va_pl L (gE S)) := hD
        have hr9 : r9 = nI (gct Q 8 5000) := hr9
        subst hr9
        refine lv_iload_n hx hb dL_isThereAndBack_78 rfl (lv_at hl 4 rfl) ?_
        refine lv_iload hx hb dL_isThereAndBack_79 (lv_at hl 0 rfl) ?_
        refine lv_isub hx hb dL_isThereAndBack_81 ?_
        refine g_top (y := nI ((gct P 8 5000) - (min cn (gct P 8 5000)))) (pk_sub (by omega)) ?_
        refine lv_icmp_ne (tgt := 121) hx hb dL_isThereAndBack_82 (by decide) (fun c9 => absurd (z_eq (by omega)) c9) (fun _ => ?_)
        refine lv_aload_n hx hb dL_isThereAndBack_85 rfl (lv_at hl 5 rfl) ?_
        refine lv_iload_n hx hb dL_isThereAndBack_86 rfl (lv_at hl 6 rfl) ?_
        refine g_xcalli (vx_runV (As := [.int (nI gb)]) (rest := []) ⟨hx, hb, hml, hown, hts⟩ (c_rangesOf l hl9 D tys [gO h0 lo (nI n) 1] L S H.size (i := 0) rfl hC (nI gb) (h_0 hqe)) (cwV 1 hts gL_isThereAndBack_X1_rangesOf rfl rfl rfl (by decide +kernel) ⟨Nat.le_of_ble_eq_true rfl, Nat.le_of_ble_eq_true rfl⟩) (gP_V (va_recv hK hP (ci := 1) rfl (g_inX (X := [gO h0 lo (nI n) 1]) (i := 0) rfl)) hP hK hD gBl_G (fun U hU hW => gG.call hGG hS (gA_sub hD hS hA) U hU hW)) rfl rfl hl.1 rfl (lv_room (Nat.le_of_ble_eq_true rfl)) dL_isThereAndBack_87 ⟨by show (0 + 1 + 0 + 0 + 0 + 1 + 0 + 4) + 1 + 0 + 1 ≤ 20; omega, by show (0 + 6 + 0 + 0 + 0 + 6 + 0 + 20) + 6 + 0 + 6 ≤ 120; omega⟩) hD hS hA (fun E ce q9 u9 H locs hc hP hD hS e1 e2 e3 => False.elim (hc.1.2 (h_gob hgb))) (fun r9 u9 H locs hr9 hP hD hS => ?_)
        obtain ⟨⟨-, hr9⟩, hC⟩ := hr9
        obtain ⟨L, S⟩ := u9
        have hP : va_P D vwCl ([gO h0 lo (nI n) 1] ++ va_pl L (gE S)) H := hP
        have hD : va_D (va_A ([gO h0 lo (nI n) 1] ++ va_pl L0 (gE S0)) s.heap.size) ([gO h0 lo (nI n) 1] ++ va_pl L (gE S)) := hD
        have hr9 : r9 = nI (gbg Q (nI gb) 5000) := hr9
        subst hr9
        refine lv_aload_n hx hb dL_isThereAndBack_90 rfl (lv_at hl 5 rfl) ?_
        refine g_calli (va_runV (As := []) (rest := [.int (nI (gbg Q (nI gb) 5000))]) ⟨hx, hb, hml, hown, hts⟩ (c_rangesP l D tys [gO h0 lo (nI n) 1] L S H.size (i := 0) rfl hC (h_0 hqe)) (cwV 0 hts gL_isThereAndBack_X1_ranges rfl rfl rfl (by decide +kernel) ⟨Nat.le_of_ble_eq_true rfl, Nat.le_of_ble_eq_true rfl⟩) (gP_V (va_recv hK hP (ci := 1) rfl (g_inX (X := [gO h0 lo (nI n) 1]) (i := 0) rfl)) hP hK hD gBl_N (fun U _ hW => hGG.1.warm hW)) rfl rfl hl.1 rfl (lv_room (Nat.le_of_ble_eq_true rfl)) dL_isThereAndBack_91 ⟨by show (0 + 1 + 0 + 0 + 0 + 1 + 0 + 4) + 1 + 0 + 1 + 0 ≤ 20; omega, by show (0 + 6 + 0 + 0 + 0 + 6 + 0 + 20) + 6 + 0 + 6 + 0 ≤ 120; omega⟩) hD hS hA (fun r9 u9 H locs hr9 hP hD hS => ?_)
        have hP : va_P D vwCl ([gO h0 lo (nI n) 1] ++ va_pl L (gE S)) H := hP
        have hD : va_D (va_A ([gO h0 lo (nI n) 1] ++ va_pl L0 (gE S0)) s.heap.size) ([gO h0 lo (nI n) 1] ++ va_pl L (gE S)) := hD
        have hr9 : r9 = nI (gbg Q 8 5000) := hr9
        subst hr9
        refine lv_iadd hx hb dL_isThereAndBack_94 ?_
        refine g_top (y := nI ((gbg Q (nI gb) 5000) + (gbg Q 8 5000))) (nI_add _ _) ?_
        refine lv_iload hx hb dL_isThereAndBack_95 (lv_at hl 3 rfl) ?_
        refine lv_icmp_lt (tgt := 121) hx hb dL_isThereAndBack_97 (by decide) (fun c9 => absurd c9 (z_nlt (by omega) (by omega))) (fun _ => ?_)
        refine lv_aload_n hx hb dL_isThereAndBack_100 rfl (lv_at hl 5 rfl) ?_
        refine lv_iload_n hx hb dL_isThereAndBack_101 rfl (lv_at hl 6 rfl) ?_
        refine g_xcalli (vx_runV (As := [.int (nI gb)]) (rest := []) ⟨hx, hb, hml, hown, hts⟩ (c_rangesOf l hl9 D tys [gO h0 lo (nI n) 1] L S H.size (i := 0) rfl hC (nI gb) (h_0 hqe)) (cwV 1 hts gL_isThereAndBack_X1_rangesOf rfl rfl rfl (by decide +kernel) ⟨Nat.le_of_ble_eq_true rfl, Nat.le_of_ble_eq_true rfl⟩) (gP_V (va_recv hK hP (ci := 1) rfl (g_inX (X := [gO h0 lo (nI n) 1]) (i := 0) rfl)) hP hK hD gBl_G (fun U hU hW => gG.call hGG hS (gA_sub hD hS hA) U hU hW)) rfl rfl hl.1 rfl (lv_room (Nat.le_of_ble_eq_true rfl)) dL_isThereAndBack_102 ⟨by show (0 + 1 + 0 + 0 + 0 + 1 + 0 + 4) + 1 + 0 + 1 + 0 + 1 ≤ 20; omega, by show (0 + 6 + 0 + 0 + 0 + 6 + 0 + 20) + 6 + 0 + 6 + 0 + 6 ≤ 120; omega⟩) hD hS hA (fun E ce q9 u9 H locs hc hP hD hS e1 e2 e3 => False.elim (hc.1.2 (h_gob hgb))) (fun r9 u9 H locs hr9 hP hD hS => ?_)
        obtain ⟨⟨-, hr9⟩, hC⟩ := hr9
        obtain ⟨L, S⟩ := u9
        have hP : va_P D vwCl ([gO h0 lo (nI n) 1] ++ va_pl L (gE S)) H := hP
        have hD : va_D (va_A ([gO h0 lo (nI n) 1] ++ va_pl L0 (gE S0)) s.heap.size) ([gO h0 lo (nI n) 1] ++ va_pl L (gE S)) := hD
        have hr9 : r9 = nI (gbg Q (nI gb) 5000) := hr9
        subst hr9
        refine lv_aload_n hx hb dL_isThereAndBack_105 rfl (lv_at hl 5 rfl) ?_
        refine g_calli (va_runV (As := []) (rest := [.int (nI (gbg Q (nI gb) 5000))]) ⟨hx, hb, hml, hown, hts⟩ (c_rangesP l D tys [gO h0 lo (nI n) 1] L S H.size (i := 0) rfl hC (h_0 hqe)) (cwV 0 hts gL_isThereAndBack_X1_ranges rfl rfl rfl (by decide +kernel) ⟨Nat.le_of_ble_eq_true rfl, Nat.le_of_ble_eq_true rfl⟩) (gP_V (va_recv hK hP (ci := 1) rfl (g_inX (X := [gO h0 lo (nI n) 1]) (i := 0) rfl)) hP hK hD gBl_N (fun U _ hW => hGG.1.warm hW)) rfl rfl hl.1 rfl (lv_room (Nat.le_of_ble_eq_true rfl)) dL_isThereAndBack_106 ⟨by show (0 + 1 + 0 + 0 + 0 + 1 + 0 + 4) + 1 + 0 + 1 + 0 + 1 + 0 ≤ 20; omega, by show (0 + 6 + 0 + 0 + 0 + 6 + 0 + 20) + 6 + 0 + 6 + 0 + 6 + 0 ≤ 120; omega⟩) hD hS hA (fun r9 u9 H locs hr9 hP hD hS => ?_)
        have hP : va_P D vwCl ([gO h0 lo (nI n) 1] ++ va_pl L (gE S)) H := hP
        have hD : va_D (va_A ([gO h0 lo (nI n) 1] ++ va_pl L0 (gE S0)) s.heap.size) ([gO h0 lo (nI n) 1] ++ va_pl L (gE S)) := hD
        have hr9 : r9 = nI (gbg Q 8 5000) := hr9
        subst hr9
        refine lv_iadd hx hb dL_isThereAndBack_109 ?_
        refine g_top (y := nI ((gbg Q (nI gb) 5000) + (gbg Q 8 5000))) (nI_add _ _) ?_
        refine lv_iload hx hb dL_isThereAndBack_110 (lv_at hl 3 rfl) ?_
        refine lv_iconst (v := nI 1) hx hb dL_isThereAndBack_112 (by decide) ?_
        refine lv_iadd hx hb dL_isThereAndBack_113 ?_
        refine g_top (y := nI ((gbg P 8 5000) + 1)) (nI_add _ _) ?_
        refine lv_icmp_gt (tgt := 121) hx hb dL_isThereAndBack_114 (by decide) (fun c9 => absurd c9 (z_nlt (by omega) (by omega))) (fun _ => ?_)
        refine lv_iconst (v := nI 1) hx hb dL_isThereAndBack_117 (by decide) ?_
        refine lv_goto (tgt := 122) hx hb dL_isThereAndBack_118 (by decide) ?_
        refine lv_istore (lv' := [(8, .int (nI 1)), (7, .int (nI (min cn (gct P 8 5000)))), (6, .int lv), (5, .int (nI fa)), (4, .int (nI (gbg P 8 5000))), (3, .int (nI (gct P 8 5000))), (0, .ref h0), (1, .int (nI gb)), (2, .int (nI cn))]) hx hb dL_isThereAndBack_122 hl (by decide) rfl (fun ls hl => ?_)
        refine lv_iload hx hb dL_isThereAndBack_124 (lv_at hl 0 rfl) ?_
        refine lv_if_eq (tgt := 179) hx hb dL_isThereAndBack_126 (by decide) (fun c9 => absurd c9 (by decide)) (fun _ => ?_)
        obtain ⟨P3, hP3⟩ : ∃ q, q = gmv Q (nI gb) 8 0 5000 := ⟨_, rfl⟩
        refine lv_aload_n hx hb dL_isThereAndBack_129 rfl (lv_at hl 6 rfl) ?_
        refine lv_iload_n hx hb dL_isThereAndBack_130 rfl (lv_at hl 7 rfl) ?_
        refine g_xcalli (vx_runV (As := [.int (nI gb)]) (rest := []) ⟨hx, hb, hml, hown, hts⟩ (c_pourBack l hl9 D tys [gO h0 lo (nI n) 1] L S H.size (i := 0) rfl hC (nI gb)) (cwV 1 hts gL_isThereAndBack_X1_pourBack rfl rfl rfl (by decide +kernel) ⟨Nat.le_of_ble_eq_true rfl, Nat.le_of_ble_eq_true rfl⟩) (gP_V (va_recv hK hP (ci := 1) rfl (g_inX (X := [gO h0 lo (nI n) 1]) (i := 0) rfl)) hP hK hD gBl_G (fun U hU hW => gG.call hGG hS (gA_sub hD hS hA) U hU hW)) rfl rfl hl.1 rfl (lv_room (Nat.le_of_ble_eq_true rfl)) dL_isThereAndBack_131 ⟨by show (0 + 1 + 0 + 0 + 0 + 1 + 0 + 4) + 1 + 0 + 1 + 0 + 1 + 0 + 3 ≤ 20; omega, by show (0 + 6 + 0 + 0 + 0 + 6 + 0 + 20) + 6 + 0 + 6 + 0 + 6 + 0 + 14 ≤ 120; omega⟩) hD hS hA (fun E ce q9 u9 H locs hc hP hD hS e1 e2 e3 => False.elim (hc.1.2 (h_gob hgb))) (fun r9 u9 H locs hr9 hP hD hS => ?_)
        obtain ⟨⟨-, hr9⟩, hC⟩ := hr9
        obtain ⟨L, S⟩ := u9
        have hP : va_P D vwCl ([gO h0 lo (nI n) 1] ++ va_pl L (gE S)) H := hP
        have hD : va_D (va_A ([gO h0 lo (nI n) 1] ++ va_pl L0 (gE S0)) s.heap.size) ([gO h0 lo (nI n) 1] ++ va_pl L (gE S)) := hD
        have hr9 : r9 = nI (gct Q (nI gb) 5000) := hr9
        subst hr9
        rw [show gmv Q (nI gb) 8 0 5000 = P3 from hP3.symm] at hC
        rw [hP3, hback] at hC
        refine lv_iload hx hb dL_isThereAndBack_134 (lv_at hl 1 rfl) ?_
        refine lv_icmp_ne (tgt := 179) hx hb dL_isThereAndBack_136 (by decide) (fun c9 => absurd (z_eq (by omega)) c9) (fun _ => ?_)
        refine lv_aload_n hx hb dL_isThereAndBack_139 rfl (lv_at hl 6 rfl) ?_
        refine g_calli (va_runV (As := []) (rest := []) ⟨hx, hb, hml, hown, hts⟩ (c_inJug l D tys [gO h0 lo (nI n) 1] L S H.size (i := 0) rfl hC) (cwV 0 hts gL_isThereAndBack_X1_inJug rfl rfl rfl (by decide +kernel) ⟨Nat.le_of_ble_eq_true rfl, Nat.le_of_ble_eq_true rfl⟩) (gP_V (va_recv hK hP (ci := 1) rfl (g_inX (X := [gO h0 lo (nI n) 1]) (i := 0) rfl)) hP hK hD gBl_N (fun U _ hW => hGG.1.warm hW)) rfl rfl hl.1 rfl (lv_room (Nat.le_of_ble_eq_true rfl)) dL_isThereAndBack_140 ⟨by show (0 + 1 + 0 + 0 + 0 + 1 + 0 + 4) + 1 + 0 + 1 + 0 + 1 + 0 + 3 + 0 ≤ 20; omega, by show (0 + 6 + 0 + 0 + 0 + 6 + 0 + 20) + 6 + 0 + 6 + 0 + 6 + 0 + 14 + 0 ≤ 120; omega⟩) hD hS hA (fun r9 u9 H locs hr9 hP hD hS => ?_)
        have hP : va_P D vwCl ([gO h0 lo (nI n) 1] ++ va_pl L (gE S)) H := hP
        have hD : va_D (va_A ([gO h0 lo (nI n) 1] ++ va_pl L0 (gE S0)) s.heap.size) ([gO h0 lo (nI n) 1] ++ va_pl L (gE S)) := hD
        have hr9 : r9 = nI (gct P 8 5000) := hr9
        subst hr9
        refine lv_iload_n hx hb dL_isThereAndBack_143 rfl (lv_at hl 5 rfl) ?_
        refine lv_icmp_ne (tgt := 179) hx hb dL_isThereAndBack_144 (by decide) (fun c9 => absurd (rfl) c9) (fun _ => ?_)
        refine lv_aload_n hx hb dL_isThereAndBack_147 rfl (lv_at hl 6 rfl) ?_
        refine g_calli (va_runV (As := []) (rest := []) ⟨hx, hb, hml, hown, hts⟩ (c_rangesP l D tys [gO h0 lo (nI n) 1] L S H.size (i := 0) rfl hC (h_0 hev)) (cwV 0 hts gL_isThereAndBack_X1_ranges rfl rfl rfl (by decide +kernel) ⟨Nat.le_of_ble_eq_true rfl, Nat.le_of_ble_eq_true rfl⟩) (gP_V (va_recv hK hP (ci := 1) rfl (g_inX (X := [gO h0 lo (nI n) 1]) (i := 0) rfl)) hP hK hD gBl_N (fun U _ hW => hGG.1.warm hW)) rfl rfl hl.1 rfl (lv_room (Nat.le_of_ble_eq_true rfl)) dL_isThereAndBack_148 ⟨by show (0 + 1 + 0 + 0 + 0 + 1 + 0 + 4) + 1 + 0 + 1 + 0 + 1 + 0 + 3 + 0 + 0 ≤ 20; omega, by show (0 + 6 + 0 + 0 + 0 + 6 + 0 + 20) + 6 + 0 + 6 + 0 + 6 + 0 + 14 + 0 + 0 ≤ 120; omega⟩) hD hS hA (fun r9 u9 H locs hr9 hP hD hS => ?_)
        have hP : va_P D vwCl ([gO h0 lo (nI n) 1] ++ va_pl L (gE S)) H := hP
        have hD : va_D (va_A ([gO h0 lo (nI n) 1] ++ va_pl L0 (gE S0)) s.heap.size) ([gO h0 lo (nI n) 1] ++ va_pl L (gE S)) := hD
        have hr9 : r9 = nI (gbg P 8 5000) := hr9
        subst hr9
        refine lv_iload hx hb dL_isThereAndBack_151 (lv_at hl 4 rfl) ?_
        refine lv_icmp_ne (tgt := 179) hx hb dL_isThereAndBack_153 (by decide) (fun c9 => absurd (rfl) c9) (fun _ => ?_)
        refine lv_aload_n hx hb dL_isThereAndBack_156 rfl (lv_at hl 6 rfl) ?_
        refine lv_iconst (v := nI 0) hx hb dL_isThereAndBack_157 (by decide) ?_
        refine g_xcalli (vx_runV (As := [.int (nI 0)]) (rest := []) ⟨hx, hb, hml, hown, hts⟩ (c_rangeFrom l hl9 D tys [gO h0 lo (nI n) 1] L S H.size (i := 0) rfl hC (nI 0) (h_0 hev) (h_51 hev)) (cwV 1 hts gL_isThereAndBack_X1_rangeFrom rfl rfl rfl (by decide +kernel) ⟨Nat.le_of_ble_eq_true rfl, Nat.le_of_ble_eq_true rfl⟩) (gP_V (va_recv hK hP (ci := 1) rfl (g_inX (X := [gO h0 lo (nI n) 1]) (i := 0) rfl)) hP hK hD gBl_G (fun U hU hW => gG.call hGG hS (gA_sub hD hS hA) U hU hW)) rfl rfl hl.1 rfl (lv_room (Nat.le_of_ble_eq_true rfl)) dL_isThereAndBack_158 ⟨by show (0 + 1 + 0 + 0 + 0 + 1 + 0 + 4) + 1 + 0 + 1 + 0 + 1 + 0 + 3 + 0 + 0 + 1 ≤ 20; omega, by show (0 + 6 + 0 + 0 + 0 + 6 + 0 + 20) + 6 + 0 + 6 + 0 + 6 + 0 + 14 + 0 + 0 + 6 ≤ 120; omega⟩) hD hS hA (fun E ce q9 u9 H locs hc hP hD hS e1 e2 e3 => False.elim (rg_ok hrg hc.1.2)) (fun r9 u9 H locs hr9 hP hD hS => ?_)
        obtain ⟨hr9, hC⟩ := hr9
        obtain ⟨L, S⟩ := u9
        have hP : va_P D vwCl ([gO h0 lo (nI n) 1] ++ va_pl L (gE S)) H := hP
        have hD : va_D (va_A ([gO h0 lo (nI n) 1] ++ va_pl L0 (gE S0)) s.heap.size) ([gO h0 lo (nI n) 1] ++ va_pl L (gE S)) := hD
        have hr9 : r9 = nI fa := rg_from (by omega) hrg hr9
        subst hr9
        refine lv_iload hx hb dL_isThereAndBack_161 (lv_at hl 3 rfl) ?_
        refine lv_icmp_ne (tgt := 179) hx hb dL_isThereAndBack_163 (by decide) (fun c9 => absurd (rfl) c9) (fun _ => ?_)
        refine lv_aload_n hx hb dL_isThereAndBack_166 rfl (lv_at hl 6 rfl) ?_
        obtain ⟨g9, hch9, hwf9, hmx9⟩ := id hC
        refine g_calli (va_runV (As := []) (rest := []) ⟨hx, hb, hml, hown, hts⟩ (c_longest l D tys [gO h0 lo (nI n) 1] L S H.size (i := 0) rfl hwf9 hmx9 hch9 (h_0 hev)) (cwV 0 hts gL_isThereAndBack_X1_longestRange rfl rfl rfl (by decide +kernel) ⟨Nat.le_of_ble_eq_true rfl, Nat.le_of_ble_eq_true rfl⟩) (gP_V (va_recv hK hP (ci := 1) rfl (g_inX (X := [gO h0 lo (nI n) 1]) (i := 0) rfl)) hP hK hD gBl_N (fun U _ hW => hGG.1.warm hW)) rfl rfl hl.1 rfl (lv_room (Nat.le_of_ble_eq_true rfl)) dL_isThereAndBack_167 ⟨by show (0 + 1 + 0 + 0 + 0 + 1 + 0 + 4) + 1 + 0 + 1 + 0 + 1 + 0 + 3 + 0 + 0 + 1 + 0 ≤ 20; omega, by show (0 + 6 + 0 + 0 + 0 + 6 + 0 + 20) + 6 + 0 + 6 + 0 + 6 + 0 + 14 + 0 + 0 + 6 + 0 ≤ 120; omega⟩) hD hS hA (fun r9 u9 H locs hr9 hP hD hS => ?_)
        have hP : va_P D vwCl ([gO h0 lo (nI n) 1] ++ va_pl L (gE S)) H := hP
        have hD : va_D (va_A ([gO h0 lo (nI n) 1] ++ va_pl L0 (gE S0)) s.heap.size) ([gO h0 lo (nI n) 1] ++ va_pl L (gE S)) := hD
        have hr9 : r9 = nI (glg P 5000).1 - 1 := hr9
        subst hr9
        refine g_top (y := lv) (hlv.symm) ?_
        refine lv_iload hx hb dL_isThereAndBack_170 (lv_at hl 2 rfl) ?_
        refine lv_icmp_ne (tgt := 179) hx hb dL_isThereAndBack_172 (by decide) (fun c9 => absurd (rfl) c9) (fun _ => ?_)
        refine lv_iconst (v := nI 1) hx hb dL_isThereAndBack_175 (by decide) ?_
        refine lv_goto (tgt := 180) hx hb dL_isThereAndBack_176 (by decide) ?_
        exact g_retz (wo := fun u : List Nat × gS => [gO h0 lo (nI n) 1] ++ va_pl u.1 (gE u.2)) hx hb hr hlocks hK (nI 1) rfl (L, S) hP hD hS (by omega) (by omega) ⟨rfl, hC⟩ dL_isThereAndBack_180
      refine lv_iload hx hb dL_isThereAndBack_49 (lv_at hl 0 rfl) ?_
      refine lv_iload_n hx hb dL_isThereAndBack_51 rfl (lv_at hl 7 rfl) ?_
      refine lv_iload_n hx hb dL_isThereAndBack_52 rfl (lv_at hl 4 rfl) ?_
      refine lv_icmp_ge (tgt := 60) hx hb dL_isThereAndBack_53 (by decide) (fun hcn => ?_) (fun hcn => ?_)
      · have hcn2 := (nI_leI (by omega) (by omega)).mp hcn
        refine lv_iload_n hx hb dL_isThereAndBack_60 rfl (lv_at hl 4 rfl) ?_
        refine lv_icmp_ne (tgt := 121) hx hb dL_isThereAndBack_61 (by decide) (fun c9 => absurd (z_eq (by omega)) c9) (fun _ => ?_)
        exact hj64 L S H locs ls hC hP hD hS (lv_sub hl [0, 1, 2, 3, 4, 5, 6, 7] rfl)
      · have hcn2 : ¬ gct P 8 5000 ≤ cn := fun z => hcn (nI_le z (by omega))
        refine lv_iload_n hx hb dL_isThereAndBack_56 rfl (lv_at hl 7 rfl) ?_
        refine lv_goto (tgt := 61) hx hb dL_isThereAndBack_57 (by decide) ?_
        refine lv_icmp_ne (tgt := 121) hx hb dL_isThereAndBack_61 (by decide) (fun c9 => absurd (z_eq (by omega)) c9) (fun _ => ?_)
        exact hj64 L S H locs ls hC hP hD hS (lv_sub hl [0, 1, 2, 3, 4, 5, 6, 7] rfl)
  · skip
    refine lv_if_gt (tgt := 15) hx hb dL_isThereAndBack_5 (by decide) (fun _ => ?_) (fun c9 => absurd ((z_lt (by omega) (by omega) : nI 0 < nI (gct P (nI gb) 5000))) c9)
    refine lv_iconst (v := nI 1) hx hb dL_isThereAndBack_15 (by decide) ?_
    exact g_retz (wo := fun u : List Nat × gS => [gO h0 lo (nI n) 1] ++ va_pl u.1 (gE u.2)) hx hb hr hlocks hK (nI 1) rfl (L, S) hP hD hS (by omega) (by omega) ⟨rfl, hC⟩ dL_isThereAndBack_16
end
section
/-! p25: isTakenBack -/
theorem tk_one {P : Nat → Int32} {g : Int32} {a b : Nat} (ha0 : ¬ a = 0) (hb0 : ¬ b = 0) (ha : glow (fun j => P j = g) 5000 a ∨ (glow (fun j => P j = g) 5000 0 ∧ glow (fun j => P j = 8) 5000 a)) (hb : glow (fun j => P j = g) 5000 b ∨ (glow (fun j => P j = g) 5000 0 ∧ glow (fun j => P j = 8) 5000 b)) : a = b := by
  rcases ha with ha | ⟨ha1, ha2⟩ <;> rcases hb with hb | ⟨hb1, hb2⟩
  · exact glow_one ha hb
  · exact absurd (glow_one ha hb1) ha0
  · exact absurd (glow_one hb ha1) hb0
  · exact glow_one ha2 hb2
set_option maxHeartbeats 4000000 in
set_option maxRecDepth 100000 in
/-- isTakenBack: what is drunk and given back is in the jug -/
theorem w_isTakenBack (l : Launch) (hl9 : l.stackTraces = false) (D : va_G) (tys : List (ClassId × FieldType)) (L0 : List Nat) (S0 : gS) (sz : Nat) {P : Nat → Int32} {n h0 lo : Nat} (hC : gCh P lo (L0, S0)) (hI : gInv P n) {gb : Nat} (hgb : gb < 8) : Met l yL_isTakenBack wsL_isTakenBack ({ frames := 8, cells := 12, slots := 60, locals := 200 } : Room) (gP D tys [.ref h0, .int (nI gb)] ([gO h0 lo (nI n) 1] ++ va_pl L0 (gE S0)) sz (gG (va_A ([gO h0 lo (nI n) 1] ++ va_pl L0 (gE S0)) sz))) (va_Qi (fun (r : Int32) (u : List Nat × gS) => r = nI 1 ∧ ∃ P2 : Nat → Int32, gInv P2 n ∧ gCh P2 lo u) (fun u t => gWd D tys (va_A ([gO h0 lo (nI n) 1] ++ va_pl L0 (gE S0)) sz) ([gO h0 lo (nI n) 1] ++ va_pl u.1 (gE u.2)) t) (va_A ([gO h0 lo (nI n) 1] ++ va_pl L0 (gE S0)) sz)) 12 60 (va_A ([gO h0 lo (nI n) 1] ++ va_pl L0 (gE S0)) sz) := by
  refine g_ofW (cc := cL_isTakenBack) (maxL := 7) (ret := some .boolean) (by decide) rfl (Nat.le_of_ble_eq_true rfl) ?_
  intro p e s m below meth c hx hb hr hml hts hown hlocks hin hsz hP hK hD hA hS hGG ls hl
  subst hsz
  have hown : s.vm.findClass RL = some m.cls := hown
  have hev := hI.1
  have hn1 := hI.1.1
  have hn2 := hI.2.1
  have hl : lv_has ls 7 [(0, .ref h0), (1, .int (nI gb))] := hl
  have hg8 : ¬ nI gb = 8 := h_ne (b := 8) (by omega) (by omega) (by omega)
  have hg9 : ¬ nI gb = 9 := h_ne (b := 9) (by omega) (by omega) (by omega)
  have hf8 : gct P 8 5000 ≤ n := h_few hev (k := 8) (by omega)
  have hf9 : gct P 9 5000 ≤ n := h_few hev (k := 9) (by omega)
  have hj12 : ∀ (y9 : Nat) (L : List Nat) (S : gS) (H : Heap) (locs : List Loc) (ls : Array Slot), ¬ y9 = 0 → (glow (fun j => P j = nI gb) 5000 y9 ∨ (glow (fun j => P j = nI gb) 5000 0 ∧ glow (fun j => P j = 8) 5000 y9)) → gCh P lo (L, S) → va_P D vwCl ([gO h0 lo (nI n) 1] ++ va_pl L (gE S)) H → va_D (va_A ([gO h0 lo (nI n) 1] ++ va_pl L0 (gE S0)) s.heap.size) ([gO h0 lo (nI n) 1] ++ va_pl L (gE S)) → va_S (va_A ([gO h0 lo (nI n) 1] ++ va_pl L0 (gE S0)) s.heap.size) s.heap H locs → lv_has ls 7 [(0, .ref h0), (1, .int (nI gb)), (2, .int (nI y9))] → W p l e ({ frames := 8, cells := 12, slots := 60, locals := 200 } : Room) s m ([.ref h0, .int (nI gb)] : List Value).toArray below meth c H locs 1 6 (MQ below (va_Qi (fun (r : Int32) (u : List Nat × gS) => r = nI 1 ∧ ∃ P2 : Nat → Int32, gInv P2 n ∧ gCh P2 lo u) (fun u t => gWd D tys (va_A ([gO h0 lo (nI n) 1] ++ va_pl L0 (gE S0)) s.heap.size) ([gO h0 lo (nI n) 1] ++ va_pl u.1 (gE u.2)) t) (va_A ([gO h0 lo (nI n) 1] ++ va_pl L0 (gE S0)) s.heap.size)) ([.ref h0, .int (nI gb)] : List Value).toArray s 12 60 (va_A ([gO h0 lo (nI n) 1] ++ va_pl L0 (gE S0)) s.heap.size)) (F0 m 12 ls []) := by
    intro y9 L S H locs ls hy0 hyy hC hP hD hS hl
    have hy1 : 1 ≤ y9 ∧ y9 ≤ 5000 ∧ (P y9 = nI gb ∨ P y9 = 8) := by
      rcases hyy with z | ⟨-, z⟩
      · have := glow_at z hy0; exact ⟨this.1, this.2.1, Or.inl this.2.2⟩
      · have := glow_at z hy0; exact ⟨this.1, this.2.1, Or.inr this.2.2⟩
    obtain ⟨hy1, hy2, hy3⟩ := hy1
    have hyn : y9 ≤ n := by rcases hy3 with z | z; exact (inv_in (k := gb) (by omega) hev z).2; exact (inv_in (k := 8) (by omega) hev z).2
    have hy9 : ¬ P y9 = 9 := by rcases hy3 with z | z; rw [z]; exact hg9; rw [z]; decide
    obtain ⟨Q, hQ⟩ : ∃ q, q = va_up P y9 9 := ⟨_, rfl⟩
    have hQi : gInv Q n := by rw [hQ]; exact inv_up (k := 9) (by omega) hy1 hyn hI
    have hqe := hQi.1
    have hQy : Q y9 = 9 := by rw [hQ]; exact va_up_self _ _ _
    have hQ9 : gct Q 9 5000 = gct P 9 5000 + 1 := by rw [hQ, up_to hy1 hy9 5000, if_pos hy2]
    obtain ⟨P3, hP3⟩ : ∃ q, q = va_up Q y9 8 := ⟨_, rfl⟩
    have hP3p : P3 = va_up P y9 8 := by rw [hP3, hQ]; exact up_up
    have hP3i : gInv P3 n := by rw [hP3p]; exact inv_up (k := 8) (by omega) hy1 hyn hI
    have hp3e := hP3i.1
    have hP3y : P3 y9 = 8 := by rw [hP3]; exact va_up_self _ _ _
    have hP39 : gct P3 9 5000 = gct P 9 5000 := by rw [hP3p]; exact up_ot hy9 (by decide)
    refine lv_aload_n hx hb dL_isTakenBack_12 rfl (lv_at hl 0 rfl) ?_
    refine lv_iload_n hx hb dL_isTakenBack_13 rfl (lv_at hl 2 rfl) ?_
    obtain ⟨g9, hch9, hwf9, hmx9⟩ := id hC
    refine g_calli (va_runV (As := [.int (nI y9)]) (rest := []) ⟨hx, hb, hml, hown, hts⟩ (c_place l D tys [gO h0 lo (nI n) 1] L S H.size (i := 0) rfl hwf9 hmx9 hch9 (nI y9)) (cwV 1 hts gL_isTakenBack_X1_placeOf rfl rfl rfl (by decide +kernel) ⟨Nat.le_of_ble_eq_true rfl, Nat.le_of_ble_eq_true rfl⟩) (gP_V (va_recv hK hP (ci := 1) rfl (g_inX (X := [gO h0 lo (nI n) 1]) (i := 0) rfl)) hP hK hD gBl_N (fun U _ hW => hGG.1.warm hW)) rfl rfl hl.1 rfl (lv_room (Nat.le_of_ble_eq_true rfl)) dL_isTakenBack_14 ⟨by show 1 + 0 ≤ 12; omega, by show 6 + 0 ≤ 60; omega⟩) hD hS hA (fun r9 u9 H locs hr9 hP hD hS => ?_)
    have hP : va_P D vwCl ([gO h0 lo (nI n) 1] ++ va_pl L (gE S)) H := hP
    have hD : va_D (va_A ([gO h0 lo (nI n) 1] ++ va_pl L0 (gE S0)) s.heap.size) ([gO h0 lo (nI n) 1] ++ va_pl L (gE S)) := hD
    have hr9 : r9 = P y9 := rg_place hev (by omega) hr9
    subst hr9
    refine lv_istore_n (lv' := [(3, .int (P y9)), (0, .ref h0), (1, .int (nI gb)), (2, .int (nI y9))]) hx hb dL_isTakenBack_17 rfl hl (by decide) rfl (fun ls hl => ?_)
    refine lv_aload_n hx hb dL_isTakenBack_18 rfl (lv_at hl 1 rfl) ?_
    refine g_calli (va_runV (As := []) (rest := []) ⟨hx, hb, hml, hown, hts⟩ (c_inJug l D tys [gO h0 lo (nI n) 1] L S H.size (i := 0) rfl hC) (cwV 0 hts gL_isTakenBack_X1_inJug rfl rfl rfl (by decide +kernel) ⟨Nat.le_of_ble_eq_true rfl, Nat.le_of_ble_eq_true rfl⟩) (gP_V (va_recv hK hP (ci := 1) rfl (g_inX (X := [gO h0 lo (nI n) 1]) (i := 0) rfl)) hP hK hD gBl_N (fun U _ hW => hGG.1.warm hW)) rfl rfl hl.1 rfl (lv_room (Nat.le_of_ble_eq_true rfl)) dL_isTakenBack_19 ⟨by show 1 + 0 + 0 ≤ 12; omega, by show 6 + 0 + 0 ≤ 60; omega⟩) hD hS hA (fun r9 u9 H locs hr9 hP hD hS => ?_)
    have hP : va_P D vwCl ([gO h0 lo (nI n) 1] ++ va_pl L (gE S)) H := hP
    have hD : va_D (va_A ([gO h0 lo (nI n) 1] ++ va_pl L0 (gE S0)) s.heap.size) ([gO h0 lo (nI n) 1] ++ va_pl L (gE S)) := hD
    have hr9 : r9 = nI (gct P 8 5000) := hr9
    subst hr9
    refine lv_istore (lv' := [(4, .int (nI (gct P 8 5000))), (3, .int (P y9)), (0, .ref h0), (1, .int (nI gb)), (2, .int (nI y9))]) hx hb dL_isTakenBack_22 hl (by decide) rfl (fun ls hl => ?_)
    refine lv_aload_n hx hb dL_isTakenBack_24 rfl (lv_at hl 2 rfl) ?_
    refine g_calli (va_runV (As := []) (rest := []) ⟨hx, hb, hml, hown, hts⟩ (c_drunk l D tys [gO h0 lo (nI n) 1] L S H.size (i := 0) rfl hC) (cwV 0 hts gL_isTakenBack_X1_drunk rfl rfl rfl (by decide +kernel) ⟨Nat.le_of_ble_eq_true rfl, Nat.le_of_ble_eq_true rfl⟩) (gP_V (va_recv hK hP (ci := 1) rfl (g_inX (X := [gO h0 lo (nI n) 1]) (i := 0) rfl)) hP hK hD gBl_N (fun U _ hW => hGG.1.warm hW)) rfl rfl hl.1 rfl (lv_room (Nat.le_of_ble_eq_true rfl)) dL_isTakenBack_25 ⟨by show 1 + 0 + 0 + 0 ≤ 12; omega, by show 6 + 0 + 0 + 0 ≤ 60; omega⟩) hD hS hA (fun r9 u9 H locs hr9 hP hD hS => ?_)
    have hP : va_P D vwCl ([gO h0 lo (nI n) 1] ++ va_pl L (gE S)) H := hP
    have hD : va_D (va_A ([gO h0 lo (nI n) 1] ++ va_pl L0 (gE S0)) s.heap.size) ([gO h0 lo (nI n) 1] ++ va_pl L (gE S)) := hD
    have hr9 : r9 = nI (gct P 9 5000) := hr9
    subst hr9
    refine lv_istore (lv' := [(5, .int (nI (gct P 9 5000))), (4, .int (nI (gct P 8 5000))), (3, .int (P y9)), (0, .ref h0), (1, .int (nI gb)), (2, .int (nI y9))]) hx hb dL_isTakenBack_28 hl (by decide) rfl (fun ls hl => ?_)
    refine lv_aload_n hx hb dL_isTakenBack_30 rfl (lv_at hl 3 rfl) ?_
    refine lv_iload_n hx hb dL_isTakenBack_31 rfl (lv_at hl 4 rfl) ?_
    refine g_xcalli (vx_runV (As := [.int (nI gb)]) (rest := []) ⟨hx, hb, hml, hown, hts⟩ (c_drink l hl9 D tys [gO h0 lo (nI n) 1] L S H.size (i := 0) rfl hC (nI gb) (gEv_out hev)) (cwV 1 hts gL_isTakenBack_X1_drink rfl rfl rfl (by decide +kernel) ⟨Nat.le_of_ble_eq_true rfl, Nat.le_of_ble_eq_true rfl⟩) (gP_V (va_recv hK hP (ci := 1) rfl (g_inX (X := [gO h0 lo (nI n) 1]) (i := 0) rfl)) hP hK hD gBl_G (fun U hU hW => gG.call hGG hS (gA_sub hD hS hA) U hU hW)) rfl rfl hl.1 rfl (lv_room (Nat.le_of_ble_eq_true rfl)) dL_isTakenBack_32 ⟨by show 1 + 0 + 0 + 0 + 5 ≤ 12; omega, by show 6 + 0 + 0 + 0 + 22 ≤ 60; omega⟩) hD hS hA (fun E ce q9 u9 H locs hc hP hD hS e1 e2 e3 => False.elim (xb_drink (h_gob hgb) (fun z => by rcases hyy with h | ⟨-, h⟩; exact absurd ((glow_ct h).mpr z.1) hy0; exact absurd ((glow_ct h).mpr z.2) hy0) hc.1)) (fun r9 u9 H locs hr9 hP hD hS => ?_)
    obtain ⟨-, d9, d91, d92, hr9, d93, hC⟩ := hr9
    obtain ⟨L, S⟩ := u9
    have hP : va_P D vwCl ([gO h0 lo (nI n) 1] ++ va_pl L (gE S)) H := hP
    have hD : va_D (va_A ([gO h0 lo (nI n) 1] ++ va_pl L0 (gE S0)) s.heap.size) ([gO h0 lo (nI n) 1] ++ va_pl L (gE S)) := hD
    have hr9 : r9 = nI d9 := hr9
    subst hr9
    obtain rfl : y9 = d9 := tk_one hy0 (by omega) hyy d93
    rw [← hQ] at hC
    refine lv_iload_n hx hb dL_isTakenBack_35 rfl (lv_at hl 5 rfl) ?_
    refine lv_icmp_ne (tgt := 105) hx hb dL_isTakenBack_36 (by decide) (fun c9 => absurd (rfl) c9) (fun _ => ?_)
    refine lv_aload_n hx hb dL_isTakenBack_39 rfl (lv_at hl 3 rfl) ?_
    refine lv_iload_n hx hb dL_isTakenBack_40 rfl (lv_at hl 5 rfl) ?_
    obtain ⟨g9, hch9, hwf9, hmx9⟩ := id hC
    refine g_calli (va_runV (As := [.int (nI y9)]) (rest := []) ⟨hx, hb, hml, hown, hts⟩ (c_place l D tys [gO h0 lo (nI n) 1] L S H.size (i := 0) rfl hwf9 hmx9 hch9 (nI y9)) (cwV 1 hts gL_isTakenBack_X1_placeOf rfl rfl rfl (by decide +kernel) ⟨Nat.le_of_ble_eq_true rfl, Nat.le_of_ble_eq_true rfl⟩) (gP_V (va_recv hK hP (ci := 1) rfl (g_inX (X := [gO h0 lo (nI n) 1]) (i := 0) rfl)) hP hK hD gBl_N (fun U _ hW => hGG.1.warm hW)) rfl rfl hl.1 rfl (lv_room (Nat.le_of_ble_eq_true rfl)) dL_isTakenBack_41 ⟨by show 1 + 0 + 0 + 0 + 5 + 0 ≤ 12; omega, by show 6 + 0 + 0 + 0 + 22 + 0 ≤ 60; omega⟩) hD hS hA (fun r9 u9 H locs hr9 hP hD hS => ?_)
    have hP : va_P D vwCl ([gO h0 lo (nI n) 1] ++ va_pl L (gE S)) H := hP
    have hD : va_D (va_A ([gO h0 lo (nI n) 1] ++ va_pl L0 (gE S0)) s.heap.size) ([gO h0 lo (nI n) 1] ++ va_pl L (gE S)) := hD
    have hr9 : r9 = Q y9 := rg_place hqe (by omega) hr9
    subst hr9
    refine lv_bipush (v := nI 9) hx hb dL_isTakenBack_44 (by decide) ?_
    refine lv_icmp_ne (tgt := 105) hx hb dL_isTakenBack_46 (by decide) (fun c9 => absurd (hQy) c9) (fun _ => ?_)
    refine lv_aload_n hx hb dL_isTakenBack_49 rfl (lv_at hl 3 rfl) ?_
    refine g_calli (va_runV (As := []) (rest := []) ⟨hx, hb, hml, hown, hts⟩ (c_drunk l D tys [gO h0 lo (nI n) 1] L S H.size (i := 0) rfl hC) (cwV 0 hts gL_isTakenBack_X1_drunk rfl rfl rfl (by decide +kernel) ⟨Nat.le_of_ble_eq_true rfl, Nat.le_of_ble_eq_true rfl⟩) (gP_V (va_recv hK hP (ci := 1) rfl (g_inX (X := [gO h0 lo (nI n) 1]) (i := 0) rfl)) hP hK hD gBl_N (fun U _ hW => hGG.1.warm hW)) rfl rfl hl.1 rfl (lv_room (Nat.le_of_ble_eq_true rfl)) dL_isTakenBack_50 ⟨by show 1 + 0 + 0 + 0 + 5 + 0 + 0 ≤ 12; omega, by show 6 + 0 + 0 + 0 + 22 + 0 + 0 ≤ 60; omega⟩) hD hS hA (fun r9 u9 H locs hr9 hP hD hS => ?_)
    have hP : va_P D vwCl ([gO h0 lo (nI n) 1] ++ va_pl L (gE S)) H := hP
    have hD : va_D (va_A ([gO h0 lo (nI n) 1] ++ va_pl L0 (gE S0)) s.heap.size) ([gO h0 lo (nI n) 1] ++ va_pl L (gE S)) := hD
    have hr9 : r9 = nI (gct Q 9 5000) := hr9
    subst hr9
    refine lv_iload hx hb dL_isTakenBack_53 (lv_at hl 0 rfl) ?_
    refine lv_iconst (v := nI 1) hx hb dL_isTakenBack_55 (by decide) ?_
    refine lv_iadd hx hb dL_isTakenBack_56 ?_
    refine g_top (y := nI ((gct P 9 5000) + 1)) (nI_add _ _) ?_
    refine lv_icmp_ne (tgt := 105) hx hb dL_isTakenBack_57 (by decide) (fun c9 => absurd (z_eq hQ9) c9) (fun _ => ?_)
    refine lv_aload_n hx hb dL_isTakenBack_60 rfl (lv_at hl 3 rfl) ?_
    refine lv_iload_n hx hb dL_isTakenBack_61 rfl (lv_at hl 5 rfl) ?_
    refine g_xcalli (vx_runV (As := [.int (nI y9)]) (rest := []) ⟨hx, hb, hml, hown, hts⟩ (c_giveBack l hl9 D tys [gO h0 lo (nI n) 1] L S H.size (i := 0) rfl hC (nI y9) (gEv_out hqe)) (cwV 1 hts gL_isTakenBack_X1_giveBack rfl rfl rfl (by decide +kernel) ⟨Nat.le_of_ble_eq_true rfl, Nat.le_of_ble_eq_true rfl⟩) (gP_V (va_recv hK hP (ci := 1) rfl (g_inX (X := [gO h0 lo (nI n) 1]) (i := 0) rfl)) hP hK hD gBl_G (fun U hU hW => gG.call hGG hS (gA_sub hD hS hA) U hU hW)) rfl rfl hl.1 rfl (lv_room (Nat.le_of_ble_eq_true rfl)) dL_isTakenBack_62 ⟨by show 1 + 0 + 0 + 0 + 5 + 0 + 0 + 3 ≤ 12; omega, by show 6 + 0 + 0 + 0 + 22 + 0 + 0 + 14 ≤ 60; omega⟩) hD hS hA (fun E ce q9 u9 H locs hc hP hD hS e1 e2 e3 => False.elim (hc.1.2 y9 hy1 hy2 rfl hQy)) (fun r9 u9 H locs hr9 hP hD hS => ?_)
    obtain ⟨j8, j81, j82, j83, -, hr9, hC⟩ := hr9
    obtain ⟨L, S⟩ := u9
    have hP : va_P D vwCl ([gO h0 lo (nI n) 1] ++ va_pl L (gE S)) H := hP
    have hD : va_D (va_A ([gO h0 lo (nI n) 1] ++ va_pl L0 (gE S0)) s.heap.size) ([gO h0 lo (nI n) 1] ++ va_pl L (gE S)) := hD
    obtain rfl : y9 = j8 := (nI_eq (by omega) (by omega)).mp j83
    have hr9 : r9 = nI (gct (va_up Q y9 8) 8 5000) := hr9
    subst hr9
    rw [← hP3] at hC
    refine g_top (y := nI (gct P3 8 5000)) (by rw [← hP3]) ?_
    refine lv_iload hx hb dL_isTakenBack_65 (lv_at hl 1 rfl) ?_
    refine lv_iload_n hx hb dL_isTakenBack_67 rfl (lv_at hl 2 rfl) ?_
    refine lv_bipush (v := nI 8) hx hb dL_isTakenBack_68 (by decide) ?_
    by_cases hw : P y9 = 8
    · have he : P3 = P := by rw [hP3p]; exact up_same hw
      have h83 : gct P3 8 5000 = gct P 8 5000 := by rw [he]
      refine lv_icmp_ne (tgt := 77) hx hb dL_isTakenBack_70 (by decide) (fun c9 => absurd (hw) c9) (fun _ => ?_)
      refine lv_iconst (v := nI 0) hx hb dL_isTakenBack_73 (by decide) ?_
      refine lv_goto (tgt := 78) hx hb dL_isTakenBack_74 (by decide) ?_
      refine lv_iadd hx hb dL_isTakenBack_78 ?_
      refine g_top (y := nI ((gct P 8 5000) + 0)) (nI_add _ _) ?_
      refine lv_icmp_ne (tgt := 105) hx hb dL_isTakenBack_79 (by decide) (fun c9 => absurd (z_eq (by omega)) c9) (fun _ => ?_)
      refine lv_aload_n hx hb dL_isTakenBack_82 rfl (lv_at hl 3 rfl) ?_
      refine lv_iload_n hx hb dL_isTakenBack_83 rfl (lv_at hl 5 rfl) ?_
      obtain ⟨g9, hch9, hwf9, hmx9⟩ := id hC
      refine g_calli (va_runV (As := [.int (nI y9)]) (rest := []) ⟨hx, hb, hml, hown, hts⟩ (c_place l D tys [gO h0 lo (nI n) 1] L S H.size (i := 0) rfl hwf9 hmx9 hch9 (nI y9)) (cwV 1 hts gL_isTakenBack_X1_placeOf rfl rfl rfl (by decide +kernel) ⟨Nat.le_of_ble_eq_true rfl, Nat.le_of_ble_eq_true rfl⟩) (gP_V (va_recv hK hP (ci := 1) rfl (g_inX (X := [gO h0 lo (nI n) 1]) (i := 0) rfl)) hP hK hD gBl_N (fun U _ hW => hGG.1.warm hW)) rfl rfl hl.1 rfl (lv_room (Nat.le_of_ble_eq_true rfl)) dL_isTakenBack_84 ⟨by show 1 + 0 + 0 + 0 + 5 + 0 + 0 + 3 + 0 ≤ 12; omega, by show 6 + 0 + 0 + 0 + 22 + 0 + 0 + 14 + 0 ≤ 60; omega⟩) hD hS hA (fun r9 u9 H locs hr9 hP hD hS => ?_)
      have hP : va_P D vwCl ([gO h0 lo (nI n) 1] ++ va_pl L (gE S)) H := hP
      have hD : va_D (va_A ([gO h0 lo (nI n) 1] ++ va_pl L0 (gE S0)) s.heap.size) ([gO h0 lo (nI n) 1] ++ va_pl L (gE S)) := hD
      have hr9 : r9 = P3 y9 := rg_place hp3e (by omega) hr9
      subst hr9
      refine lv_bipush (v := nI 8) hx hb dL_isTakenBack_87 (by decide) ?_
      refine lv_icmp_ne (tgt := 105) hx hb dL_isTakenBack_89 (by decide) (fun c9 => absurd (hP3y) c9) (fun _ => ?_)
      refine lv_aload_n hx hb dL_isTakenBack_92 rfl (lv_at hl 3 rfl) ?_
      refine g_calli (va_runV (As := []) (rest := []) ⟨hx, hb, hml, hown, hts⟩ (c_drunk l D tys [gO h0 lo (nI n) 1] L S H.size (i := 0) rfl hC) (cwV 0 hts gL_isTakenBack_X1_drunk rfl rfl rfl (by decide +kernel) ⟨Nat.le_of_ble_eq_true rfl, Nat.le_of_ble_eq_true rfl⟩) (gP_V (va_recv hK hP (ci := 1) rfl (g_inX (X := [gO h0 lo (nI n) 1]) (i := 0) rfl)) hP hK hD gBl_N (fun U _ hW => hGG.1.warm hW)) rfl rfl hl.1 rfl (lv_room (Nat.le_of_ble_eq_true rfl)) dL_isTakenBack_93 ⟨by show 1 + 0 + 0 + 0 + 5 + 0 + 0 + 3 + 0 + 0 ≤ 12; omega, by show 6 + 0 + 0 + 0 + 22 + 0 + 0 + 14 + 0 + 0 ≤ 60; omega⟩) hD hS hA (fun r9 u9 H locs hr9 hP hD hS => ?_)
      have hP : va_P D vwCl ([gO h0 lo (nI n) 1] ++ va_pl L (gE S)) H := hP
      have hD : va_D (va_A ([gO h0 lo (nI n) 1] ++ va_pl L0 (gE S0)) s.heap.size) ([gO h0 lo (nI n) 1] ++ va_pl L (gE S)) := hD
      have hr9 : r9 = nI (gct P3 9 5000) := hr9
      subst hr9
      refine lv_iload hx hb dL_isTakenBack_96 (lv_at hl 0 rfl) ?_
      refine lv_icmp_ne (tgt := 105) hx hb dL_isTakenBack_98 (by decide) (fun c9 => absurd (z_eq hP39) c9) (fun _ => ?_)
      refine lv_iconst (v := nI 1) hx hb dL_isTakenBack_101 (by decide) ?_
      refine lv_goto (tgt := 106) hx hb dL_isTakenBack_102 (by decide) ?_
      refine lv_istore (lv' := [(6, .int (nI 1)), (5, .int (nI (gct P 9 5000))), (4, .int (nI (gct P 8 5000))), (3, .int (P y9)), (0, .ref h0), (1, .int (nI gb)), (2, .int (nI y9))]) hx hb dL_isTakenBack_106 hl (by decide) rfl (fun ls hl => ?_)
      refine lv_iload hx hb dL_isTakenBack_108 (lv_at hl 0 rfl) ?_
      refine lv_if_eq (tgt := 132) hx hb dL_isTakenBack_110 (by decide) (fun c9 => absurd c9 (by decide)) (fun _ => ?_)
      refine lv_iload_n hx hb dL_isTakenBack_113 rfl (lv_at hl 3 rfl) ?_
      refine lv_bipush (v := nI 8) hx hb dL_isTakenBack_114 (by decide) ?_
      refine lv_icmp_ne (tgt := 128) hx hb dL_isTakenBack_116 (by decide) (fun c9 => absurd (hw) c9) (fun _ => ?_)
      refine lv_aload_n hx hb dL_isTakenBack_119 rfl (lv_at hl 4 rfl) ?_
      refine lv_iload_n hx hb dL_isTakenBack_120 rfl (lv_at hl 5 rfl) ?_
      refine g_xcalli (vx_runV (As := [.int (nI gb)]) (rest := []) ⟨hx, hb, hml, hown, hts⟩ (c_nextOf l hl9 D tys [gO h0 lo (nI n) 1] L S H.size (i := 0) rfl hC (nI gb)) (cwV 1 hts gL_isTakenBack_X1_nextOf rfl rfl rfl (by decide +kernel) ⟨Nat.le_of_ble_eq_true rfl, Nat.le_of_ble_eq_true rfl⟩) (gP_V (va_recv hK hP (ci := 1) rfl (g_inX (X := [gO h0 lo (nI n) 1]) (i := 0) rfl)) hP hK hD gBl_G (fun U hU hW => gG.call hGG hS (gA_sub hD hS hA) U hU hW)) rfl rfl hl.1 rfl (lv_room (Nat.le_of_ble_eq_true rfl)) dL_isTakenBack_121 ⟨by show 1 + 0 + 0 + 0 + 5 + 0 + 0 + 3 + 0 + 0 + 1 ≤ 12; omega, by show 6 + 0 + 0 + 0 + 22 + 0 + 0 + 14 + 0 + 0 + 6 ≤ 60; omega⟩) hD hS hA (fun E ce q9 u9 H locs hc hP hD hS e1 e2 e3 => False.elim (hc.1.2 (h_gob hgb))) (fun r9 u9 H locs hr9 hP hD hS => ?_)
      obtain ⟨⟨-, v, y, hv, hy, hr9⟩, hC⟩ := hr9
      obtain ⟨L, S⟩ := u9
      have hP : va_P D vwCl ([gO h0 lo (nI n) 1] ++ va_pl L (gE S)) H := hP
      have hD : va_D (va_A ([gO h0 lo (nI n) 1] ++ va_pl L0 (gE S0)) s.heap.size) ([gO h0 lo (nI n) 1] ++ va_pl L (gE S)) := hD
      have hr9 : r9 = nI (if v = 0 then y else v) := hr9
      subst hr9
      rw [he] at hv hy
      have hvy : (if v = 0 then y else v) = y9 := by
        by_cases z : v = 0
        · rw [if_pos z]
          rcases hyy with h | ⟨-, h⟩
          · exact absurd ((glow_one h hv).trans z) hy0
          · exact glow_one hy h
        · rw [if_neg z]
          rcases hyy with h | ⟨h, -⟩
          · exact glow_one hv h
          · exact absurd (glow_one hv h) z
      refine g_top (y := nI y9) (z_eq hvy) ?_
      refine lv_iload_n hx hb dL_isTakenBack_124 rfl (lv_at hl 6 rfl) ?_
      refine lv_icmp_ne (tgt := 132) hx hb dL_isTakenBack_125 (by decide) (fun c9 => absurd (rfl) c9) (fun _ => ?_)
      refine lv_iconst (v := nI 1) hx hb dL_isTakenBack_128 (by decide) ?_
      refine lv_goto (tgt := 133) hx hb dL_isTakenBack_129 (by decide) ?_
      exact g_retz (wo := fun u : List Nat × gS => [gO h0 lo (nI n) 1] ++ va_pl u.1 (gE u.2)) hx hb hr hlocks hK (nI 1) rfl (L, S) hP hD hS (by omega) (by omega) ⟨rfl, P3, hP3i, hC⟩ dL_isTakenBack_133
    · have h83 : gct P3 8 5000 = gct P 8 5000 + 1 := by rw [hP3p, up_to hy1 hw 5000, if_pos hy2]
      refine lv_icmp_ne (tgt := 77) hx hb dL_isTakenBack_70 (by decide) (fun _ => ?_) (fun c9 => absurd c9 (hw))
      refine lv_iconst (v := nI 1) hx hb dL_isTakenBack_77 (by decide) ?_
      refine lv_iadd hx hb dL_isTakenBack_78 ?_
      refine g_top (y := nI ((gct P 8 5000) + 1)) (nI_add _ _) ?_
      refine lv_icmp_ne (tgt := 105) hx hb dL_isTakenBack_79 (by decide) (fun c9 => absurd (z_eq (by omega)) c9) (fun _ => ?_)
      refine lv_aload_n hx hb dL_isTakenBack_82 rfl (lv_at hl 3 rfl) ?_
      refine lv_iload_n hx hb dL_isTakenBack_83 rfl (lv_at hl 5 rfl) ?_
      obtain ⟨g9, hch9, hwf9, hmx9⟩ := id hC
      refine g_calli (va_runV (As := [.int (nI y9)]) (rest := []) ⟨hx, hb, hml, hown, hts⟩ (c_place l D tys [gO h0 lo (nI n) 1] L S H.size (i := 0) rfl hwf9 hmx9 hch9 (nI y9)) (cwV 1 hts gL_isTakenBack_X1_placeOf rfl rfl rfl (by decide +kernel) ⟨Nat.le_of_ble_eq_true rfl, Nat.le_of_ble_eq_true rfl⟩) (gP_V (va_recv hK hP (ci := 1) rfl (g_inX (X := [gO h0 lo (nI n) 1]) (i := 0) rfl)) hP hK hD gBl_N (fun U _ hW => hGG.1.warm hW)) rfl rfl hl.1 rfl (lv_room (Nat.le_of_ble_eq_true rfl)) dL_isTakenBack_84 ⟨by show 1 + 0 + 0 + 0 + 5 + 0 + 0 + 3 + 0 ≤ 12; omega, by show 6 + 0 + 0 + 0 + 22 + 0 + 0 + 14 + 0 ≤ 60; omega⟩) hD hS hA (fun r9 u9 H locs hr9 hP hD hS => ?_)
      have hP : va_P D vwCl ([gO h0 lo (nI n) 1] ++ va_pl L (gE S)) H := hP
      have hD : va_D (va_A ([gO h0 lo (nI n) 1] ++ va_pl L0 (gE S0)) s.heap.size) ([gO h0 lo (nI n) 1] ++ va_pl L (gE S)) := hD
      have hr9 : r9 = P3 y9 := rg_place hp3e (by omega) hr9
      subst hr9
      refine lv_bipush (v := nI 8) hx hb dL_isTakenBack_87 (by decide) ?_
      refine lv_icmp_ne (tgt := 105) hx hb dL_isTakenBack_89 (by decide) (fun c9 => absurd (hP3y) c9) (fun _ => ?_)
      refine lv_aload_n hx hb dL_isTakenBack_92 rfl (lv_at hl 3 rfl) ?_
      refine g_calli (va_runV (As := []) (rest := []) ⟨hx, hb, hml, hown, hts⟩ (c_drunk l D tys [gO h0 lo (nI n) 1] L S H.size (i := 0) rfl hC) (cwV 0 hts gL_isTakenBack_X1_drunk rfl rfl rfl (by decide +kernel) ⟨Nat.le_of_ble_eq_true rfl, Nat.le_of_ble_eq_true rfl⟩) (gP_V (va_recv hK hP (ci := 1) rfl (g_inX (X := [gO h0 lo (nI n) 1]) (i := 0) rfl)) hP hK hD gBl_N (fun U _ hW => hGG.1.warm hW)) rfl rfl hl.1 rfl (lv_room (Nat.le_of_ble_eq_true rfl)) dL_isTakenBack_93 ⟨by show 1 + 0 + 0 + 0 + 5 + 0 + 0 + 3 + 0 + 0 ≤ 12; omega, by show 6 + 0 + 0 + 0 + 22 + 0 + 0 + 14 + 0 + 0 ≤ 60; omega⟩) hD hS hA (fun r9 u9 H locs hr9 hP hD hS => ?_)
      have hP : va_P D vwCl ([gO h0 lo (nI n) 1] ++ va_pl L (gE S)) H := hP
      have hD : va_D (va_A ([gO h0 lo (nI n) 1] ++ va_pl L0 (gE S0)) s.heap.size) ([gO h0 lo (nI n) 1] ++ va_pl L (gE S)) := hD
      have hr9 : r9 = nI (gct P3 9 5000) := hr9
      subst hr9
      refine lv_iload hx hb dL_isTakenBack_96 (lv_at hl 0 rfl) ?_
      refine lv_icmp_ne (tgt := 105) hx hb dL_isTakenBack_98 (by decide) (fun c9 => absurd (z_eq hP39) c9) (fun _ => ?_)
      refine lv_iconst (v := nI 1) hx hb dL_isTakenBack_101 (by decide) ?_
      refine lv_goto (tgt := 106) hx hb dL_isTakenBack_102 (by decide) ?_
      refine lv_istore (lv' := [(6, .int (nI 1)), (5, .int (nI (gct P 9 5000))), (4, .int (nI (gct P 8 5000))), (3, .int (P y9)), (0, .ref h0), (1, .int (nI gb)), (2, .int (nI y9))]) hx hb dL_isTakenBack_106 hl (by decide) rfl (fun ls hl => ?_)
      refine lv_iload hx hb dL_isTakenBack_108 (lv_at hl 0 rfl) ?_
      refine lv_if_eq (tgt := 132) hx hb dL_isTakenBack_110 (by decide) (fun c9 => absurd c9 (by decide)) (fun _ => ?_)
      refine lv_iload_n hx hb dL_isTakenBack_113 rfl (lv_at hl 3 rfl) ?_
      refine lv_bipush (v := nI 8) hx hb dL_isTakenBack_114 (by decide) ?_
      refine lv_icmp_ne (tgt := 128) hx hb dL_isTakenBack_116 (by decide) (fun _ => ?_) (fun c9 => absurd c9 (hw))
      refine lv_iconst (v := nI 1) hx hb dL_isTakenBack_128 (by decide) ?_
      refine lv_goto (tgt := 133) hx hb dL_isTakenBack_129 (by decide) ?_
      exact g_retz (wo := fun u : List Nat × gS => [gO h0 lo (nI n) 1] ++ va_pl u.1 (gE u.2)) hx hb hr hlocks hK (nI 1) rfl (L, S) hP hD hS (by omega) (by omega) ⟨rfl, P3, hP3i, hC⟩ dL_isTakenBack_133
  refine lv_aload_n hx hb dL_isTakenBack_0 rfl (lv_at hl 0 rfl) ?_
  refine lv_iload_n hx hb dL_isTakenBack_1 rfl (lv_at hl 1 rfl) ?_
  refine g_xcalli (vx_runV (As := [.int (nI gb)]) (rest := []) ⟨hx, hb, hml, hown, hts⟩ (c_nextOf l hl9 D tys [gO h0 lo (nI n) 1] L0 S0 s.heap.size (i := 0) rfl hC (nI gb)) (cwV 1 hts gL_isTakenBack_X1_nextOf rfl rfl rfl (by decide +kernel) ⟨Nat.le_of_ble_eq_true rfl, Nat.le_of_ble_eq_true rfl⟩) (gP_V (va_recv hK hP (ci := 1) rfl (g_inX (X := [gO h0 lo (nI n) 1]) (i := 0) rfl)) hP hK hD gBl_G (fun U hU hW => gG.call hGG hS (gA_sub hD hS hA) U hU hW)) rfl rfl hl.1 rfl (lv_room (Nat.le_of_ble_eq_true rfl)) dL_isTakenBack_2 ⟨by show 0 + 1 ≤ 12; omega, by show 0 + 6 ≤ 60; omega⟩) hD hS hA (fun E ce q9 u9 H locs hc hP hD hS e1 e2 e3 => False.elim (hc.1.2 (h_gob hgb))) (fun r9 u9 H locs hr9 hP hD hS => ?_)
  obtain ⟨⟨-, v, y, hv, hy, hr9⟩, hC⟩ := hr9
  obtain ⟨L, S⟩ := u9
  have hP : va_P D vwCl ([gO h0 lo (nI n) 1] ++ va_pl L (gE S)) H := hP
  have hD : va_D (va_A ([gO h0 lo (nI n) 1] ++ va_pl L0 (gE S0)) s.heap.size) ([gO h0 lo (nI n) 1] ++ va_pl L (gE S)) := hD
  have hr9 : r9 = nI (if v = 0 then y else v) := hr9
  subst hr9
  by_cases hv0 : v = 0
  · subst hv0
    by_cases hy0 : y = 0
    · subst hy0
      refine g_top (y := nI 0) (rfl) ?_
      refine lv_istore_n (lv' := [(2, .int (nI 0)), (0, .ref h0), (1, .int (nI gb))]) hx hb dL_isTakenBack_5 rfl hl (by decide) rfl (fun ls hl => ?_)
      refine lv_iload_n hx hb dL_isTakenBack_6 rfl (lv_at hl 0 rfl) ?_
      refine lv_if_ne (tgt := 12) hx hb dL_isTakenBack_7 (by decide) (fun c9 => absurd (rfl) c9) (fun _ => ?_)
      refine lv_iconst (v := nI 1) hx hb dL_isTakenBack_10 (by decide) ?_
      exact g_retz (wo := fun u : List Nat × gS => [gO h0 lo (nI n) 1] ++ va_pl u.1 (gE u.2)) hx hb hr hlocks hK (nI 1) rfl (L, S) hP hD hS (by omega) (by omega) ⟨rfl, P, hI, hC⟩ dL_isTakenBack_11
    · skip
      refine g_top (y := nI y) (by rw [if_pos rfl]) ?_
      refine lv_istore_n (lv' := [(2, .int (nI y)), (0, .ref h0), (1, .int (nI gb))]) hx hb dL_isTakenBack_5 rfl hl (by decide) rfl (fun ls hl => ?_)
      refine lv_iload_n hx hb dL_isTakenBack_6 rfl (lv_at hl 0 rfl) ?_
      refine lv_if_ne (tgt := 12) hx hb dL_isTakenBack_7 (by decide) (fun _ => ?_) (fun c9 => absurd c9 (z_ne (b := 0) (by have := glow_le hy; omega) (by omega) hy0))
      refine W.widen (k := 1) (n := 6) (by omega) (by omega) ?_
      exact hj12 y L S H locs ls hy0 (Or.inr ⟨hv, hy⟩) hC hP hD hS (lv_sub hl [1, 2, 0] rfl)
  · skip
    refine g_top (y := nI v) (by rw [if_neg hv0]) ?_
    refine lv_istore_n (lv' := [(2, .int (nI v)), (0, .ref h0), (1, .int (nI gb))]) hx hb dL_isTakenBack_5 rfl hl (by decide) rfl (fun ls hl => ?_)
    refine lv_iload_n hx hb dL_isTakenBack_6 rfl (lv_at hl 0 rfl) ?_
    refine lv_if_ne (tgt := 12) hx hb dL_isTakenBack_7 (by decide) (fun _ => ?_) (fun c9 => absurd c9 (z_ne (b := 0) (by have := glow_le hv; omega) (by omega) hv0))
    refine W.widen (k := 1) (n := 6) (by omega) (by omega) ?_
    exact hj12 v L S H locs ls hv0 (Or.inl hv) hC hP hD hS (lv_sub hl [1, 2, 0] rfl)
end
section
/-! p25: isPassedRound -/
set_option maxHeartbeats 4000000 in
set_option maxRecDepth 100000 in
/-- isPassedRound: goblets that share and share back have as many -/
theorem w_isPassedRound (l : Launch) (hl9 : l.stackTraces = false) (D : va_G) (tys : List (ClassId × FieldType)) (L0 : List Nat) (S0 : gS) (sz : Nat) {P : Nat → Int32} {n h0 lo : Nat} (hC : gCh P lo (L0, S0)) (hI : gInv P n) {fa ta cn : Nat} (hfa : fa < 8) (hta : ta < 8) (hft : fa ≠ ta) (hc1 : 1 ≤ cn) (hc2 : cn ≤ 20) : Met l yL_isPassedRound wsL_isPassedRound ({ frames := 8, cells := 20, slots := 100, locals := 200 } : Room) (gP D tys [.ref h0, .int (nI fa), .int (nI ta), .int (nI cn)] ([gO h0 lo (nI n) 1] ++ va_pl L0 (gE S0)) sz (gG (va_A ([gO h0 lo (nI n) 1] ++ va_pl L0 (gE S0)) sz))) (va_Qi (fun (r : Int32) (u : List Nat × gS) => r = nI 1 ∧ ∃ P2 : Nat → Int32, gInv P2 n ∧ gCh P2 lo u) (fun u t => gWd D tys (va_A ([gO h0 lo (nI n) 1] ++ va_pl L0 (gE S0)) sz) ([gO h0 lo (nI n) 1] ++ va_pl u.1 (gE u.2)) t) (va_A ([gO h0 lo (nI n) 1] ++ va_pl L0 (gE S0)) sz)) 20 100 (va_A ([gO h0 lo (nI n) 1] ++ va_pl L0 (gE S0)) sz) := by
  refine g_ofW (cc := cL_isPassedRound) (maxL := 9) (ret := some .boolean) (by decide) rfl (Nat.le_of_ble_eq_true rfl) ?_
  intro p e s m below meth c hx hb hr hml hts hown hlocks hin hsz hP hK hD hA hS hGG ls hl
  subst hsz
  have hown : s.vm.findClass RL = some m.cls := hown
  have hev := hI.1
  have hn1 := hI.1.1
  have hn2 := hI.2.1
  have hl : lv_has ls 9 [(0, .ref h0), (1, .int (nI fa)), (2, .int (nI ta)), (3, .int (nI cn))] := hl
  have hne : ¬ nI fa = nI ta := h_ne (by omega) (by omega) hft
  have h8f : ¬ (8 : Int32) = nI fa := h_ne (a := 8) (by omega) (by omega) (by omega)
  have h8t : ¬ (8 : Int32) = nI ta := h_ne (a := 8) (by omega) (by omega) (by omega)
  have hf1 := h_few hev (k := fa) (by omega)
  have hf2 := h_few hev (k := ta) (by omega)
  have hf8 : gct P 8 5000 ≤ n := h_few hev (k := 8) (by omega)
  obtain ⟨Q, hQ⟩ : ∃ q, q = gmv P (nI fa) (nI ta) (gct P (nI fa) 5000 - cn) cn := ⟨_, rfl⟩
  have hQi : gInv Q n := by rw [hQ]; exact inv_mv (by omega) (by omega) hI
  have hqe := hQi.1
  have hmq := mv_ct (P := P) (st := gct P (nI fa) 5000 - cn) (cn := cn) hne 5000
  have hm8 : gct Q 8 5000 = gct P 8 5000 := by rw [hQ]; exact mv_ot h8f h8t
  rw [← hQ] at hmq
  have hfq1 := h_few hqe (k := fa) (by omega)
  have hfq2 := h_few hqe (k := ta) (by omega)
  refine lv_aload_n hx hb dL_isPassedRound_0 rfl (lv_at hl 0 rfl) ?_
  refine lv_iload_n hx hb dL_isPassedRound_1 rfl (lv_at hl 1 rfl) ?_
  refine g_xcalli (vx_runV (As := [.int (nI fa)]) (rest := []) ⟨hx, hb, hml, hown, hts⟩ (c_inGoblet l hl9 D tys [gO h0 lo (nI n) 1] L0 S0 s.heap.size (i := 0) rfl hC (nI fa)) (cwV 1 hts gL_isPassedRound_X1_inGoblet rfl rfl rfl (by decide +kernel) ⟨Nat.le_of_ble_eq_true rfl, Nat.le_of_ble_eq_true rfl⟩) (gP_V (va_recv hK hP (ci := 1) rfl (g_inX (X := [gO h0 lo (nI n) 1]) (i := 0) rfl)) hP hK hD gBl_G (fun U hU hW => gG.call hGG hS (gA_sub hD hS hA) U hU hW)) rfl rfl hl.1 rfl (lv_room (Nat.le_of_ble_eq_true rfl)) dL_isPassedRound_2 ⟨by show 0 + 1 ≤ 20; omega, by show 0 + 6 ≤ 100; omega⟩) hD hS hA (fun E ce q9 u9 H locs hc hP hD hS e1 e2 e3 => False.elim (hc.1.2 (h_gob hfa))) (fun r9 u9 H locs hr9 hP hD hS => ?_)
  obtain ⟨⟨-, hr9⟩, hC⟩ := hr9
  obtain ⟨L, S⟩ := u9
  have hP : va_P D vwCl ([gO h0 lo (nI n) 1] ++ va_pl L (gE S)) H := hP
  have hD : va_D (va_A ([gO h0 lo (nI n) 1] ++ va_pl L0 (gE S0)) s.heap.size) ([gO h0 lo (nI n) 1] ++ va_pl L (gE S)) := hD
  have hr9 : r9 = nI (gct P (nI fa) 5000) := hr9
  subst hr9
  refine lv_istore (lv' := [(4, .int (nI (gct P (nI fa) 5000))), (0, .ref h0), (1, .int (nI fa)), (2, .int (nI ta)), (3, .int (nI cn))]) hx hb dL_isPassedRound_5 hl (by decide) rfl (fun ls hl => ?_)
  refine lv_aload_n hx hb dL_isPassedRound_7 rfl (lv_at hl 1 rfl) ?_
  refine lv_iload_n hx hb dL_isPassedRound_8 rfl (lv_at hl 3 rfl) ?_
  refine g_xcalli (vx_runV (As := [.int (nI ta)]) (rest := []) ⟨hx, hb, hml, hown, hts⟩ (c_inGoblet l hl9 D tys [gO h0 lo (nI n) 1] L S H.size (i := 0) rfl hC (nI ta)) (cwV 1 hts gL_isPassedRound_X1_inGoblet rfl rfl rfl (by decide +kernel) ⟨Nat.le_of_ble_eq_true rfl, Nat.le_of_ble_eq_true rfl⟩) (gP_V (va_recv hK hP (ci := 1) rfl (g_inX (X := [gO h0 lo (nI n) 1]) (i := 0) rfl)) hP hK hD gBl_G (fun U hU hW => gG.call hGG hS (gA_sub hD hS hA) U hU hW)) rfl rfl hl.1 rfl (lv_room (Nat.le_of_ble_eq_true rfl)) dL_isPassedRound_9 ⟨by show 0 + 1 + 1 ≤ 20; omega, by show 0 + 6 + 6 ≤ 100; omega⟩) hD hS hA (fun E ce q9 u9 H locs hc hP hD hS e1 e2 e3 => False.elim (hc.1.2 (h_gob hta))) (fun r9 u9 H locs hr9 hP hD hS => ?_)
  obtain ⟨⟨-, hr9⟩, hC⟩ := hr9
  obtain ⟨L, S⟩ := u9
  have hP : va_P D vwCl ([gO h0 lo (nI n) 1] ++ va_pl L (gE S)) H := hP
  have hD : va_D (va_A ([gO h0 lo (nI n) 1] ++ va_pl L0 (gE S0)) s.heap.size) ([gO h0 lo (nI n) 1] ++ va_pl L (gE S)) := hD
  have hr9 : r9 = nI (gct P (nI ta) 5000) := hr9
  subst hr9
  refine lv_istore (lv' := [(5, .int (nI (gct P (nI ta) 5000))), (4, .int (nI (gct P (nI fa) 5000))), (0, .ref h0), (1, .int (nI fa)), (2, .int (nI ta)), (3, .int (nI cn))]) hx hb dL_isPassedRound_12 hl (by decide) rfl (fun ls hl => ?_)
  refine lv_aload_n hx hb dL_isPassedRound_14 rfl (lv_at hl 2 rfl) ?_
  refine g_calli (va_runV (As := []) (rest := []) ⟨hx, hb, hml, hown, hts⟩ (c_inJug l D tys [gO h0 lo (nI n) 1] L S H.size (i := 0) rfl hC) (cwV 0 hts gL_isPassedRound_X1_inJug rfl rfl rfl (by decide +kernel) ⟨Nat.le_of_ble_eq_true rfl, Nat.le_of_ble_eq_true rfl⟩) (gP_V (va_recv hK hP (ci := 1) rfl (g_inX (X := [gO h0 lo (nI n) 1]) (i := 0) rfl)) hP hK hD gBl_N (fun U _ hW => hGG.1.warm hW)) rfl rfl hl.1 rfl (lv_room (Nat.le_of_ble_eq_true rfl)) dL_isPassedRound_15 ⟨by show 0 + 1 + 1 + 0 ≤ 20; omega, by show 0 + 6 + 6 + 0 ≤ 100; omega⟩) hD hS hA (fun r9 u9 H locs hr9 hP hD hS => ?_)
  have hP : va_P D vwCl ([gO h0 lo (nI n) 1] ++ va_pl L (gE S)) H := hP
  have hD : va_D (va_A ([gO h0 lo (nI n) 1] ++ va_pl L0 (gE S0)) s.heap.size) ([gO h0 lo (nI n) 1] ++ va_pl L (gE S)) := hD
  have hr9 : r9 = nI (gct P 8 5000) := hr9
  subst hr9
  refine lv_istore (lv' := [(6, .int (nI (gct P 8 5000))), (5, .int (nI (gct P (nI ta) 5000))), (4, .int (nI (gct P (nI fa) 5000))), (0, .ref h0), (1, .int (nI fa)), (2, .int (nI ta)), (3, .int (nI cn))]) hx hb dL_isPassedRound_18 hl (by decide) rfl (fun ls hl => ?_)
  refine lv_aload_n hx hb dL_isPassedRound_20 rfl (lv_at hl 3 rfl) ?_
  refine lv_iload_n hx hb dL_isPassedRound_21 rfl (lv_at hl 4 rfl) ?_
  refine lv_iload_n hx hb dL_isPassedRound_22 rfl (lv_at hl 5 rfl) ?_
  refine lv_iload_n hx hb dL_isPassedRound_23 rfl (lv_at hl 6 rfl) ?_
  refine g_xcalli (vx_runV (As := [.int (nI fa), .int (nI ta), .int (nI cn)]) (rest := []) ⟨hx, hb, hml, hown, hts⟩ (c_share l hl9 D tys [gO h0 lo (nI n) 1] L S H.size (i := 0) rfl hC (nI fa) (nI ta) (nI cn)) (cwV 3 hts gL_isPassedRound_X1_share rfl rfl rfl (by decide +kernel) ⟨Nat.le_of_ble_eq_true rfl, Nat.le_of_ble_eq_true rfl⟩) (gP_V (va_recv hK hP (ci := 1) rfl (g_inX (X := [gO h0 lo (nI n) 1]) (i := 0) rfl)) hP hK hD gBl_G (fun U hU hW => gG.call hGG hS (gA_sub hD hS hA) U hU hW)) rfl rfl hl.1 rfl (lv_room (Nat.le_of_ble_eq_true rfl)) dL_isPassedRound_24 ⟨by show 0 + 1 + 1 + 0 + 5 ≤ 20; omega, by show 0 + 6 + 6 + 0 + 26 ≤ 100; omega⟩) hD hS hA (fun E ce q9 u9 H locs hc hP hD hS e1 e2 e3 => False.elim (xb_share (h_gob hfa) (h_gob hta) hne (h_cnt hc1 (by omega)) hc.1)) (fun r9 u9 H locs hr9 hP hD hS => ?_)
  obtain ⟨-, -, -, c8, c81, c82, c83, hr9, hC⟩ := hr9
  obtain ⟨L, S⟩ := u9
  have hP : va_P D vwCl ([gO h0 lo (nI n) 1] ++ va_pl L (gE S)) H := hP
  have hD : va_D (va_A ([gO h0 lo (nI n) 1] ++ va_pl L0 (gE S0)) s.heap.size) ([gO h0 lo (nI n) 1] ++ va_pl L (gE S)) := hD
  obtain rfl : cn = c8 := (nI_eq (by omega) (by omega)).mp c83
  have hr9 : r9 = nI (min cn (gct P (nI fa) 5000)) := hr9
  subst hr9
  rw [show gmv P (nI fa) (nI ta) (gct P (nI fa) 5000 - cn) cn = Q from hQ.symm] at hC
  refine lv_istore (lv' := [(7, .int (nI (min cn (gct P (nI fa) 5000)))), (6, .int (nI (gct P 8 5000))), (5, .int (nI (gct P (nI ta) 5000))), (4, .int (nI (gct P (nI fa) 5000))), (0, .ref h0), (1, .int (nI fa)), (2, .int (nI ta)), (3, .int (nI cn))]) hx hb dL_isPassedRound_27 hl (by decide) rfl (fun ls hl => ?_)
  have hj46 : ∀ (L : List Nat) (S : gS) (H : Heap) (locs : List Loc) (ls : Array Slot), gCh Q lo (L, S) → va_P D vwCl ([gO h0 lo (nI n) 1] ++ va_pl L (gE S)) H → va_D (va_A ([gO h0 lo (nI n) 1] ++ va_pl L0 (gE S0)) s.heap.size) ([gO h0 lo (nI n) 1] ++ va_pl L (gE S)) → va_S (va_A ([gO h0 lo (nI n) 1] ++ va_pl L0 (gE S0)) s.heap.size) s.heap H locs → lv_has ls 9 [(7, .int (nI (min cn (gct P (nI fa) 5000)))), (6, .int (nI (gct P 8 5000))), (5, .int (nI (gct P (nI ta) 5000))), (4, .int (nI (gct P (nI fa) 5000))), (0, .ref h0), (1, .int (nI fa)), (2, .int (nI ta)), (3, .int (nI cn))] → W p l e ({ frames := 8, cells := 20, slots := 100, locals := 200 } : Room) s m ([.ref h0, .int (nI fa), .int (nI ta), .int (nI cn)] : List Value).toArray below meth c H locs 7 38 (MQ below (va_Qi (fun (r : Int32) (u : List Nat × gS) => r = nI 1 ∧ ∃ P2 : Nat → Int32, gInv P2 n ∧ gCh P2 lo u) (fun u t => gWd D tys (va_A ([gO h0 lo (nI n) 1] ++ va_pl L0 (gE S0)) s.heap.size) ([gO h0 lo (nI n) 1] ++ va_pl u.1 (gE u.2)) t) (va_A ([gO h0 lo (nI n) 1] ++ va_pl L0 (gE S0)) s.heap.size)) ([.ref h0, .int (nI fa), .int (nI ta), .int (nI cn)] : List Value).toArray s 20 100 (va_A ([gO h0 lo (nI n) 1] ++ va_pl L0 (gE S0)) s.heap.size)) (F0 m 46 ls []) := by
    intro L S H locs ls hC hP hD hS hl
    obtain ⟨sh, hsh⟩ : ∃ x, x = min cn (gct P (nI fa) 5000) := ⟨_, rfl⟩
    rw [← hsh] at hl
    have hj122 : ∀ (Z : Nat → Int32) (L : List Nat) (S : gS) (H : Heap) (locs : List Loc) (ls : Array Slot), gInv Z n → gct Z 8 5000 = gct P 8 5000 → gCh Z lo (L, S) → va_P D vwCl ([gO h0 lo (nI n) 1] ++ va_pl L (gE S)) H → va_D (va_A ([gO h0 lo (nI n) 1] ++ va_pl L0 (gE S0)) s.heap.size) ([gO h0 lo (nI n) 1] ++ va_pl L (gE S)) → va_S (va_A ([gO h0 lo (nI n) 1] ++ va_pl L0 (gE S0)) s.heap.size) s.heap H locs → lv_has ls 9 [(0, .ref h0), (6, .int (nI (gct P 8 5000)))] → W p l e ({ frames := 8, cells := 20, slots := 100, locals := 200 } : Room) s m ([.ref h0, .int (nI fa), .int (nI ta), .int (nI cn)] : List Value).toArray below meth c H locs 16 88 (MQ below (va_Qi (fun (r : Int32) (u : List Nat × gS) => r = nI 1 ∧ ∃ P2 : Nat → Int32, gInv P2 n ∧ gCh P2 lo u) (fun u t => gWd D tys (va_A ([gO h0 lo (nI n) 1] ++ va_pl L0 (gE S0)) s.heap.size) ([gO h0 lo (nI n) 1] ++ va_pl u.1 (gE u.2)) t) (va_A ([gO h0 lo (nI n) 1] ++ va_pl L0 (gE S0)) s.heap.size)) ([.ref h0, .int (nI fa), .int (nI ta), .int (nI cn)] : List Value).toArray s 20 100 (va_A ([gO h0 lo (nI n) 1] ++ va_pl L0 (gE S0)) s.heap.size)) (F0 m 122 ls []) := by
      intro Z L S H locs ls hZ hz8 hC hP hD hS hl
      refine lv_aload_n hx hb dL_isPassedRound_122 rfl (lv_at hl 0 rfl) ?_
      refine g_calli (va_runV (As := []) (rest := []) ⟨hx, hb, hml, hown, hts⟩ (c_inJug l D tys [gO h0 lo (nI n) 1] L S H.size (i := 0) rfl hC) (cwV 0 hts gL_isPassedRound_X1_inJug rfl rfl rfl (by decide +kernel) ⟨Nat.le_of_ble_eq_true rfl, Nat.le_of_ble_eq_true rfl⟩) (gP_V (va_recv hK hP (ci := 1) rfl (g_inX (X := [gO h0 lo (nI n) 1]) (i := 0) rfl)) hP hK hD gBl_N (fun U _ hW => hGG.1.warm hW)) rfl rfl hl.1 rfl (lv_room (Nat.le_of_ble_eq_true rfl)) dL_isPassedRound_123 ⟨by show 16 + 0 ≤ 20; omega, by show 88 + 0 ≤ 100; omega⟩) hD hS hA (fun r9 u9 H locs hr9 hP hD hS => ?_)
      have hP : va_P D vwCl ([gO h0 lo (nI n) 1] ++ va_pl L (gE S)) H := hP
      have hD : va_D (va_A ([gO h0 lo (nI n) 1] ++ va_pl L0 (gE S0)) s.heap.size) ([gO h0 lo (nI n) 1] ++ va_pl L (gE S)) := hD
      have hr9 : r9 = nI (gct Z 8 5000) := hr9
      subst hr9
      refine lv_iload hx hb dL_isPassedRound_126 (lv_at hl 1 rfl) ?_
      refine lv_icmp_ne (tgt := 135) hx hb dL_isPassedRound_128 (by decide) (fun c9 => absurd (z_eq hz8) c9) (fun _ => ?_)
      refine lv_iconst (v := nI 1) hx hb dL_isPassedRound_131 (by decide) ?_
      refine lv_goto (tgt := 136) hx hb dL_isPassedRound_132 (by decide) ?_
      exact g_retz (wo := fun u : List Nat × gS => [gO h0 lo (nI n) 1] ++ va_pl u.1 (gE u.2)) hx hb hr hlocks hK (nI 1) rfl (L, S) hP hD hS (by omega) (by omega) ⟨rfl, Z, hZ, hC⟩ dL_isPassedRound_136
    refine lv_aload_n hx hb dL_isPassedRound_46 rfl (lv_at hl 4 rfl) ?_
    refine lv_iload_n hx hb dL_isPassedRound_47 rfl (lv_at hl 5 rfl) ?_
    refine g_xcalli (vx_runV (As := [.int (nI fa)]) (rest := []) ⟨hx, hb, hml, hown, hts⟩ (c_inGoblet l hl9 D tys [gO h0 lo (nI n) 1] L S H.size (i := 0) rfl hC (nI fa)) (cwV 1 hts gL_isPassedRound_X1_inGoblet rfl rfl rfl (by decide +kernel) ⟨Nat.le_of_ble_eq_true rfl, Nat.le_of_ble_eq_true rfl⟩) (gP_V (va_recv hK hP (ci := 1) rfl (g_inX (X := [gO h0 lo (nI n) 1]) (i := 0) rfl)) hP hK hD gBl_G (fun U hU hW => gG.call hGG hS (gA_sub hD hS hA) U hU hW)) rfl rfl hl.1 rfl (lv_room (Nat.le_of_ble_eq_true rfl)) dL_isPassedRound_48 ⟨by show 7 + 1 ≤ 20; omega, by show 38 + 6 ≤ 100; omega⟩) hD hS hA (fun E ce q9 u9 H locs hc hP hD hS e1 e2 e3 => False.elim (hc.1.2 (h_gob hfa))) (fun r9 u9 H locs hr9 hP hD hS => ?_)
    obtain ⟨⟨-, hr9⟩, hC⟩ := hr9
    obtain ⟨L, S⟩ := u9
    have hP : va_P D vwCl ([gO h0 lo (nI n) 1] ++ va_pl L (gE S)) H := hP
    have hD : va_D (va_A ([gO h0 lo (nI n) 1] ++ va_pl L0 (gE S0)) s.heap.size) ([gO h0 lo (nI n) 1] ++ va_pl L (gE S)) := hD
    have hr9 : r9 = nI (gct Q (nI fa) 5000) := hr9
    subst hr9
    refine lv_iload hx hb dL_isPassedRound_51 (lv_at hl 3 rfl) ?_
    refine lv_iload hx hb dL_isPassedRound_53 (lv_at hl 0 rfl) ?_
    refine lv_isub hx hb dL_isPassedRound_55 ?_
    refine g_top (y := nI ((gct P (nI fa) 5000) - sh)) (pk_sub (by omega)) ?_
    refine lv_icmp_ne (tgt := 76) hx hb dL_isPassedRound_56 (by decide) (fun c9 => absurd (z_eq (by omega)) c9) (fun _ => ?_)
    refine lv_aload_n hx hb dL_isPassedRound_59 rfl (lv_at hl 4 rfl) ?_
    refine lv_iload_n hx hb dL_isPassedRound_60 rfl (lv_at hl 6 rfl) ?_
    refine g_xcalli (vx_runV (As := [.int (nI ta)]) (rest := []) ⟨hx, hb, hml, hown, hts⟩ (c_inGoblet l hl9 D tys [gO h0 lo (nI n) 1] L S H.size (i := 0) rfl hC (nI ta)) (cwV 1 hts gL_isPassedRound_X1_inGoblet rfl rfl rfl (by decide +kernel) ⟨Nat.le_of_ble_eq_true rfl, Nat.le_of_ble_eq_true rfl⟩) (gP_V (va_recv hK hP (ci := 1) rfl (g_inX (X := [gO h0 lo (nI n) 1]) (i := 0) rfl)) hP hK hD gBl_G (fun U hU hW => gG.call hGG hS (gA_sub hD hS hA) U hU hW)) rfl rfl hl.1 rfl (lv_room (Nat.le_of_ble_eq_true rfl)) dL_isPassedRound_61 ⟨by show 7 + 1 + 1 ≤ 20; omega, by show 38 + 6 + 6 ≤ 100; omega⟩) hD hS hA (fun E ce q9 u9 H locs hc hP hD hS e1 e2 e3 => False.elim (hc.1.2 (h_gob hta))) (fun r9 u9 H locs hr9 hP hD hS => ?_)
    obtain ⟨⟨-, hr9⟩, hC⟩ := hr9
    obtain ⟨L, S⟩ := u9
    have hP : va_P D vwCl ([gO h0 lo (nI n) 1] ++ va_pl L (gE S)) H := hP
    have hD : va_D (va_A ([gO h0 lo (nI n) 1] ++ va_pl L0 (gE S0)) s.heap.size) ([gO h0 lo (nI n) 1] ++ va_pl L (gE S)) := hD
    have hr9 : r9 = nI (gct Q (nI ta) 5000) := hr9
    subst hr9
    refine lv_iload hx hb dL_isPassedRound_64 (lv_at hl 2 rfl) ?_
    refine lv_iload hx hb dL_isPassedRound_66 (lv_at hl 0 rfl) ?_
    refine lv_iadd hx hb dL_isPassedRound_68 ?_
    refine g_top (y := nI ((gct P (nI ta) 5000) + sh)) (nI_add _ _) ?_
    refine lv_icmp_ne (tgt := 76) hx hb dL_isPassedRound_69 (by decide) (fun c9 => absurd (z_eq (by omega)) c9) (fun _ => ?_)
    refine lv_iconst (v := nI 1) hx hb dL_isPassedRound_72 (by decide) ?_
    refine lv_goto (tgt := 77) hx hb dL_isPassedRound_73 (by decide) ?_
    refine lv_istore (lv' := [(8, .int (nI 1)), (7, .int (nI sh)), (6, .int (nI (gct P 8 5000))), (5, .int (nI (gct P (nI ta) 5000))), (4, .int (nI (gct P (nI fa) 5000))), (0, .ref h0), (1, .int (nI fa)), (2, .int (nI ta)), (3, .int (nI cn))]) hx hb dL_isPassedRound_77 hl (by decide) rfl (fun ls hl => ?_)
    refine lv_iload hx hb dL_isPassedRound_79 (lv_at hl 0 rfl) ?_
    refine lv_if_eq (tgt := 135) hx hb dL_isPassedRound_81 (by decide) (fun c9 => absurd c9 (by decide)) (fun _ => ?_)
    refine lv_iload hx hb dL_isPassedRound_84 (lv_at hl 1 rfl) ?_
    by_cases hs0 : sh = 0
    · skip
      refine lv_if_eq (tgt := 122) hx hb dL_isPassedRound_86 (by decide) (fun _ => ?_) (fun c9 => absurd (z_eq hs0) c9)
      refine W.widen (k := 16) (n := 88) (by omega) (by omega) ?_
      exact hj122 Q L S H locs ls hQi hm8 hC hP hD hS (lv_sub hl [5, 2] rfl)
    · obtain ⟨Z, hZ⟩ : ∃ q, q = gmv Q (nI ta) (nI fa) (gct Q (nI ta) 5000 - sh) sh := ⟨_, rfl⟩
      have hZi : gInv Z n := by rw [hZ]; exact inv_mv (by omega) (by omega) hQi
      have hze := hZi.1
      have hmz := mv_ct (P := Q) (st := gct Q (nI ta) 5000 - sh) (cn := sh) (fun z => hne z.symm) 5000
      have hz8 : gct Z 8 5000 = gct P 8 5000 := by rw [hZ]; exact (mv_ot h8t h8f).trans hm8
      rw [← hZ] at hmz
      refine lv_if_eq (tgt := 122) hx hb dL_isPassedRound_86 (by decide) (fun c9 => absurd c9 (z_ne (b := 0) (by omega) (by omega) hs0)) (fun _ => ?_)
      refine lv_aload_n hx hb dL_isPassedRound_89 rfl (lv_at hl 5 rfl) ?_
      refine lv_iload_n hx hb dL_isPassedRound_90 rfl (lv_at hl 7 rfl) ?_
      refine lv_iload_n hx hb dL_isPassedRound_91 rfl (lv_at hl 6 rfl) ?_
      refine lv_iload hx hb dL_isPassedRound_92 (lv_at hl 1 rfl) ?_
      refine g_xcalli (vx_runV (As := [.int (nI ta), .int (nI fa), .int (nI sh)]) (rest := []) ⟨hx, hb, hml, hown, hts⟩ (c_share l hl9 D tys [gO h0 lo (nI n) 1] L S H.size (i := 0) rfl hC (nI ta) (nI fa) (nI sh)) (cwV 3 hts gL_isPassedRound_X1_share rfl rfl rfl (by decide +kernel) ⟨Nat.le_of_ble_eq_true rfl, Nat.le_of_ble_eq_true rfl⟩) (gP_V (va_recv hK hP (ci := 1) rfl (g_inX (X := [gO h0 lo (nI n) 1]) (i := 0) rfl)) hP hK hD gBl_G (fun U hU hW => gG.call hGG hS (gA_sub hD hS hA) U hU hW)) rfl rfl hl.1 rfl (lv_room (Nat.le_of_ble_eq_true rfl)) dL_isPassedRound_94 ⟨by show 7 + 1 + 1 + 5 ≤ 20; omega, by show 38 + 6 + 6 + 26 ≤ 100; omega⟩) hD hS hA (fun E ce q9 u9 H locs hc hP hD hS e1 e2 e3 => False.elim (xb_share (h_gob hta) (h_gob hfa) (fun z => hne z.symm) (h_cnt (by omega) (by omega)) hc.1)) (fun r9 u9 H locs hr9 hP hD hS => ?_)
      obtain ⟨-, -, -, c8, c81, c82, c83, hr9, hC⟩ := hr9
      obtain ⟨L, S⟩ := u9
      have hP : va_P D vwCl ([gO h0 lo (nI n) 1] ++ va_pl L (gE S)) H := hP
      have hD : va_D (va_A ([gO h0 lo (nI n) 1] ++ va_pl L0 (gE S0)) s.heap.size) ([gO h0 lo (nI n) 1] ++ va_pl L (gE S)) := hD
      obtain rfl : sh = c8 := (nI_eq (by omega) (by omega)).mp c83
      have hr9 : r9 = nI (min sh (gct Q (nI ta) 5000)) := hr9
      subst hr9
      rw [show gmv Q (nI ta) (nI fa) (gct Q (nI ta) 5000 - sh) sh = Z from hZ.symm] at hC
      refine lv_iload hx hb dL_isPassedRound_97 (lv_at hl 1 rfl) ?_
      refine lv_icmp_ne (tgt := 135) hx hb dL_isPassedRound_99 (by decide) (fun c9 => absurd (z_eq (by omega)) c9) (fun _ => ?_)
      refine lv_aload_n hx hb dL_isPassedRound_102 rfl (lv_at hl 5 rfl) ?_
      refine lv_iload_n hx hb dL_isPassedRound_103 rfl (lv_at hl 6 rfl) ?_
      refine g_xcalli (vx_runV (As := [.int (nI fa)]) (rest := []) ⟨hx, hb, hml, hown, hts⟩ (c_inGoblet l hl9 D tys [gO h0 lo (nI n) 1] L S H.size (i := 0) rfl hC (nI fa)) (cwV 1 hts gL_isPassedRound_X1_inGoblet rfl rfl rfl (by decide +kernel) ⟨Nat.le_of_ble_eq_true rfl, Nat.le_of_ble_eq_true rfl⟩) (gP_V (va_recv hK hP (ci := 1) rfl (g_inX (X := [gO h0 lo (nI n) 1]) (i := 0) rfl)) hP hK hD gBl_G (fun U hU hW => gG.call hGG hS (gA_sub hD hS hA) U hU hW)) rfl rfl hl.1 rfl (lv_room (Nat.le_of_ble_eq_true rfl)) dL_isPassedRound_104 ⟨by show 7 + 1 + 1 + 5 + 1 ≤ 20; omega, by show 38 + 6 + 6 + 26 + 6 ≤ 100; omega⟩) hD hS hA (fun E ce q9 u9 H locs hc hP hD hS e1 e2 e3 => False.elim (hc.1.2 (h_gob hfa))) (fun r9 u9 H locs hr9 hP hD hS => ?_)
      obtain ⟨⟨-, hr9⟩, hC⟩ := hr9
      obtain ⟨L, S⟩ := u9
      have hP : va_P D vwCl ([gO h0 lo (nI n) 1] ++ va_pl L (gE S)) H := hP
      have hD : va_D (va_A ([gO h0 lo (nI n) 1] ++ va_pl L0 (gE S0)) s.heap.size) ([gO h0 lo (nI n) 1] ++ va_pl L (gE S)) := hD
      have hr9 : r9 = nI (gct Z (nI fa) 5000) := hr9
      subst hr9
      refine lv_iload hx hb dL_isPassedRound_107 (lv_at hl 4 rfl) ?_
      refine lv_icmp_ne (tgt := 135) hx hb dL_isPassedRound_109 (by decide) (fun c9 => absurd (z_eq (by omega)) c9) (fun _ => ?_)
      refine lv_aload_n hx hb dL_isPassedRound_112 rfl (lv_at hl 5 rfl) ?_
      refine lv_iload_n hx hb dL_isPassedRound_113 rfl (lv_at hl 7 rfl) ?_
      refine g_xcalli (vx_runV (As := [.int (nI ta)]) (rest := []) ⟨hx, hb, hml, hown, hts⟩ (c_inGoblet l hl9 D tys [gO h0 lo (nI n) 1] L S H.size (i := 0) rfl hC (nI ta)) (cwV 1 hts gL_isPassedRound_X1_inGoblet rfl rfl rfl (by decide +kernel) ⟨Nat.le_of_ble_eq_true rfl, Nat.le_of_ble_eq_true rfl⟩) (gP_V (va_recv hK hP (ci := 1) rfl (g_inX (X := [gO h0 lo (nI n) 1]) (i := 0) rfl)) hP hK hD gBl_G (fun U hU hW => gG.call hGG hS (gA_sub hD hS hA) U hU hW)) rfl rfl hl.1 rfl (lv_room (Nat.le_of_ble_eq_true rfl)) dL_isPassedRound_114 ⟨by show 7 + 1 + 1 + 5 + 1 + 1 ≤ 20; omega, by show 38 + 6 + 6 + 26 + 6 + 6 ≤ 100; omega⟩) hD hS hA (fun E ce q9 u9 H locs hc hP hD hS e1 e2 e3 => False.elim (hc.1.2 (h_gob hta))) (fun r9 u9 H locs hr9 hP hD hS => ?_)
      obtain ⟨⟨-, hr9⟩, hC⟩ := hr9
      obtain ⟨L, S⟩ := u9
      have hP : va_P D vwCl ([gO h0 lo (nI n) 1] ++ va_pl L (gE S)) H := hP
      have hD : va_D (va_A ([gO h0 lo (nI n) 1] ++ va_pl L0 (gE S0)) s.heap.size) ([gO h0 lo (nI n) 1] ++ va_pl L (gE S)) := hD
      have hr9 : r9 = nI (gct Z (nI ta) 5000) := hr9
      subst hr9
      refine lv_iload hx hb dL_isPassedRound_117 (lv_at hl 3 rfl) ?_
      refine lv_icmp_ne (tgt := 135) hx hb dL_isPassedRound_119 (by decide) (fun c9 => absurd (z_eq (by omega)) c9) (fun _ => ?_)
      refine W.widen (k := 16) (n := 88) (by omega) (by omega) ?_
      exact hj122 Z L S H locs ls hZi hz8 hC hP hD hS (lv_sub hl [5, 2] rfl)
  refine lv_iload hx hb dL_isPassedRound_29 (lv_at hl 0 rfl) ?_
  refine lv_iload hx hb dL_isPassedRound_31 (lv_at hl 3 rfl) ?_
  refine lv_iload_n hx hb dL_isPassedRound_33 rfl (lv_at hl 7 rfl) ?_
  refine lv_icmp_ge (tgt := 42) hx hb dL_isPassedRound_34 (by decide) (fun hcn => ?_) (fun hcn => ?_)
  · have hcn2 := (nI_leI (by omega) (by omega)).mp hcn
    refine lv_iload_n hx hb dL_isPassedRound_42 rfl (lv_at hl 7 rfl) ?_
    refine lv_icmp_ne (tgt := 76) hx hb dL_isPassedRound_43 (by decide) (fun c9 => absurd (z_eq (by omega)) c9) (fun _ => ?_)
    refine W.widen (k := 7) (n := 38) (by omega) (by omega) ?_
    exact hj46 L S H locs ls hC hP hD hS (lv_sub hl [0, 1, 2, 3, 4, 5, 6, 7] rfl)
  · have hcn2 : ¬ cn ≤ gct P (nI fa) 5000 := fun z => hcn (nI_le z (by omega))
    refine lv_iload hx hb dL_isPassedRound_37 (lv_at hl 3 rfl) ?_
    refine lv_goto (tgt := 43) hx hb dL_isPassedRound_39 (by decide) ?_
    refine lv_icmp_ne (tgt := 76) hx hb dL_isPassedRound_43 (by decide) (fun c9 => absurd (z_eq (by omega)) c9) (fun _ => ?_)
    refine W.widen (k := 7) (n := 38) (by omega) (by omega) ?_
    exact hj46 L S H locs ls hC hP hD hS (lv_sub hl [0, 1, 2, 3, 4, 5, 6, 7] rfl)
end
section
/-! p25: drawn: any int of the script, or one that is made, cut to a range -/
def gXs (w : va_W) (sz b Ls : Nat) (xs : Nat → Int32) (U : State) : Prop := va_X b Ls xs U U.heap ∧ b < U.heap.size ∧ ¬ va_A w sz b
theorem gBl_Xs {w : va_W} {sz b Ls : Nat} {xs : Nat → Int32} : gBl (gXs w sz b Ls xs) := fun U g mk a h => ⟨va_X.moved (u := U) (U := U.calling g mk a) (Vm.Alike.refl U.vm) h.1, h.2⟩
theorem z_half (y : Int32) : (y.toUInt32 >>> ((nI 1).toUInt32 &&& Int32.toUInt32 31)).toInt32 = nI (y.toBitVec.toNat / 2 ^ 1) := by
  apply Int32.toBitVec_inj.mp
  apply BitVec.eq_of_toNat_eq
  have := y.toBitVec.isLt
  rw [pk_ushr _ _ 1 (by decide), pk_tn (by omega)]
set_option maxHeartbeats 4000000 in
set_option maxRecDepth 100000 in
/-- drawn(tape, place, 30000) -/
theorem w_drawn (l : Launch) (D : va_G) (tys : List (ClassId × FieldType)) (w : va_W) (sz : Nat) {b Ls pl : Nat} {xs : Nat → Int32} (hpl : pl < 130) (hLs : Ls ≤ 260) : Met l yL_drawn wsL_drawn ({ frames := 1, cells := 0, slots := 0, locals := 40 } : Room) (gP D tys [.ref b, .int (nI pl), .int (nI 30000)] w sz (gXs w sz b Ls xs)) (va_Qi (fun (r : Int32) (_ : Unit) => ∃ x : Nat, x < 30000 ∧ r = nI x) (fun _ t => gWd D tys (va_A w sz) w t) (va_A w sz)) 0 0 (va_A w sz) := by
  refine g_ofW (cc := cL_drawn) (maxL := 4) (ret := some .int) (by decide) rfl (Nat.le_of_ble_eq_true rfl) ?_
  intro p e s m below meth c hx hb hr hml hts hown hlocks hin hsz hP hK hD hA hS hGG ls hl
  subst hsz
  have hown : s.vm.findClass RL = some m.cls := hown
  obtain ⟨hXs, hbl, hbA⟩ := hGG
  have hl : lv_has ls 4 [(0, .ref b), (1, .int (nI pl)), (2, .int (nI 30000))] := hl
  have hj20 : ∀ (y : Int32) (ls : Array Slot), lv_has ls 4 [(0, .ref b), (1, .int (nI pl)), (2, .int (nI 30000))] → W p l e ({ frames := 1, cells := 0, slots := 0, locals := 40 } : Room) s m ([.ref b, .int (nI pl), .int (nI 30000)] : List Value).toArray below meth c s.heap [] 0 0 (MQ below (va_Qi (fun (r : Int32) (_ : Unit) => ∃ x : Nat, x < 30000 ∧ r = nI x) (fun _ t => gWd D tys (va_A w s.heap.size) w t) (va_A w s.heap.size)) ([.ref b, .int (nI pl), .int (nI 30000)] : List Value).toArray s 0 0 (va_A w s.heap.size)) (F0 m 20 ls [.int y]) := by
    intro y ls hl
    have hy := y.toBitVec.isLt
    refine lv_istore_n (lv' := [(3, .int y), (0, .ref b), (1, .int (nI pl)), (2, .int (nI 30000))]) hx hb dL_drawn_20 rfl hl (by decide) rfl (fun ls hl => ?_)
    refine lv_iload_n hx hb dL_drawn_21 rfl (lv_at hl 0 rfl) ?_
    refine lv_iconst (v := nI 1) hx hb dL_drawn_22 (by decide) ?_
    refine lv_iushr hx hb dL_drawn_23 (z_half y) ?_
    refine lv_iload_n hx hb dL_drawn_24 rfl (lv_at hl 3 rfl) ?_
    refine lv_irem hx hb dL_drawn_25 (by decide) ?_
    refine g_top (y := nI (y.toBitVec.toNat / 2 ^ 1 % 30000)) (pk_rem (by omega) (by omega) (by omega)) ?_
    exact g_reti (wo := fun _ : Unit => w) hx hb hr hlocks hK _ () hP hD hS (Nat.le_refl _) (Nat.le_refl _) ⟨_, Nat.mod_lt _ (by omega), rfl⟩ dL_drawn_26
  refine lv_iload_n hx hb dL_drawn_0 rfl (lv_at hl 1 rfl) ?_
  refine lv_aload_n hx hb dL_drawn_1 rfl (lv_at hl 0 rfl) ?_
  refine va_slen hx hb hXs hbl hbA hS dL_drawn_2 ?_
  refine lv_icmp_ge (tgt := 12) hx hb dL_drawn_3 (by decide) (fun c1 => ?_) (fun c1 => ?_)
  · refine lv_ldc hx hb hown (hts (.constant RL 7 44537) (by decide +kernel)) dL_drawn_12 ?_
    refine lv_iload_n hx hb dL_drawn_14 rfl (lv_at hl 1 rfl) ?_
    refine lv_imul hx hb dL_drawn_15 ?_
    refine lv_sipush (v := nI 7001) hx hb dL_drawn_16 (by decide) ?_
    refine lv_iadd hx hb dL_drawn_19 ?_
    exact hj20 _ ls hl
  · have hlt : pl < Ls := by
      rcases Nat.lt_or_ge pl Ls with z | z
      · exact z
      · exact absurd (show nI Ls ≤ nI pl from nI_le z (by omega)) c1
    refine lv_aload_n hx hb dL_drawn_6 rfl (lv_at hl 0 rfl) ?_
    refine lv_iload_n hx hb dL_drawn_7 rfl (lv_at hl 1 rfl) ?_
    refine va_sld hx hb hXs hbl hbA hS (vp_in_nI hlt (by omega)) dL_drawn_8 ?_
    refine lv_goto (tgt := 20) hx hb dL_drawn_9 (by decide) ?_
    exact hj20 _ ls hl
end
section
/-! THE CLAIM OUT OF ONE WALK OF THE LAW'S BODY. Your part is whole_start (and what it stands on); all else here is the same for every law, but numbers. -/
def R_law : String := "NumberGobletsLaw"
def lw_P (b : Addr) (xs : List Int32) (args : Array Value) (s : State) : Prop := args = #[.ref b] ∧ s.IntsAt b xs ∧ xs.length ≤ 260 ∧ (Jvm.Cond.and given_1 narrow_1).before args s = true
def lw_Q (_ : Array Value) (s : State) (o : Outcome) (t : State) : Prop := o = .returned (some (.int 1)) ∧ Framed s o t [] 625101 7226164
def lw_Z (below : List Frame) (a : Array Value) (s : State) : State → Prop := fun t => ∃ o, t.status = .running ∧ Ended t below o ∧ lw_Q a s o t
/-- the law's own end, with 1 on the stack, nothing written that was there before, its room as the claim has it -/
theorem lw_ret {p : Program} {l : Launch} {e : Env} {s : State} {m : MethodId} {below : List Frame} {meth : Method} {c : Code} {b : Nat} (hx : p.tables.exec = Jvm.exec) (hb : c.code = code) (hr : meth.sig.returnType = ret) (hlocks : meth.locks = false) {pc : Nat} {H : Heap} {ls : Array Slot} (hdg : decode code pc = .ok (.ireturn, 1)) : W p l e room_1 s m #[Value.ref b] below meth c H [] 625101 7226164 (lw_Z below #[Value.ref b] s) (F0 m pc ls [.int 1]) := by
  intro T hT X
  obtain ⟨fs, hret, hrun, hended, hW, hframe⟩ := X.leave (v := some (.int 1)) (hlocks := hlocks) (fun h => by rw [hr] at h; cases h)
  have hmeth' : T.vm.method? m = some meth := X.method'
  refine ⟨T.setFrames fs, ?_, .returned (some (.int 1)), hrun, hended, rfl, ⟨_, rfl⟩, hW, hframe⟩
  jvm_step X.here [X.here.top, hx, hb, hdg, hmeth', hr, ret, narrow_b1]
  (try refine ⟨rfl, ?_⟩); (try refine ⟨rfl, ?_⟩)
  first | (intro acts; rw [hret _ acts rfl rfl rfl]) | rw [hret _ _ rfl rfl rfl]
  exact Steps.refl _
/-- what holds at the law's entry: the machine, the code, the tables' words (any of lw_tbl by 'hts w (by decide +kernel)'), the script of L ints xs at the cell b, what the Statement gives of the start (any of its parts by flat_of_before) -/
def lw_At (p : Program) (s : State) (m : MethodId) (meth : Method) (c : Code) (b L : Nat) (xs : Nat → Int32) : Prop :=
  p.tables.exec = Jvm.exec ∧ c.code = code ∧ meth.sig.returnType = ret ∧ c.maxLocals = 10 ∧ s.vm.findClass R_law = some m.cls ∧ (∀ w ∈ lw_tbl, w.before #[Value.ref b] s = true) ∧ va_X b L xs s s.heap ∧ b < s.heap.size ∧ meth.locks = false ∧ (Jvm.Cond.and given_1 narrow_1).before #[Value.ref b] s = true
end
section
/-! p25: the law's end: all is drunk or spilt, a new round begins -/
set_option maxHeartbeats 4000000 in
set_option maxRecDepth 100000 in
theorem law_end {p : Program} {l : Launch} {e : Env} {s : State} {m : MethodId} {below : List Frame} {meth : Method} {c : Code} {D : va_G} {tys : List (ClassId × FieldType)} {b Ls h0 lo : Nat} {xs : Nat → Int32} (hx : p.tables.exec = Jvm.exec) (hb : c.code = cL_law) (hr : meth.sig.returnType = ret) (hlocks : meth.locks = false) (hml : c.maxLocals = 10) (hts : ∀ w ∈ wsL_law, w.before #[Value.ref b] s = true) (hown : s.vm.findClass RL = some m.cls) (hK : va_K D vwCl tys s) (hl9 : l.stackTraces = false) (hGG : gG (fun q : Nat => s.heap.size ≤ q) s) (hXs : va_X b Ls xs s s.heap) (hbl : b < s.heap.size) (hLs : Ls ≤ 260) {P : Nat → Int32} {n kc ns : Nat} (hkc : kc ≤ 300000) (hns : ns ≤ 3000000) (hI : gInv P n) (hz : ∀ k, k < 8 → gct P (nI k) 5000 = 0) (hz8 : gct P 8 5000 = 0) : ∀ (L : List Nat) (S : gS) (H : Heap) (locs : List Loc) (ls : Array Slot), gCh P lo (L, S) → va_P D vwCl ([gO h0 lo (nI n) 1] ++ va_pl L (gE S)) H → va_D (fun q : Nat => s.heap.size ≤ q) ([gO h0 lo (nI n) 1] ++ va_pl L (gE S)) → va_S (fun q : Nat => s.heap.size ≤ q) s.heap H locs → lv_has ls 10 [(0, .ref b), (1, .ref h0), (2, .int (nI 1))] → W p l e room_1 s m #[Value.ref b] below meth c H locs kc ns (lw_Z below #[Value.ref b] s) (F0 m 411 ls []) := by
  intro L S H locs ls hC hP hD hS hl
  have hA : ∀ q : Nat, s.heap.size ≤ q → (fun q : Nat => s.heap.size ≤ q) q := fun _ h => h
  have hev := hI.1
  have hn1 := hI.1.1
  have hn2 := hI.2.1
  have hsum := h_sum hI
  have hs0 : gsum (fun q => gct P (nI q) 5000) 8 = 0 := (gsum_cong 8 (fun q hq => hz q hq)).trans (gsum_zero 8)
  have hs : gct P 9 5000 + gct P 10 5000 = n := by omega
  obtain ⟨Q, hQ⟩ : ∃ q, q = gmv (gmv P 9 8 0 5000) 10 8 0 5000 := ⟨_, rfl⟩
  have hqe : gEv Q n := by rw [hQ]; exact rd_ev hI
  have hqa : ∀ j, 1 ≤ j → j ≤ n → Q j = 8 := by rw [hQ]; exact rd_new hI hs
  obtain ⟨hq1, hrg⟩ := rd_rg hqe hqa
  refine lv_aload_n hx hb dL_law_411 rfl (lv_at hl 1 rfl) ?_
  refine g_calli (va_runV (As := []) (rest := []) ⟨hx, hb, hml, hown, hts⟩ (c_round l D tys [gO h0 lo (nI n) 1] L S H.size (i := 0) rfl hC) (cwV 0 hts gL_law_X1_round rfl rfl rfl (by decide +kernel) ⟨Nat.le_of_ble_eq_true rfl, Nat.le_of_ble_eq_true rfl⟩) (gP_V (va_recv hK hP (ci := 1) rfl (g_inX (X := [gO h0 lo (nI n) 1]) (i := 0) rfl)) hP hK hD gBl_N (fun U _ hW => hGG.1.warm hW)) rfl rfl hl.1 rfl (lv_room (Nat.le_of_ble_eq_true rfl)) dL_law_412 ⟨by show kc + 0 ≤ 625101; omega, by show ns + 0 ≤ 7226164; omega⟩) hD hS hA (fun r9 u9 H locs hr9 hP hD hS => ?_)
  have hP : va_P D vwCl ([gO h0 lo (nI n) 1] ++ va_pl L (gE S)) H := hP
  have hD : va_D (fun q : Nat => s.heap.size ≤ q) ([gO h0 lo (nI n) 1] ++ va_pl L (gE S)) := hD
  have hr9 : r9 = 1 := hr9
  subst hr9
  refine lv_istore_n (lv' := [(3, .int 1), (0, .ref b), (1, .ref h0), (2, .int (nI 1))]) hx hb dL_law_415 rfl hl (by decide) rfl (fun ls hl => ?_)
  refine lv_iload_n hx hb dL_law_416 rfl (lv_at hl 3 rfl) ?_
  refine lv_if_eq (tgt := 494) hx hb dL_law_417 (by decide) (fun c9 => absurd c9 (by decide)) (fun _ => ?_)
  refine lv_aload_n hx hb dL_law_420 rfl (lv_at hl 2 rfl) ?_
  refine g_calli (va_runV (As := []) (rest := []) ⟨hx, hb, hml, hown, hts⟩ (c_inJug l D tys [gO h0 lo (nI n) 1] L S H.size (i := 0) rfl hC) (cwV 0 hts gL_law_X1_inJug rfl rfl rfl (by decide +kernel) ⟨Nat.le_of_ble_eq_true rfl, Nat.le_of_ble_eq_true rfl⟩) (gP_V (va_recv hK hP (ci := 1) rfl (g_inX (X := [gO h0 lo (nI n) 1]) (i := 0) rfl)) hP hK hD gBl_N (fun U _ hW => hGG.1.warm hW)) rfl rfl hl.1 rfl (lv_room (Nat.le_of_ble_eq_true rfl)) dL_law_421 ⟨by show kc + 0 + 0 ≤ 625101; omega, by show ns + 0 + 0 ≤ 7226164; omega⟩) hD hS hA (fun r9 u9 H locs hr9 hP hD hS => ?_)
  have hP : va_P D vwCl ([gO h0 lo (nI n) 1] ++ va_pl L (gE S)) H := hP
  have hD : va_D (fun q : Nat => s.heap.size ≤ q) ([gO h0 lo (nI n) 1] ++ va_pl L (gE S)) := hD
  have hr9 : r9 = nI (gct P 8 5000) := hr9
  subst hr9
  refine lv_if_ne (tgt := 494) hx hb dL_law_424 (by decide) (fun c9 => absurd (z_eq (b := 0) hz8) c9) (fun _ => ?_)
  refine lv_aload_n hx hb dL_law_427 rfl (lv_at hl 2 rfl) ?_
  refine g_calli (va_runV (As := []) (rest := []) ⟨hx, hb, hml, hown, hts⟩ (c_drunk l D tys [gO h0 lo (nI n) 1] L S H.size (i := 0) rfl hC) (cwV 0 hts gL_law_X1_drunk rfl rfl rfl (by decide +kernel) ⟨Nat.le_of_ble_eq_true rfl, Nat.le_of_ble_eq_true rfl⟩) (gP_V (va_recv hK hP (ci := 1) rfl (g_inX (X := [gO h0 lo (nI n) 1]) (i := 0) rfl)) hP hK hD gBl_N (fun U _ hW => hGG.1.warm hW)) rfl rfl hl.1 rfl (lv_room (Nat.le_of_ble_eq_true rfl)) dL_law_428 ⟨by show kc + 0 + 0 + 0 ≤ 625101; omega, by show ns + 0 + 0 + 0 ≤ 7226164; omega⟩) hD hS hA (fun r9 u9 H locs hr9 hP hD hS => ?_)
  have hP : va_P D vwCl ([gO h0 lo (nI n) 1] ++ va_pl L (gE S)) H := hP
  have hD : va_D (fun q : Nat => s.heap.size ≤ q) ([gO h0 lo (nI n) 1] ++ va_pl L (gE S)) := hD
  have hr9 : r9 = nI (gct P 9 5000) := hr9
  subst hr9
  refine lv_aload_n hx hb dL_law_431 rfl (lv_at hl 2 rfl) ?_
  refine g_calli (va_runV (As := []) (rest := [.int (nI (gct P 9 5000))]) ⟨hx, hb, hml, hown, hts⟩ (c_spilt l D tys [gO h0 lo (nI n) 1] L S H.size (i := 0) rfl hC) (cwV 0 hts gL_law_X1_spilt rfl rfl rfl (by decide +kernel) ⟨Nat.le_of_ble_eq_true rfl, Nat.le_of_ble_eq_true rfl⟩) (gP_V (va_recv hK hP (ci := 1) rfl (g_inX (X := [gO h0 lo (nI n) 1]) (i := 0) rfl)) hP hK hD gBl_N (fun U _ hW => hGG.1.warm hW)) rfl rfl hl.1 rfl (lv_room (Nat.le_of_ble_eq_true rfl)) dL_law_432 ⟨by show kc + 0 + 0 + 0 + 0 ≤ 625101; omega, by show ns + 0 + 0 + 0 + 0 ≤ 7226164; omega⟩) hD hS hA (fun r9 u9 H locs hr9 hP hD hS => ?_)
  have hP : va_P D vwCl ([gO h0 lo (nI n) 1] ++ va_pl L (gE S)) H := hP
  have hD : va_D (fun q : Nat => s.heap.size ≤ q) ([gO h0 lo (nI n) 1] ++ va_pl L (gE S)) := hD
  have hr9 : r9 = nI (gct P 10 5000) := hr9
  subst hr9
  refine lv_iadd hx hb dL_law_435 ?_
  refine g_top (y := nI ((gct P 9 5000) + (gct P 10 5000))) (nI_add _ _) ?_
  refine lv_aload_n hx hb dL_law_436 rfl (lv_at hl 2 rfl) ?_
  refine g_calli (va_runV (As := []) (rest := [.int (nI ((gct P 9 5000) + (gct P 10 5000)))]) ⟨hx, hb, hml, hown, hts⟩ (c_size l D tys [gO h0 lo (nI n) 1] L S H.size (i := 0) rfl hC) (cwV 0 hts gL_law_X1_size rfl rfl rfl (by decide +kernel) ⟨Nat.le_of_ble_eq_true rfl, Nat.le_of_ble_eq_true rfl⟩) (gP_V (va_recv hK hP (ci := 1) rfl (g_inX (X := [gO h0 lo (nI n) 1]) (i := 0) rfl)) hP hK hD gBl_N (fun U _ hW => hGG.1.warm hW)) rfl rfl hl.1 rfl (lv_room (Nat.le_of_ble_eq_true rfl)) dL_law_437 ⟨by show kc + 0 + 0 + 0 + 0 + 0 ≤ 625101; omega, by show ns + 0 + 0 + 0 + 0 + 0 ≤ 7226164; omega⟩) hD hS hA (fun r9 u9 H locs hr9 hP hD hS => ?_)
  have hP : va_P D vwCl ([gO h0 lo (nI n) 1] ++ va_pl L (gE S)) H := hP
  have hD : va_D (fun q : Nat => s.heap.size ≤ q) ([gO h0 lo (nI n) 1] ++ va_pl L (gE S)) := hD
  have hr9 : r9 = nI n := hr9
  subst hr9
  refine lv_icmp_ne (tgt := 494) hx hb dL_law_440 (by decide) (fun c9 => absurd (z_eq hs) c9) (fun _ => ?_)
  refine lv_aload_n hx hb dL_law_443 rfl (lv_at hl 2 rfl) ?_
  refine g_xcalli (vx_runV (As := []) (rest := []) ⟨hx, hb, hml, hown, hts⟩ (c_nextRound l hl9 D tys [gO h0 lo (nI n) 1] L S H.size (i := 0) rfl hC rfl (by omega)) (cwV 0 hts gL_law_X1_nextRound rfl rfl rfl (by decide +kernel) ⟨Nat.le_of_ble_eq_true rfl, Nat.le_of_ble_eq_true rfl⟩) (gP_V (va_recv hK hP (ci := 1) rfl (g_inX (X := [gO h0 lo (nI n) 1]) (i := 0) rfl)) hP hK hD gBl_G (fun U hU hW => gG.call hGG hS (gA_sub hD hS hA) U hU hW)) rfl rfl hl.1 rfl (lv_room (Nat.le_of_ble_eq_true rfl)) dL_law_444 ⟨by show kc + 0 + 0 + 0 + 0 + 0 + 4 ≤ 625101; omega, by show ns + 0 + 0 + 0 + 0 + 0 + 16 ≤ 7226164; omega⟩) hD hS hA (fun E ce q9 u9 H locs hc hP hD hS e1 e2 e3 => False.elim (hc.1.2 hs)) (fun r9 u9 H locs hr9 hP hD hS => ?_)
  obtain ⟨-, hr9, hC⟩ := hr9
  obtain ⟨L, S⟩ := u9
  have hP : va_P D vwCl ([gO h0 lo (nI n) (1 + 1)] ++ va_pl L (gE S)) H := hP
  have hD : va_D (fun q : Nat => s.heap.size ≤ q) ([gO h0 lo (nI n) (1 + 1)] ++ va_pl L (gE S)) := hD
  have hr9 : r9 = (1 + 1) := hr9
  subst hr9
  rw [show gmv (gmv P 9 8 0 5000) 10 8 0 5000 = Q from hQ.symm] at hC
  refine lv_iload_n hx hb dL_law_447 rfl (lv_at hl 0 rfl) ?_
  refine lv_iconst (v := nI 1) hx hb dL_law_448 (by decide) ?_
  refine lv_iadd hx hb dL_law_449 ?_
  refine lv_icmp_ne (tgt := 494) hx hb dL_law_450 (by decide) (fun c9 => absurd (by decide) c9) (fun _ => ?_)
  refine lv_aload_n hx hb dL_law_453 rfl (lv_at hl 2 rfl) ?_
  refine g_calli (va_runV (As := []) (rest := []) ⟨hx, hb, hml, hown, hts⟩ (c_rangesP l D tys [gO h0 lo (nI n) (1 + 1)] L S H.size (i := 0) rfl hC (h_0 hqe)) (cwV 0 hts gL_law_X1_ranges rfl rfl rfl (by decide +kernel) ⟨Nat.le_of_ble_eq_true rfl, Nat.le_of_ble_eq_true rfl⟩) (gP_V (va_recv hK hP (ci := 1) rfl (g_inX (X := [gO h0 lo (nI n) (1 + 1)]) (i := 0) rfl)) hP hK hD gBl_N (fun U _ hW => hGG.1.warm hW)) rfl rfl hl.1 rfl (lv_room (Nat.le_of_ble_eq_true rfl)) dL_law_454 ⟨by show kc + 0 + 0 + 0 + 0 + 0 + 4 + 0 ≤ 625101; omega, by show ns + 0 + 0 + 0 + 0 + 0 + 16 + 0 ≤ 7226164; omega⟩) hD hS hA (fun r9 u9 H locs hr9 hP hD hS => ?_)
  have hP : va_P D vwCl ([gO h0 lo (nI n) (1 + 1)] ++ va_pl L (gE S)) H := hP
  have hD : va_D (fun q : Nat => s.heap.size ≤ q) ([gO h0 lo (nI n) (1 + 1)] ++ va_pl L (gE S)) := hD
  have hr9 : r9 = nI (gbg Q 8 5000) := hr9
  subst hr9
  refine lv_iconst (v := nI 1) hx hb dL_law_457 (by decide) ?_
  refine lv_icmp_ne (tgt := 494) hx hb dL_law_458 (by decide) (fun c9 => absurd (z_eq hq1) c9) (fun _ => ?_)
  refine lv_aload_n hx hb dL_law_461 rfl (lv_at hl 2 rfl) ?_
  refine lv_iconst (v := nI 0) hx hb dL_law_462 (by decide) ?_
  refine g_xcalli (vx_runV (As := [.int (nI 0)]) (rest := []) ⟨hx, hb, hml, hown, hts⟩ (c_rangeFrom l hl9 D tys [gO h0 lo (nI n) (1 + 1)] L S H.size (i := 0) rfl hC (nI 0) (h_0 hqe) (h_51 hqe)) (cwV 1 hts gL_law_X1_rangeFrom rfl rfl rfl (by decide +kernel) ⟨Nat.le_of_ble_eq_true rfl, Nat.le_of_ble_eq_true rfl⟩) (gP_V (va_recv hK hP (ci := 1) rfl (g_inX (X := [gO h0 lo (nI n) (1 + 1)]) (i := 0) rfl)) hP hK hD gBl_G (fun U hU hW => gG.call hGG hS (gA_sub hD hS hA) U hU hW)) rfl rfl hl.1 rfl (lv_room (Nat.le_of_ble_eq_true rfl)) dL_law_463 ⟨by show kc + 0 + 0 + 0 + 0 + 0 + 4 + 0 + 1 ≤ 625101; omega, by show ns + 0 + 0 + 0 + 0 + 0 + 16 + 0 + 6 ≤ 7226164; omega⟩) hD hS hA (fun E ce q9 u9 H locs hc hP hD hS e1 e2 e3 => False.elim (rg_ok hrg hc.1.2)) (fun r9 u9 H locs hr9 hP hD hS => ?_)
  obtain ⟨hr9, hC⟩ := hr9
  obtain ⟨L, S⟩ := u9
  have hP : va_P D vwCl ([gO h0 lo (nI n) (1 + 1)] ++ va_pl L (gE S)) H := hP
  have hD : va_D (fun q : Nat => s.heap.size ≤ q) ([gO h0 lo (nI n) (1 + 1)] ++ va_pl L (gE S)) := hD
  have hr9 : r9 = nI 1 := rg_from (by omega) hrg hr9
  subst hr9
  refine lv_iconst (v := nI 1) hx hb dL_law_466 (by decide) ?_
  refine lv_icmp_ne (tgt := 494) hx hb dL_law_467 (by decide) (fun c9 => absurd (rfl) c9) (fun _ => ?_)
  refine lv_aload_n hx hb dL_law_470 rfl (lv_at hl 2 rfl) ?_
  refine lv_iconst (v := nI 0) hx hb dL_law_471 (by decide) ?_
  refine g_xcalli (vx_runV (As := [.int (nI 0)]) (rest := []) ⟨hx, hb, hml, hown, hts⟩ (c_rangeTo l hl9 D tys [gO h0 lo (nI n) (1 + 1)] L S H.size (i := 0) rfl hC (nI 0) (h_0 hqe) (h_51 hqe)) (cwV 1 hts gL_law_X1_rangeTo rfl rfl rfl (by decide +kernel) ⟨Nat.le_of_ble_eq_true rfl, Nat.le_of_ble_eq_true rfl⟩) (gP_V (va_recv hK hP (ci := 1) rfl (g_inX (X := [gO h0 lo (nI n) (1 + 1)]) (i := 0) rfl)) hP hK hD gBl_G (fun U hU hW => gG.call hGG hS (gA_sub hD hS hA) U hU hW)) rfl rfl hl.1 rfl (lv_room (Nat.le_of_ble_eq_true rfl)) dL_law_472 ⟨by show kc + 0 + 0 + 0 + 0 + 0 + 4 + 0 + 1 + 1 ≤ 625101; omega, by show ns + 0 + 0 + 0 + 0 + 0 + 16 + 0 + 6 + 6 ≤ 7226164; omega⟩) hD hS hA (fun E ce q9 u9 H locs hc hP hD hS e1 e2 e3 => False.elim (rg_ok hrg hc.1.2)) (fun r9 u9 H locs hr9 hP hD hS => ?_)
  obtain ⟨hr9, hC⟩ := hr9
  obtain ⟨L, S⟩ := u9
  have hP : va_P D vwCl ([gO h0 lo (nI n) (1 + 1)] ++ va_pl L (gE S)) H := hP
  have hD : va_D (fun q : Nat => s.heap.size ≤ q) ([gO h0 lo (nI n) (1 + 1)] ++ va_pl L (gE S)) := hD
  have hr9 : r9 = nI n := rg_to (h_0n hqe) (by omega) hrg hr9
  subst hr9
  refine lv_aload_n hx hb dL_law_475 rfl (lv_at hl 2 rfl) ?_
  refine g_calli (va_runV (As := []) (rest := [.int (nI n)]) ⟨hx, hb, hml, hown, hts⟩ (c_size l D tys [gO h0 lo (nI n) (1 + 1)] L S H.size (i := 0) rfl hC) (cwV 0 hts gL_law_X1_size rfl rfl rfl (by decide +kernel) ⟨Nat.le_of_ble_eq_true rfl, Nat.le_of_ble_eq_true rfl⟩) (gP_V (va_recv hK hP (ci := 1) rfl (g_inX (X := [gO h0 lo (nI n) (1 + 1)]) (i := 0) rfl)) hP hK hD gBl_N (fun U _ hW => hGG.1.warm hW)) rfl rfl hl.1 rfl (lv_room (Nat.le_of_ble_eq_true rfl)) dL_law_476 ⟨by show kc + 0 + 0 + 0 + 0 + 0 + 4 + 0 + 1 + 1 + 0 ≤ 625101; omega, by show ns + 0 + 0 + 0 + 0 + 0 + 16 + 0 + 6 + 6 + 0 ≤ 7226164; omega⟩) hD hS hA (fun r9 u9 H locs hr9 hP hD hS => ?_)
  have hP : va_P D vwCl ([gO h0 lo (nI n) (1 + 1)] ++ va_pl L (gE S)) H := hP
  have hD : va_D (fun q : Nat => s.heap.size ≤ q) ([gO h0 lo (nI n) (1 + 1)] ++ va_pl L (gE S)) := hD
  have hr9 : r9 = nI n := hr9
  subst hr9
  refine lv_icmp_ne (tgt := 494) hx hb dL_law_479 (by decide) (fun c9 => absurd (rfl) c9) (fun _ => ?_)
  refine lv_aload_n hx hb dL_law_482 rfl (lv_at hl 2 rfl) ?_
  obtain ⟨g9, hch9, hwf9, hmx9⟩ := id hC
  refine g_calli (va_runV (As := []) (rest := []) ⟨hx, hb, hml, hown, hts⟩ (c_left l D tys [gO h0 lo (nI n) (1 + 1)] L S H.size (i := 0) rfl hwf9 hmx9 hch9) (cwV 0 hts gL_law_X1_lowestLeft rfl rfl rfl (by decide +kernel) ⟨Nat.le_of_ble_eq_true rfl, Nat.le_of_ble_eq_true rfl⟩) (gP_V (va_recv hK hP (ci := 1) rfl (g_inX (X := [gO h0 lo (nI n) (1 + 1)]) (i := 0) rfl)) hP hK hD gBl_N (fun U _ hW => hGG.1.warm hW)) rfl rfl hl.1 rfl (lv_room (Nat.le_of_ble_eq_true rfl)) dL_law_483 ⟨by show kc + 0 + 0 + 0 + 0 + 0 + 4 + 0 + 1 + 1 + 0 + 0 ≤ 625101; omega, by show ns + 0 + 0 + 0 + 0 + 0 + 16 + 0 + 6 + 6 + 0 + 0 ≤ 7226164; omega⟩) hD hS hA (fun r9 u9 H locs hr9 hP hD hS => ?_)
  have hP : va_P D vwCl ([gO h0 lo (nI n) (1 + 1)] ++ va_pl L (gE S)) H := hP
  have hD : va_D (fun q : Nat => s.heap.size ≤ q) ([gO h0 lo (nI n) (1 + 1)] ++ va_pl L (gE S)) := hD
  obtain ⟨v, rfl, hv⟩ := hr9
  refine lv_iconst (v := nI 1) hx hb dL_law_486 (by decide) ?_
  refine lv_icmp_ne (tgt := 494) hx hb dL_law_487 (by decide) (fun c9 => absurd (z_eq (rd_left hqe hqa hv)) c9) (fun _ => ?_)
  refine lv_iconst (v := nI 1) hx hb dL_law_490 (by decide) ?_
  refine lv_goto (tgt := 495) hx hb dL_law_491 (by decide) ?_
  refine g_top (y := 1) rfl ?_
  refine va_forget (fun q hq => hS.2.2 q hq) ?_
  refine W.widen (k := 625101) (n := 7226164) (by omega) (by omega) ?_
  exact lw_ret hx hb hr hlocks dL_law_495
set_option maxHeartbeats 4000000 in
set_option maxRecDepth 100000 in
/-- all is drunk, goblet by goblet -/
theorem law_drink {p : Program} {l : Launch} {e : Env} {s : State} {m : MethodId} {below : List Frame} {meth : Method} {c : Code} {D : va_G} {tys : List (ClassId × FieldType)} {b Ls h0 lo : Nat} {xs : Nat → Int32} (hx : p.tables.exec = Jvm.exec) (hb : c.code = cL_law) (hr : meth.sig.returnType = ret) (hlocks : meth.locks = false) (hml : c.maxLocals = 10) (hts : ∀ w ∈ wsL_law, w.before #[Value.ref b] s = true) (hown : s.vm.findClass RL = some m.cls) (hK : va_K D vwCl tys s) (hl9 : l.stackTraces = false) (hGG : gG (fun q : Nat => s.heap.size ≤ q) s) (hXs : va_X b Ls xs s s.heap) (hbl : b < s.heap.size) (hLs : Ls ≤ 260) {n : Nat} : ∀ (d i : Nat) (P : Nat → Int32) (kc ns : Nat) (L : List Nat) (S : gS) (H : Heap) (locs : List Loc) (ls : Array Slot), i + d = 8 → (∀ k, k < i → gct P (nI k) 5000 = 0) → (1 ≤ i → gct P 8 5000 = 0) → kc ≤ 80000 + i + 6 * gct P 9 5000 → ns ≤ 480000 + 6 * i + 28 * gct P 9 5000 → gInv P n → gCh P lo (L, S) → va_P D vwCl ([gO h0 lo (nI n) 1] ++ va_pl L (gE S)) H → va_D (fun q : Nat => s.heap.size ≤ q) ([gO h0 lo (nI n) 1] ++ va_pl L (gE S)) → va_S (fun q : Nat => s.heap.size ≤ q) s.heap H locs → lv_has ls 10 [(0, .ref b), (1, .ref h0), (2, .int (nI 1)), (3, .int (nI i))] → W p l e room_1 s m #[Value.ref b] below meth c H locs kc ns (lw_Z below #[Value.ref b] s) (F0 m 366 ls []) := by
  have hA : ∀ q : Nat, s.heap.size ≤ q → (fun q : Nat => s.heap.size ≤ q) q := fun _ h => h
  intro d
  induction d with
  | zero =>
    intro i P kc ns L S H locs ls hi hz hz8 hkc hns hI hC hP hD hS hl
    have hn2 := hI.2.1
    have h9 : gct P 9 5000 ≤ n := h_few hI.1 (k := 9) (by omega)
    refine lv_iload_n hx hb dL_law_366 rfl (lv_at hl 3 rfl) ?_
    refine lv_bipush (v := nI 8) hx hb dL_law_367 (by decide) ?_
    refine lv_icmp_ge (tgt := 411) hx hb dL_law_369 (by decide) (fun _ => ?_) (fun c9 => absurd (z_le (by omega) (by omega)) c9)
    exact law_end hx hb hr hlocks hml hts hown hK hl9 hGG hXs hbl hLs (by omega) (by omega) hI (fun k hk => hz k (by omega)) (hz8 (by omega)) L S H locs ls hC hP hD hS (lv_sub hl [0, 1, 2] rfl)
  | succ d ih =>
    intro i P kc ns L S H locs ls hi hz hz8 hkc hns hI hC hP hD hS hl
    have hi8 : i < 8 := by omega
    have hg8 : ¬ nI i = 8 := h_ne (b := 8) (by omega) (by omega) (by omega)
    have hg9 : ¬ nI i = 9 := h_ne (b := 9) (by omega) (by omega) (by omega)
    have hin : ∀ (f : Nat) (P : Nat → Int32) (kc ns : Nat) (L : List Nat) (S : gS) (H : Heap) (locs : List Loc) (ls : Array Slot), n < gct P 9 5000 + f → (∀ k, k < i → gct P (nI k) 5000 = 0) → (1 ≤ i → gct P 8 5000 = 0) → kc ≤ 80000 + i + 6 * gct P 9 5000 → ns ≤ 480000 + 6 * i + 28 * gct P 9 5000 → gInv P n → gCh P lo (L, S) → va_P D vwCl ([gO h0 lo (nI n) 1] ++ va_pl L (gE S)) H → va_D (fun q : Nat => s.heap.size ≤ q) ([gO h0 lo (nI n) 1] ++ va_pl L (gE S)) → va_S (fun q : Nat => s.heap.size ≤ q) s.heap H locs → lv_has ls 10 [(0, .ref b), (1, .ref h0), (2, .int (nI 1)), (3, .int (nI i))] → W p l e room_1 s m #[Value.ref b] below meth c H locs kc ns (lw_Z below #[Value.ref b] s) (F0 m 376 ls []) := by
      intro f
      induction f with
      | zero =>
        intro P kc ns L S H locs ls hf hz hz8 hkc hns hI hC hP hD hS hl
        have h9 : gct P 9 5000 ≤ n := h_few hI.1 (k := 9) (by omega)
        omega
      | succ f ihf =>
        intro P kc ns L S H locs ls hf hz hz8 hkc hns hI hC hP hD hS hl
        have hev := hI.1
        have hn1 := hI.1.1
        have hn2 := hI.2.1
        have h9 : gct P 9 5000 ≤ n := h_few hev (k := 9) (by omega)
        have hj388 : ∀ (y9 : Nat) (L : List Nat) (S : gS) (H : Heap) (locs : List Loc) (ls : Array Slot), ¬ y9 = 0 → (glow (fun j => P j = nI i) 5000 y9 ∨ (glow (fun j => P j = nI i) 5000 0 ∧ glow (fun j => P j = 8) 5000 y9)) → gCh P lo (L, S) → va_P D vwCl ([gO h0 lo (nI n) 1] ++ va_pl L (gE S)) H → va_D (fun q : Nat => s.heap.size ≤ q) ([gO h0 lo (nI n) 1] ++ va_pl L (gE S)) → va_S (fun q : Nat => s.heap.size ≤ q) s.heap H locs → lv_has ls 10 [(0, .ref b), (1, .ref h0), (2, .int (nI 1)), (3, .int (nI i))] → W p l e room_1 s m #[Value.ref b] below meth c H locs (kc + 1) (ns + 6) (lw_Z below #[Value.ref b] s) (F0 m 388 ls []) := by
          intro y9 L S H locs ls hy0 hyy hC hP hD hS hl
          refine lv_aload_n hx hb dL_law_388 rfl (lv_at hl 1 rfl) ?_
          refine lv_iload_n hx hb dL_law_389 rfl (lv_at hl 3 rfl) ?_
          refine g_xcalli (vx_runV (As := [.int (nI i)]) (rest := []) ⟨hx, hb, hml, hown, hts⟩ (c_drink l hl9 D tys [gO h0 lo (nI n) 1] L S H.size (i := 0) rfl hC (nI i) (gEv_out hev)) (cwV 1 hts gL_law_X1_drink rfl rfl rfl (by decide +kernel) ⟨Nat.le_of_ble_eq_true rfl, Nat.le_of_ble_eq_true rfl⟩) (gP_V (va_recv hK hP (ci := 1) rfl (g_inX (X := [gO h0 lo (nI n) 1]) (i := 0) rfl)) hP hK hD gBl_G (fun U hU hW => gG.call hGG hS (gA_sub hD hS hA) U hU hW)) rfl rfl hl.1 rfl (lv_room (Nat.le_of_ble_eq_true rfl)) dL_law_390 ⟨by show kc + 1 + 5 ≤ 625101; omega, by show ns + 6 + 22 ≤ 7226164; omega⟩) hD hS hA (fun E ce q9 u9 H locs hc hP hD hS e1 e2 e3 => False.elim (xb_drink (h_gob hi8) (fun z => by rcases hyy with h | ⟨-, h⟩; exact absurd ((glow_ct h).mpr z.1) hy0; exact absurd ((glow_ct h).mpr z.2) hy0) hc.1)) (fun r9 u9 H locs hr9 hP hD hS => ?_)
          obtain ⟨-, d9, d91, d92, hr9, d93, hC⟩ := hr9
          obtain ⟨L, S⟩ := u9
          have hP : va_P D vwCl ([gO h0 lo (nI n) 1] ++ va_pl L (gE S)) H := hP
          have hD : va_D (fun q : Nat => s.heap.size ≤ q) ([gO h0 lo (nI n) 1] ++ va_pl L (gE S)) := hD
          have hr9 : r9 = nI d9 := hr9
          subst hr9
          have hpd : P d9 = nI i ∨ P d9 = 8 := by
            rcases d93 with z | ⟨-, z⟩
            · exact Or.inl (glow_at z (by omega)).2.2
            · exact Or.inr (glow_at z (by omega)).2.2
          have hdn : d9 ≤ n := by rcases hpd with z | z; exact (inv_in (k := i) (by omega) hev z).2; exact (inv_in (k := 8) (by omega) hev z).2
          have hd9 : ¬ P d9 = 9 := by rcases hpd with z | z; rw [z]; exact hg9; rw [z]; decide
          obtain ⟨Q, hQ⟩ : ∃ q, q = va_up P d9 9 := ⟨_, rfl⟩
          have hQi : gInv Q n := by rw [hQ]; exact inv_up (k := 9) (by omega) d91 hdn hI
          have hQ9 : gct Q 9 5000 = gct P 9 5000 + 1 := by rw [hQ, up_to d91 hd9 5000, if_pos d92]
          have hQz : ∀ k, k < i → gct Q (nI k) 5000 = 0 := fun k hk => by
            rw [hQ, up_ot (gct_none (hz k hk) d9 d91 d92) (show ¬ (9 : Int32) = nI k from h_ne (a := 9) (by omega) (by omega) (by omega))]
            exact hz k hk
          have hQ8 : 1 ≤ i → gct Q 8 5000 = 0 := fun hk => by
            rw [hQ, up_ot (gct_none (hz8 hk) d9 d91 d92) (by decide)]
            exact hz8 hk
          rw [← hQ] at hC
          refine lv_if_le (tgt := 400) hx hb dL_law_393 (by decide) (fun c9 => absurd c9 ((z_nle (by omega) (by omega) : ¬ nI d9 ≤ nI 0))) (fun _ => ?_)
          refine lv_iconst (v := nI 1) hx hb dL_law_396 (by decide) ?_
          refine lv_goto (tgt := 401) hx hb dL_law_397 (by decide) ?_
          refine lv_istore_n (lv' := [(2, .int (nI 1)), (0, .ref b), (1, .ref h0), (3, .int (nI i))]) hx hb dL_law_401 rfl hl (by decide) rfl (fun ls hl => ?_)
          refine lv_goto (tgt := 376) hx hb dL_law_402 (by decide) ?_
          exact ihf Q (kc + 1 + 5) (ns + 6 + 22) L S H locs ls (by omega) hQz hQ8 (by omega) (by omega) hQi hC hP hD hS (lv_sub hl [1, 2, 0, 3] rfl)
        refine lv_iload_n hx hb dL_law_376 rfl (lv_at hl 2 rfl) ?_
        refine lv_if_eq (tgt := 405) hx hb dL_law_377 (by decide) (fun c9 => absurd c9 (by decide)) (fun _ => ?_)
        refine lv_aload_n hx hb dL_law_380 rfl (lv_at hl 1 rfl) ?_
        refine lv_iload_n hx hb dL_law_381 rfl (lv_at hl 3 rfl) ?_
        refine g_xcalli (vx_runV (As := [.int (nI i)]) (rest := []) ⟨hx, hb, hml, hown, hts⟩ (c_nextOf l hl9 D tys [gO h0 lo (nI n) 1] L S H.size (i := 0) rfl hC (nI i)) (cwV 1 hts gL_law_X1_nextOf rfl rfl rfl (by decide +kernel) ⟨Nat.le_of_ble_eq_true rfl, Nat.le_of_ble_eq_true rfl⟩) (gP_V (va_recv hK hP (ci := 1) rfl (g_inX (X := [gO h0 lo (nI n) 1]) (i := 0) rfl)) hP hK hD gBl_G (fun U hU hW => gG.call hGG hS (gA_sub hD hS hA) U hU hW)) rfl rfl hl.1 rfl (lv_room (Nat.le_of_ble_eq_true rfl)) dL_law_382 ⟨by show kc + 1 ≤ 625101; omega, by show ns + 6 ≤ 7226164; omega⟩) hD hS hA (fun E ce q9 u9 H locs hc hP hD hS e1 e2 e3 => False.elim (hc.1.2 (h_gob hi8))) (fun r9 u9 H locs hr9 hP hD hS => ?_)
        obtain ⟨⟨-, v, y, hv, hy, hr9⟩, hC⟩ := hr9
        obtain ⟨L, S⟩ := u9
        have hP : va_P D vwCl ([gO h0 lo (nI n) 1] ++ va_pl L (gE S)) H := hP
        have hD : va_D (fun q : Nat => s.heap.size ≤ q) ([gO h0 lo (nI n) 1] ++ va_pl L (gE S)) := hD
        have hr9 : r9 = nI (if v = 0 then y else v) := hr9
        subst hr9
        have hv1 := glow_ct hv
        have hy1 := glow_ct hy
        by_cases hv0 : v = 0
        · subst hv0
          by_cases hy0 : y = 0
          · subst hy0
            refine g_top (y := nI 0) (rfl) ?_
            refine lv_if_le (tgt := 405) hx hb dL_law_385 (by decide) (fun _ => ?_) (fun c9 => absurd (by decide) c9)
            refine lv_iinc (v := nI (i + 1)) (lv' := [(3, .int (nI (i + 1))), (0, .ref b), (1, .ref h0), (2, .int (nI 1))]) hx hb dL_law_405 hl (k := 3) rfl (nI_1 _) (by decide) rfl (fun ls hl => ?_)
            refine lv_goto (tgt := 366) hx hb dL_law_408 (by decide) ?_
            have hz2 : ∀ k, k < i + 1 → gct P (nI k) 5000 = 0 := fun k hk => by
              by_cases z : k = i
              · rw [z]; exact hv1.mp rfl
              · exact hz k (by omega)
            exact ih (i + 1) P (kc + 1) (ns + 6) L S H locs ls (by omega) hz2 (fun _ => hy1.mp rfl) (by omega) (by omega) hI hC hP hD hS (lv_sub hl [1, 2, 3, 0] rfl)
          · have hyl := glow_le hy
            refine g_top (y := nI y) (by rw [if_pos rfl]) ?_
            refine lv_if_le (tgt := 405) hx hb dL_law_385 (by decide) (fun c9 => absurd c9 ((z_nle (by omega) (by omega) : ¬ nI y ≤ nI 0))) (fun _ => ?_)
            exact hj388 y L S H locs ls hy0 (Or.inr ⟨hv, hy⟩) hC hP hD hS (lv_sub hl [0, 1, 2, 3] rfl)
        · have hvl := glow_le hv
          refine g_top (y := nI v) (by rw [if_neg hv0]) ?_
          refine lv_if_le (tgt := 405) hx hb dL_law_385 (by decide) (fun c9 => absurd c9 ((z_nle (by omega) (by omega) : ¬ nI v ≤ nI 0))) (fun _ => ?_)
          exact hj388 v L S H locs ls hv0 (Or.inl hv) hC hP hD hS (lv_sub hl [0, 1, 2, 3] rfl)
    refine lv_iload_n hx hb dL_law_366 rfl (lv_at hl 3 rfl) ?_
    refine lv_bipush (v := nI 8) hx hb dL_law_367 (by decide) ?_
    refine lv_icmp_ge (tgt := 411) hx hb dL_law_369 (by decide) (fun c9 => absurd c9 (z_nle (by omega) (by omega))) (fun _ => ?_)
    refine lv_iload_n hx hb dL_law_372 rfl (lv_at hl 2 rfl) ?_
    refine lv_if_eq (tgt := 411) hx hb dL_law_373 (by decide) (fun c9 => absurd c9 (by decide)) (fun _ => ?_)
    exact hin (n + 1) P kc ns L S H locs ls (by omega) hz hz8 hkc hns hI hC hP hD hS (lv_sub hl [0, 1, 2, 3] rfl)
end
section
/-! p25: the law's turns -/
set_option maxHeartbeats 4000000 in
set_option maxRecDepth 100000 in
theorem law_loop {p : Program} {l : Launch} {e : Env} {s : State} {m : MethodId} {below : List Frame} {meth : Method} {c : Code} {D : va_G} {tys : List (ClassId × FieldType)} {b Ls h0 lo : Nat} {xs : Nat → Int32} (hx : p.tables.exec = Jvm.exec) (hb : c.code = cL_law) (hr : meth.sig.returnType = ret) (hlocks : meth.locks = false) (hml : c.maxLocals = 10) (hts : ∀ w ∈ wsL_law, w.before #[Value.ref b] s = true) (hown : s.vm.findClass RL = some m.cls) (hK : va_K D vwCl tys s) (hl9 : l.stackTraces = false) (hGG : gG (fun q : Nat => s.heap.size ≤ q) s) (hXs : va_X b Ls xs s s.heap) (hbl : b < s.heap.size) (hLs : Ls ≤ 260) : ∀ (d t : Nat) (P : Nat → Int32) (n kc ns : Nat) (L : List Nat) (S : gS) (H : Heap) (locs : List Loc) (ls : Array Slot), t + d = 130 → kc ≤ 10 + 600 * t → ns ≤ 60 + 3600 * t → gInv P n → gCh P lo (L, S) → va_P D vwCl ([gO h0 lo (nI n) 1] ++ va_pl L (gE S)) H → va_D (fun q : Nat => s.heap.size ≤ q) ([gO h0 lo (nI n) 1] ++ va_pl L (gE S)) → va_S (fun q : Nat => s.heap.size ≤ q) s.heap H locs → lv_has ls 10 [(0, .ref b), (1, .ref h0), (2, .int (nI 1)), (3, .int (nI t))] → W p l e room_1 s m #[Value.ref b] below meth c H locs kc ns (lw_Z below #[Value.ref b] s) (F0 m 12 ls []) := by
  have hA : ∀ q : Nat, s.heap.size ≤ q → (fun q : Nat => s.heap.size ≤ q) q := fun _ h => h
  have hbA : ¬ (fun q : Nat => s.heap.size ≤ q) b := Nat.not_le.mpr hbl
  intro d
  induction d with
  | zero =>
    intro t P n kc ns L S H locs ls ht hkc hns hI hC hP hD hS hl
    refine lv_iload_n hx hb dL_law_12 rfl (lv_at hl 3 rfl) ?_
    refine lv_sipush (v := nI 130) hx hb dL_law_13 (by decide) ?_
    refine lv_icmp_ge (tgt := 364) hx hb dL_law_16 (by decide) (fun _ => ?_) (fun c9 => absurd (z_le (by omega) (by omega)) c9)
    refine lv_iconst (v := nI 0) hx hb dL_law_364 (by decide) ?_
    refine lv_istore_n (lv' := [(3, .int (nI 0)), (0, .ref b), (1, .ref h0), (2, .int (nI 1))]) hx hb dL_law_365 rfl hl (by decide) rfl (fun ls hl => ?_)
    exact law_drink hx hb hr hlocks hml hts hown hK hl9 hGG hXs hbl hLs 8 0 P kc ns L S H locs ls rfl (fun k hk => absurd hk (Nat.not_lt_zero k)) (fun h => absurd h (by omega)) (by omega) (by omega) hI hC hP hD hS (lv_sub hl [1, 2, 3, 0] rfl)
  | succ d ih =>
    intro t P n kc ns L S H locs ls ht hkc hns hI hC hP hD hS hl
    have ht130 : t < 130 := by omega
    have hev := hI.1
    have hn1 := hI.1.1
    have hn2 := hI.2.1
    have hf8 : gct P 8 5000 ≤ n := h_few hev (k := 8) (by omega)
    have hj334 : ∀ (P : Nat → Int32) (n : Nat) (L : List Nat) (S : gS) (H : Heap) (locs : List Loc) (ls : Array Slot), gInv P n → gCh P lo (L, S) → va_P D vwCl ([gO h0 lo (nI n) 1] ++ va_pl L (gE S)) H → va_D (fun q : Nat => s.heap.size ≤ q) ([gO h0 lo (nI n) 1] ++ va_pl L (gE S)) → va_S (fun q : Nat => s.heap.size ≤ q) s.heap H locs → lv_has ls 10 [(0, .ref b), (1, .ref h0), (2, .int (nI 1)), (3, .int (nI t))] → W p l e room_1 s m #[Value.ref b] below meth c H locs (kc + 60) (ns + 300) (lw_Z below #[Value.ref b] s) (F0 m 334 ls []) := by
      intro P n L S H locs ls hI hC hP hD hS hl
      refine lv_iload_n hx hb dL_law_334 rfl (lv_at hl 2 rfl) ?_
      refine lv_if_eq (tgt := 356) hx hb dL_law_335 (by decide) (fun c9 => absurd c9 (by decide)) (fun _ => ?_)
      refine lv_aload_n hx hb dL_law_338 rfl (lv_at hl 1 rfl) ?_
      refine g_calli (va_runS (As := [.ref h0]) (rest := []) ⟨hx, hb, hml, hown, hts⟩ (w_isAllSomewhere l hl9 D tys L S H.size hC hI) (va_cwS 1 hts gL_law_L_isAllSomewhere rfl rfl rfl (by decide +kernel) ⟨Nat.le_of_ble_eq_true rfl, Nat.le_of_ble_eq_true rfl⟩) (gP_S hP hK hD gBl_G (fun U hU hW => gG.call hGG hS (gA_sub hD hS hA) U hU hW)) rfl rfl hl.1 rfl (lv_room (Nat.le_of_ble_eq_true rfl)) dL_law_339 ⟨by show kc + 60 + 60 ≤ 625101; omega, by show ns + 300 + 340 ≤ 7226164; omega⟩) hD hS hA (fun r9 u9 H locs hr9 hP hD hS => ?_)
      obtain ⟨hr9, hC⟩ := hr9
      obtain ⟨L, S⟩ := u9
      have hP : va_P D vwCl ([gO h0 lo (nI n) 1] ++ va_pl L (gE S)) H := hP
      have hD : va_D (fun q : Nat => s.heap.size ≤ q) ([gO h0 lo (nI n) 1] ++ va_pl L (gE S)) := hD
      have hr9 : r9 = nI 1 := hr9
      subst hr9
      refine lv_if_eq (tgt := 356) hx hb dL_law_342 (by decide) (fun c9 => absurd c9 (by decide)) (fun _ => ?_)
      refine lv_aload_n hx hb dL_law_345 rfl (lv_at hl 1 rfl) ?_
      refine g_calli (va_runS (As := [.ref h0]) (rest := []) ⟨hx, hb, hml, hown, hts⟩ (w_areRangesApart l hl9 D tys L S H.size hC hI) (va_cwS 1 hts gL_law_L_areRangesApart rfl rfl rfl (by decide +kernel) ⟨Nat.le_of_ble_eq_true rfl, Nat.le_of_ble_eq_true rfl⟩) (gP_S hP hK hD gBl_G (fun U hU hW => gG.call hGG hS (gA_sub hD hS hA) U hU hW)) rfl rfl hl.1 rfl (lv_room (Nat.le_of_ble_eq_true rfl)) dL_law_346 ⟨by show kc + 60 + 60 + 450 ≤ 625101; omega, by show ns + 300 + 340 + 2700 ≤ 7226164; omega⟩) hD hS hA (fun r9 u9 H locs hr9 hP hD hS => ?_)
      obtain ⟨hr9, hC⟩ := hr9
      obtain ⟨L, S⟩ := u9
      have hP : va_P D vwCl ([gO h0 lo (nI n) 1] ++ va_pl L (gE S)) H := hP
      have hD : va_D (fun q : Nat => s.heap.size ≤ q) ([gO h0 lo (nI n) 1] ++ va_pl L (gE S)) := hD
      have hr9 : r9 = nI 1 := hr9
      subst hr9
      refine lv_if_eq (tgt := 356) hx hb dL_law_349 (by decide) (fun c9 => absurd c9 (by decide)) (fun _ => ?_)
      refine lv_iconst (v := nI 1) hx hb dL_law_352 (by decide) ?_
      refine lv_goto (tgt := 357) hx hb dL_law_353 (by decide) ?_
      refine lv_istore_n (lv' := [(2, .int (nI 1)), (0, .ref b), (1, .ref h0), (3, .int (nI t))]) hx hb dL_law_357 rfl hl (by decide) rfl (fun ls hl => ?_)
      refine lv_iinc (v := nI (t + 1)) (lv' := [(3, .int (nI (t + 1))), (2, .int (nI 1)), (0, .ref b), (1, .ref h0)]) hx hb dL_law_358 hl (k := 3) rfl (nI_1 _) (by decide) rfl (fun ls hl => ?_)
      refine lv_goto (tgt := 12) hx hb dL_law_361 (by decide) ?_
      exact ih (t + 1) P n (kc + 60 + 60 + 450) (ns + 300 + 340 + 2700) L S H locs ls (by omega) (by omega) (by omega) hI hC hP hD hS (lv_sub hl [2, 3, 1, 0] rfl)
    refine lv_iload_n hx hb dL_law_12 rfl (lv_at hl 3 rfl) ?_
    refine lv_sipush (v := nI 130) hx hb dL_law_13 (by decide) ?_
    refine lv_icmp_ge (tgt := 364) hx hb dL_law_16 (by decide) (fun c9 => absurd c9 (z_nle (by omega) (by omega))) (fun _ => ?_)
    refine lv_iload_n hx hb dL_law_19 rfl (lv_at hl 2 rfl) ?_
    refine lv_if_eq (tgt := 364) hx hb dL_law_20 (by decide) (fun c9 => absurd c9 (by decide)) (fun _ => ?_)
    refine lv_aload_n hx hb dL_law_23 rfl (lv_at hl 0 rfl) ?_
    refine lv_iload_n hx hb dL_law_24 rfl (lv_at hl 3 rfl) ?_
    refine lv_sipush (v := nI 30000) hx hb dL_law_25 (by decide) ?_
    refine g_calli (va_runS (As := [.ref b, .int (nI t), .int (nI 30000)]) (rest := []) ⟨hx, hb, hml, hown, hts⟩ (w_drawn l D tys ([gO h0 lo (nI n) 1] ++ va_pl L (gE S)) H.size (b := b) (Ls := Ls) (xs := xs) ht130 hLs) (va_cwS 3 hts gL_law_L_drawn rfl rfl rfl (by decide +kernel) ⟨Nat.le_of_ble_eq_true rfl, Nat.le_of_ble_eq_true rfl⟩) (gP_S hP hK hD gBl_Xs (fun U hU hW => ⟨by rw [hU]; exact va_X.moved hW.alike (hXs.kept (hS.2.1 b hbl hbA)), by rw [hU]; exact Nat.lt_of_lt_of_le hbl hS.1, fun h => hbA (gA_sub hD hS hA b h)⟩)) rfl rfl hl.1 rfl (lv_room (Nat.le_of_ble_eq_true rfl)) dL_law_28 ⟨by show kc + 0 ≤ 625101; omega, by show ns + 0 ≤ 7226164; omega⟩) hD hS hA (fun r9 u9 H locs hr9 hP hD hS => ?_)
    obtain ⟨x, hx30, rfl⟩ := hr9
    have hP : va_P D vwCl ([gO h0 lo (nI n) 1] ++ va_pl L (gE S)) H := hP
    have hD : va_D (fun q : Nat => s.heap.size ≤ q) ([gO h0 lo (nI n) 1] ++ va_pl L (gE S)) := hD
    obtain ⟨gb, hgbd⟩ : ∃ g, g = x / 16 % 8 := ⟨_, rfl⟩
    obtain ⟨cn, hcnd⟩ : ∃ g, g = 1 + x / 128 % 20 := ⟨_, rfl⟩
    obtain ⟨wh, hwhd⟩ : ∃ g, g = x % 16 := ⟨_, rfl⟩
    have hgb : gb < 8 := by omega
    have hc1 : 1 ≤ cn := by omega
    have hc2 : cn ≤ 20 := by omega
    have hg8 : ¬ nI gb = 8 := h_ne (b := 8) (by omega) (by omega) (by omega)
    have hg10 : ¬ nI gb = 10 := h_ne (b := 10) (by omega) (by omega) (by omega)
    have hfg := h_few hev (k := gb) (by omega)
    refine lv_istore (lv' := [(4, .int (nI x)), (0, .ref b), (1, .ref h0), (2, .int (nI 1)), (3, .int (nI t))]) hx hb dL_law_31 hl (by decide) rfl (fun ls hl => ?_)
    refine lv_iload hx hb dL_law_33 (lv_at hl 0 rfl) ?_
    refine lv_bipush (v := nI 16) hx hb dL_law_35 (by decide) ?_
    refine lv_idiv hx hb dL_law_37 (by decide) ?_
    refine g_top (y := nI (x / 16)) (pk_div (by omega) (by omega) (by omega)) ?_
    refine lv_bipush (v := nI 8) hx hb dL_law_38 (by decide) ?_
    refine lv_irem hx hb dL_law_40 (by decide) ?_
    refine g_top (y := nI ((x / 16) % 8)) (pk_rem (by omega) (by omega) (by omega)) ?_
    refine g_top (y := nI gb) (z_eq hgbd.symm) ?_
    refine lv_istore (lv' := [(5, .int (nI gb)), (4, .int (nI x)), (0, .ref b), (1, .ref h0), (2, .int (nI 1)), (3, .int (nI t))]) hx hb dL_law_41 hl (by decide) rfl (fun ls hl => ?_)
    refine lv_iconst (v := nI 1) hx hb dL_law_43 (by decide) ?_
    refine lv_iload hx hb dL_law_44 (lv_at hl 1 rfl) ?_
    refine lv_sipush (v := nI 128) hx hb dL_law_46 (by decide) ?_
    refine lv_idiv hx hb dL_law_49 (by decide) ?_
    refine g_top (y := nI (x / 128)) (pk_div (by omega) (by omega) (by omega)) ?_
    refine lv_bipush (v := nI 20) hx hb dL_law_50 (by decide) ?_
    refine lv_irem hx hb dL_law_52 (by decide) ?_
    refine g_top (y := nI ((x / 128) % 20)) (pk_rem (by omega) (by omega) (by omega)) ?_
    refine lv_iadd hx hb dL_law_53 ?_
    refine g_top (y := nI (1 + ((x / 128) % 20))) (nI_add _ _) ?_
    refine g_top (y := nI cn) (z_eq hcnd.symm) ?_
    refine lv_istore (lv' := [(6, .int (nI cn)), (5, .int (nI gb)), (4, .int (nI x)), (0, .ref b), (1, .ref h0), (2, .int (nI 1)), (3, .int (nI t))]) hx hb dL_law_54 hl (by decide) rfl (fun ls hl => ?_)
    refine lv_iload hx hb dL_law_56 (lv_at hl 2 rfl) ?_
    refine lv_bipush (v := nI 16) hx hb dL_law_58 (by decide) ?_
    refine lv_irem hx hb dL_law_60 (by decide) ?_
    refine g_top (y := nI (x % 16)) (pk_rem (by omega) (by omega) (by omega)) ?_
    refine g_top (y := nI wh) (z_eq hwhd.symm) ?_
    refine lv_istore (lv' := [(7, .int (nI wh)), (6, .int (nI cn)), (5, .int (nI gb)), (4, .int (nI x)), (0, .ref b), (1, .ref h0), (2, .int (nI 1)), (3, .int (nI t))]) hx hb dL_law_61 hl (by decide) rfl (fun ls hl => ?_)
    have hj272 : ∀ (L : List Nat) (S : gS) (H : Heap) (locs : List Loc) (ls : Array Slot), gCh P lo (L, S) → va_P D vwCl ([gO h0 lo (nI n) 1] ++ va_pl L (gE S)) H → va_D (fun q : Nat => s.heap.size ≤ q) ([gO h0 lo (nI n) 1] ++ va_pl L (gE S)) → va_S (fun q : Nat => s.heap.size ≤ q) s.heap H locs → lv_has ls 10 [(0, .ref b), (1, .ref h0), (2, .int (nI 1)), (3, .int (nI t)), (4, .int (nI x)), (5, .int (nI gb)), (6, .int (nI cn)), (7, .int (nI wh))] → W p l e room_1 s m #[Value.ref b] below meth c H locs (kc + 10) (ns + 50) (lw_Z below #[Value.ref b] s) (F0 m 272 ls []) := by
      intro L S H locs ls hC hP hD hS hl
      refine lv_iload hx hb dL_law_272 (lv_at hl 7 rfl) ?_
      refine lv_bipush (v := nI 12) hx hb dL_law_274 (by decide) ?_
      refine lv_icmp_ge (tgt := 291) hx hb dL_law_276 (by decide) (fun c1 => ?_) (fun c1 => ?_)
      · skip
        refine lv_iload hx hb dL_law_291 (lv_at hl 7 rfl) ?_
        refine lv_bipush (v := nI 14) hx hb dL_law_293 (by decide) ?_
        refine lv_icmp_ge (tgt := 308) hx hb dL_law_295 (by decide) (fun c2 => ?_) (fun c2 => ?_)
        · obtain ⟨ta, htad⟩ : ∃ g, g = ((gb + 1) + ((x / 128) % 7)) % 8 := ⟨_, rfl⟩
          have hta : ta < 8 := by omega
          have hft : gb ≠ ta := by omega
          refine lv_aload_n hx hb dL_law_308 rfl (lv_at hl 1 rfl) ?_
          refine lv_iload hx hb dL_law_309 (lv_at hl 5 rfl) ?_
          refine lv_iload hx hb dL_law_311 (lv_at hl 5 rfl) ?_
          refine lv_iconst (v := nI 1) hx hb dL_law_313 (by decide) ?_
          refine lv_iadd hx hb dL_law_314 ?_
          refine g_top (y := nI (gb + 1)) (nI_add _ _) ?_
          refine lv_iload hx hb dL_law_315 (lv_at hl 4 rfl) ?_
          refine lv_sipush (v := nI 128) hx hb dL_law_317 (by decide) ?_
          refine lv_idiv hx hb dL_law_320 (by decide) ?_
          refine g_top (y := nI (x / 128)) (pk_div (by omega) (by omega) (by omega)) ?_
          refine lv_bipush (v := nI 7) hx hb dL_law_321 (by decide) ?_
          refine lv_irem hx hb dL_law_323 (by decide) ?_
          refine g_top (y := nI ((x / 128) % 7)) (pk_rem (by omega) (by omega) (by omega)) ?_
          refine lv_iadd hx hb dL_law_324 ?_
          refine g_top (y := nI ((gb + 1) + ((x / 128) % 7))) (nI_add _ _) ?_
          refine lv_bipush (v := nI 8) hx hb dL_law_325 (by decide) ?_
          refine lv_irem hx hb dL_law_327 (by decide) ?_
          refine g_top (y := nI (((gb + 1) + ((x / 128) % 7)) % 8)) (pk_rem (by omega) (by omega) (by omega)) ?_
          refine g_top (y := nI ta) (z_eq htad.symm) ?_
          refine lv_iload hx hb dL_law_328 (lv_at hl 6 rfl) ?_
          refine g_calli (va_runS (As := [.ref h0, .int (nI gb), .int (nI ta), .int (nI cn)]) (rest := []) ⟨hx, hb, hml, hown, hts⟩ (w_isPassedRound l hl9 D tys L S H.size hC hI hgb hta hft hc1 hc2) (va_cwS 4 hts gL_law_L_isPassedRound rfl rfl rfl (by decide +kernel) ⟨Nat.le_of_ble_eq_true rfl, Nat.le_of_ble_eq_true rfl⟩) (gP_S hP hK hD gBl_G (fun U hU hW => gG.call hGG hS (gA_sub hD hS hA) U hU hW)) rfl rfl hl.1 rfl (lv_room (Nat.le_of_ble_eq_true rfl)) dL_law_330 ⟨by show kc + 10 + 20 ≤ 625101; omega, by show ns + 50 + 100 ≤ 7226164; omega⟩) hD hS hA (fun r9 u9 H locs hr9 hP hD hS => ?_)
          obtain ⟨hr9, P2, hI2, hC⟩ := hr9
          obtain ⟨L, S⟩ := u9
          have hP : va_P D vwCl ([gO h0 lo (nI n) 1] ++ va_pl L (gE S)) H := hP
          have hD : va_D (fun q : Nat => s.heap.size ≤ q) ([gO h0 lo (nI n) 1] ++ va_pl L (gE S)) := hD
          have hr9 : r9 = nI 1 := hr9
          subst hr9
          refine lv_istore_n (lv' := [(2, .int (nI 1)), (0, .ref b), (1, .ref h0), (3, .int (nI t)), (4, .int (nI x)), (5, .int (nI gb)), (6, .int (nI cn)), (7, .int (nI wh))]) hx hb dL_law_333 rfl hl (by decide) rfl (fun ls hl => ?_)
          refine W.widen (k := (kc + 60)) (n := (ns + 300)) (by omega) (by omega) ?_
          exact hj334 P2 n L S H locs ls hI2 hC hP hD hS (lv_sub hl [1, 2, 0, 3] rfl)
        · skip
          refine lv_aload_n hx hb dL_law_298 rfl (lv_at hl 1 rfl) ?_
          refine lv_iload hx hb dL_law_299 (lv_at hl 5 rfl) ?_
          refine g_calli (va_runS (As := [.ref h0, .int (nI gb)]) (rest := []) ⟨hx, hb, hml, hown, hts⟩ (w_isTakenBack l hl9 D tys L S H.size hC hI hgb) (va_cwS 2 hts gL_law_L_isTakenBack rfl rfl rfl (by decide +kernel) ⟨Nat.le_of_ble_eq_true rfl, Nat.le_of_ble_eq_true rfl⟩) (gP_S hP hK hD gBl_G (fun U hU hW => gG.call hGG hS (gA_sub hD hS hA) U hU hW)) rfl rfl hl.1 rfl (lv_room (Nat.le_of_ble_eq_true rfl)) dL_law_301 ⟨by show kc + 10 + 12 ≤ 625101; omega, by show ns + 50 + 60 ≤ 7226164; omega⟩) hD hS hA (fun r9 u9 H locs hr9 hP hD hS => ?_)
          obtain ⟨hr9, P2, hI2, hC⟩ := hr9
          obtain ⟨L, S⟩ := u9
          have hP : va_P D vwCl ([gO h0 lo (nI n) 1] ++ va_pl L (gE S)) H := hP
          have hD : va_D (fun q : Nat => s.heap.size ≤ q) ([gO h0 lo (nI n) 1] ++ va_pl L (gE S)) := hD
          have hr9 : r9 = nI 1 := hr9
          subst hr9
          refine lv_istore_n (lv' := [(2, .int (nI 1)), (0, .ref b), (1, .ref h0), (3, .int (nI t)), (4, .int (nI x)), (5, .int (nI gb)), (6, .int (nI cn)), (7, .int (nI wh))]) hx hb dL_law_304 rfl hl (by decide) rfl (fun ls hl => ?_)
          refine lv_goto (tgt := 334) hx hb dL_law_305 (by decide) ?_
          refine W.widen (k := (kc + 60)) (n := (ns + 300)) (by omega) (by omega) ?_
          exact hj334 P2 n L S H locs ls hI2 hC hP hD hS (lv_sub hl [1, 2, 0, 3] rfl)
      · skip
        refine lv_aload_n hx hb dL_law_279 rfl (lv_at hl 1 rfl) ?_
        refine lv_iload hx hb dL_law_280 (lv_at hl 5 rfl) ?_
        refine lv_iload hx hb dL_law_282 (lv_at hl 6 rfl) ?_
        refine g_calli (va_runS (As := [.ref h0, .int (nI gb), .int (nI cn)]) (rest := []) ⟨hx, hb, hml, hown, hts⟩ (w_isThereAndBack l hl9 D tys L S H.size hC hI hgb hc1 hc2) (va_cwS 3 hts gL_law_L_isThereAndBack rfl rfl rfl (by decide +kernel) ⟨Nat.le_of_ble_eq_true rfl, Nat.le_of_ble_eq_true rfl⟩) (gP_S hP hK hD gBl_G (fun U hU hW => gG.call hGG hS (gA_sub hD hS hA) U hU hW)) rfl rfl hl.1 rfl (lv_room (Nat.le_of_ble_eq_true rfl)) dL_law_284 ⟨by show kc + 10 + 20 ≤ 625101; omega, by show ns + 50 + 120 ≤ 7226164; omega⟩) hD hS hA (fun r9 u9 H locs hr9 hP hD hS => ?_)
        obtain ⟨hr9, hC⟩ := hr9
        obtain ⟨L, S⟩ := u9
        have hP : va_P D vwCl ([gO h0 lo (nI n) 1] ++ va_pl L (gE S)) H := hP
        have hD : va_D (fun q : Nat => s.heap.size ≤ q) ([gO h0 lo (nI n) 1] ++ va_pl L (gE S)) := hD
        have hr9 : r9 = nI 1 := hr9
        subst hr9
        refine lv_istore_n (lv' := [(2, .int (nI 1)), (0, .ref b), (1, .ref h0), (3, .int (nI t)), (4, .int (nI x)), (5, .int (nI gb)), (6, .int (nI cn)), (7, .int (nI wh))]) hx hb dL_law_287 rfl hl (by decide) rfl (fun ls hl => ?_)
        refine lv_goto (tgt := 334) hx hb dL_law_288 (by decide) ?_
        refine W.widen (k := (kc + 60)) (n := (ns + 300)) (by omega) (by omega) ?_
        exact hj334 P n L S H locs ls hI hC hP hD hS (lv_sub hl [1, 2, 0, 3] rfl)
    have hj199 : ∀ (L : List Nat) (S : gS) (H : Heap) (locs : List Loc) (ls : Array Slot), gCh P lo (L, S) → va_P D vwCl ([gO h0 lo (nI n) 1] ++ va_pl L (gE S)) H → va_D (fun q : Nat => s.heap.size ≤ q) ([gO h0 lo (nI n) 1] ++ va_pl L (gE S)) → va_S (fun q : Nat => s.heap.size ≤ q) s.heap H locs → lv_has ls 10 [(0, .ref b), (1, .ref h0), (2, .int (nI 1)), (3, .int (nI t)), (4, .int (nI x)), (5, .int (nI gb)), (6, .int (nI cn)), (7, .int (nI wh))] → W p l e room_1 s m #[Value.ref b] below meth c H locs (kc + 8) (ns + 40) (lw_Z below #[Value.ref b] s) (F0 m 199 ls []) := by
      intro L S H locs ls hC hP hD hS hl
      refine lv_iload hx hb dL_law_199 (lv_at hl 7 rfl) ?_
      refine lv_bipush (v := nI 9) hx hb dL_law_201 (by decide) ?_
      refine lv_icmp_ne (tgt := 272) hx hb dL_law_203 (by decide) (fun c1 => ?_) (fun c1 => ?_)
      · skip
        refine W.widen (k := (kc + 10)) (n := (ns + 50)) (by omega) (by omega) ?_
        exact hj272 L S H locs ls hC hP hD hS (lv_sub hl [0, 1, 2, 3, 4, 5, 6, 7] rfl)
      · skip
        refine lv_aload_n hx hb dL_law_206 rfl (lv_at hl 1 rfl) ?_
        refine g_calli (va_runV (As := []) (rest := []) ⟨hx, hb, hml, hown, hts⟩ (c_size l D tys [gO h0 lo (nI n) 1] L S H.size (i := 0) rfl hC) (cwV 0 hts gL_law_X1_size rfl rfl rfl (by decide +kernel) ⟨Nat.le_of_ble_eq_true rfl, Nat.le_of_ble_eq_true rfl⟩) (gP_V (va_recv hK hP (ci := 1) rfl (g_inX (X := [gO h0 lo (nI n) 1]) (i := 0) rfl)) hP hK hD gBl_N (fun U _ hW => hGG.1.warm hW)) rfl rfl hl.1 rfl (lv_room (Nat.le_of_ble_eq_true rfl)) dL_law_207 ⟨by show kc + 8 + 0 ≤ 625101; omega, by show ns + 40 + 0 ≤ 7226164; omega⟩) hD hS hA (fun r9 u9 H locs hr9 hP hD hS => ?_)
        have hP : va_P D vwCl ([gO h0 lo (nI n) 1] ++ va_pl L (gE S)) H := hP
        have hD : va_D (fun q : Nat => s.heap.size ≤ q) ([gO h0 lo (nI n) 1] ++ va_pl L (gE S)) := hD
        have hr9 : r9 = nI n := hr9
        subst hr9
        refine lv_sipush (v := nI 200) hx hb dL_law_210 (by decide) ?_
        refine lv_icmp_ge (tgt := 272) hx hb dL_law_213 (by decide) (fun c2 => ?_) (fun c2 => ?_)
        · skip
          refine W.widen (k := (kc + 10)) (n := (ns + 50)) (by omega) (by omega) ?_
          exact hj272 L S H locs ls hC hP hD hS (lv_sub hl [0, 1, 2, 3, 4, 5, 6, 7] rfl)
        · have hn200 : n < 200 := by
            rcases Nat.lt_or_ge n 200 with z | z
            · exact z
            · exact absurd (show nI 200 ≤ nI n from nI_le z (by omega)) c2
          obtain ⟨vn, hvn⟩ : ∃ v, v = n + cn := ⟨_, rfl⟩
          obtain ⟨Q, hQ⟩ : ∃ q, q = gmv P (-1) 8 0 (vn - n) := ⟨_, rfl⟩
          have hQi : gInv Q vn := by rw [hQ]; exact inv_grow (by omega) (by omega) hI
          have hqe := hQi.1
          obtain ⟨k, ka, hk1, hk2⟩ : ∃ k a, gbg Q 8 5000 = k + 1 ∧ gRg Q k a vn := by rw [hQ]; exact grow_rg hev (by omega) (by omega)
          have hgr : gct Q 8 5000 = gct P 8 5000 + (vn - n) := by rw [hQ]; exact grow_ct hev (by omega) (by omega)
          have hkR : gbg Q 8 5000 ≤ vn := h_fewR hqe (k := 8) (by omega)
          refine lv_aload_n hx hb dL_law_216 rfl (lv_at hl 1 rfl) ?_
          refine g_calli (va_runV (As := []) (rest := []) ⟨hx, hb, hml, hown, hts⟩ (c_size l D tys [gO h0 lo (nI n) 1] L S H.size (i := 0) rfl hC) (cwV 0 hts gL_law_X1_size rfl rfl rfl (by decide +kernel) ⟨Nat.le_of_ble_eq_true rfl, Nat.le_of_ble_eq_true rfl⟩) (gP_V (va_recv hK hP (ci := 1) rfl (g_inX (X := [gO h0 lo (nI n) 1]) (i := 0) rfl)) hP hK hD gBl_N (fun U _ hW => hGG.1.warm hW)) rfl rfl hl.1 rfl (lv_room (Nat.le_of_ble_eq_true rfl)) dL_law_217 ⟨by show kc + 8 + 0 + 0 ≤ 625101; omega, by show ns + 40 + 0 + 0 ≤ 7226164; omega⟩) hD hS hA (fun r9 u9 H locs hr9 hP hD hS => ?_)
          have hP : va_P D vwCl ([gO h0 lo (nI n) 1] ++ va_pl L (gE S)) H := hP
          have hD : va_D (fun q : Nat => s.heap.size ≤ q) ([gO h0 lo (nI n) 1] ++ va_pl L (gE S)) := hD
          have hr9 : r9 = nI n := hr9
          subst hr9
          refine lv_istore (lv' := [(8, .int (nI n)), (0, .ref b), (1, .ref h0), (2, .int (nI 1)), (3, .int (nI t)), (4, .int (nI x)), (5, .int (nI gb)), (6, .int (nI cn)), (7, .int (nI wh))]) hx hb dL_law_220 hl (by decide) rfl (fun ls hl => ?_)
          refine lv_aload_n hx hb dL_law_222 rfl (lv_at hl 2 rfl) ?_
          refine g_calli (va_runV (As := []) (rest := []) ⟨hx, hb, hml, hown, hts⟩ (c_inJug l D tys [gO h0 lo (nI n) 1] L S H.size (i := 0) rfl hC) (cwV 0 hts gL_law_X1_inJug rfl rfl rfl (by decide +kernel) ⟨Nat.le_of_ble_eq_true rfl, Nat.le_of_ble_eq_true rfl⟩) (gP_V (va_recv hK hP (ci := 1) rfl (g_inX (X := [gO h0 lo (nI n) 1]) (i := 0) rfl)) hP hK hD gBl_N (fun U _ hW => hGG.1.warm hW)) rfl rfl hl.1 rfl (lv_room (Nat.le_of_ble_eq_true rfl)) dL_law_223 ⟨by show kc + 8 + 0 + 0 + 0 ≤ 625101; omega, by show ns + 40 + 0 + 0 + 0 ≤ 7226164; omega⟩) hD hS hA (fun r9 u9 H locs hr9 hP hD hS => ?_)
          have hP : va_P D vwCl ([gO h0 lo (nI n) 1] ++ va_pl L (gE S)) H := hP
          have hD : va_D (fun q : Nat => s.heap.size ≤ q) ([gO h0 lo (nI n) 1] ++ va_pl L (gE S)) := hD
          have hr9 : r9 = nI (gct P 8 5000) := hr9
          subst hr9
          refine lv_istore (lv' := [(9, .int (nI (gct P 8 5000))), (8, .int (nI n)), (0, .ref b), (1, .ref h0), (2, .int (nI 1)), (3, .int (nI t)), (4, .int (nI x)), (5, .int (nI gb)), (6, .int (nI cn)), (7, .int (nI wh))]) hx hb dL_law_226 hl (by decide) rfl (fun ls hl => ?_)
          refine lv_aload_n hx hb dL_law_228 rfl (lv_at hl 3 rfl) ?_
          refine lv_iload hx hb dL_law_229 (lv_at hl 1 rfl) ?_
          refine lv_iload hx hb dL_law_231 (lv_at hl 8 rfl) ?_
          refine lv_iadd hx hb dL_law_233 ?_
          refine g_top (y := nI (n + cn)) (nI_add _ _) ?_
          refine g_top (y := nI vn) (z_eq hvn.symm) ?_
          refine g_xcalli (vx_runV (As := [.int (nI vn)]) (rest := []) ⟨hx, hb, hml, hown, hts⟩ (c_enlarge l hl9 D tys [gO h0 lo (nI n) 1] L S H.size (i := 0) rfl hC (nI vn) rfl (by omega)) (cwV 1 hts gL_law_X1_enlarge rfl rfl rfl (by decide +kernel) ⟨Nat.le_of_ble_eq_true rfl, Nat.le_of_ble_eq_true rfl⟩) (gP_V (va_recv hK hP (ci := 1) rfl (g_inX (X := [gO h0 lo (nI n) 1]) (i := 0) rfl)) hP hK hD gBl_G (fun U hU hW => gG.call hGG hS (gA_sub hD hS hA) U hU hW)) rfl rfl hl.1 rfl (lv_room (Nat.le_of_ble_eq_true rfl)) dL_law_234 ⟨by show kc + 8 + 0 + 0 + 0 + 3 ≤ 625101; omega, by show ns + 40 + 0 + 0 + 0 + 14 ≤ 7226164; omega⟩) hD hS hA (fun E ce q9 u9 H locs hc hP hD hS e1 e2 e3 => False.elim (hc.1.2 ⟨vn, by omega, by omega, rfl⟩)) (fun r9 u9 H locs hr9 hP hD hS => ?_)
          obtain ⟨v8, v81, v82, v83, hr9, hC⟩ := hr9
          obtain ⟨L, S⟩ := u9
          obtain rfl : vn = v8 := (nI_eq (by omega) (by omega)).mp v83
          have hP : va_P D vwCl ([gO h0 lo (nI vn) 1] ++ va_pl L (gE S)) H := hP
          have hD : va_D (fun q : Nat => s.heap.size ≤ q) ([gO h0 lo (nI vn) 1] ++ va_pl L (gE S)) := hD
          have hr9 : r9 = nI (gct (gmv P (-1) 8 0 (vn - n)) 8 5000) := hr9
          subst hr9
          rw [show gmv P (-1) 8 0 (vn - n) = Q from hQ.symm] at hC
          refine g_top (y := nI (gct Q 8 5000)) (by rw [hQ]) ?_
          refine lv_iload hx hb dL_law_237 (lv_at hl 0 rfl) ?_
          refine lv_iload hx hb dL_law_239 (lv_at hl 8 rfl) ?_
          refine lv_iadd hx hb dL_law_241 ?_
          refine g_top (y := nI ((gct P 8 5000) + cn)) (nI_add _ _) ?_
          refine lv_icmp_ne (tgt := 267) hx hb dL_law_242 (by decide) (fun c9 => absurd (z_eq (by omega)) c9) (fun _ => ?_)
          refine lv_aload_n hx hb dL_law_245 rfl (lv_at hl 3 rfl) ?_
          refine lv_aload_n hx hb dL_law_246 rfl (lv_at hl 3 rfl) ?_
          refine g_calli (va_runV (As := []) (rest := [.ref h0]) ⟨hx, hb, hml, hown, hts⟩ (c_rangesP l D tys [gO h0 lo (nI vn) 1] L S H.size (i := 0) rfl hC (h_0 hqe)) (cwV 0 hts gL_law_X1_ranges rfl rfl rfl (by decide +kernel) ⟨Nat.le_of_ble_eq_true rfl, Nat.le_of_ble_eq_true rfl⟩) (gP_V (va_recv hK hP (ci := 1) rfl (g_inX (X := [gO h0 lo (nI vn) 1]) (i := 0) rfl)) hP hK hD gBl_N (fun U _ hW => hGG.1.warm hW)) rfl rfl hl.1 rfl (lv_room (Nat.le_of_ble_eq_true rfl)) dL_law_247 ⟨by show kc + 8 + 0 + 0 + 0 + 3 + 0 ≤ 625101; omega, by show ns + 40 + 0 + 0 + 0 + 14 + 0 ≤ 7226164; omega⟩) hD hS hA (fun r9 u9 H locs hr9 hP hD hS => ?_)
          have hP : va_P D vwCl ([gO h0 lo (nI vn) 1] ++ va_pl L (gE S)) H := hP
          have hD : va_D (fun q : Nat => s.heap.size ≤ q) ([gO h0 lo (nI vn) 1] ++ va_pl L (gE S)) := hD
          have hr9 : r9 = nI (gbg Q 8 5000) := hr9
          subst hr9
          refine lv_iconst (v := nI 1) hx hb dL_law_250 (by decide) ?_
          refine lv_isub hx hb dL_law_251 ?_
          refine g_top (y := nI ((gbg Q 8 5000) - 1)) (pk_sub (by omega)) ?_
          refine g_top (y := nI k) (z_eq (by omega)) ?_
          refine g_xcalli (vx_runV (As := [.int (nI k)]) (rest := []) ⟨hx, hb, hml, hown, hts⟩ (c_rangeTo l hl9 D tys [gO h0 lo (nI vn) 1] L S H.size (i := 0) rfl hC (nI k) (h_0 hqe) (h_51 hqe)) (cwV 1 hts gL_law_X1_rangeTo rfl rfl rfl (by decide +kernel) ⟨Nat.le_of_ble_eq_true rfl, Nat.le_of_ble_eq_true rfl⟩) (gP_V (va_recv hK hP (ci := 1) rfl (g_inX (X := [gO h0 lo (nI vn) 1]) (i := 0) rfl)) hP hK hD gBl_G (fun U hU hW => gG.call hGG hS (gA_sub hD hS hA) U hU hW)) rfl rfl hl.1 rfl (lv_room (Nat.le_of_ble_eq_true rfl)) dL_law_252 ⟨by show kc + 8 + 0 + 0 + 0 + 3 + 0 + 1 ≤ 625101; omega, by show ns + 40 + 0 + 0 + 0 + 14 + 0 + 6 ≤ 7226164; omega⟩) hD hS hA (fun E ce q9 u9 H locs hc hP hD hS e1 e2 e3 => False.elim (rg_ok hk2 hc.1.2)) (fun r9 u9 H locs hr9 hP hD hS => ?_)
          obtain ⟨hr9, hC⟩ := hr9
          obtain ⟨L, S⟩ := u9
          have hP : va_P D vwCl ([gO h0 lo (nI vn) 1] ++ va_pl L (gE S)) H := hP
          have hD : va_D (fun q : Nat => s.heap.size ≤ q) ([gO h0 lo (nI vn) 1] ++ va_pl L (gE S)) := hD
          have hr9 : r9 = nI vn := rg_to (h_0n hqe) (by omega) hk2 hr9
          subst hr9
          refine lv_iload hx hb dL_law_255 (lv_at hl 1 rfl) ?_
          refine lv_iload hx hb dL_law_257 (lv_at hl 8 rfl) ?_
          refine lv_iadd hx hb dL_law_259 ?_
          refine g_top (y := nI (n + cn)) (nI_add _ _) ?_
          refine lv_icmp_ne (tgt := 267) hx hb dL_law_260 (by decide) (fun c9 => absurd (z_eq (by omega)) c9) (fun _ => ?_)
          refine lv_iconst (v := nI 1) hx hb dL_law_263 (by decide) ?_
          refine lv_goto (tgt := 268) hx hb dL_law_264 (by decide) ?_
          refine lv_istore_n (lv' := [(2, .int (nI 1)), (9, .int (nI (gct P 8 5000))), (8, .int (nI n)), (0, .ref b), (1, .ref h0), (3, .int (nI t)), (4, .int (nI x)), (5, .int (nI gb)), (6, .int (nI cn)), (7, .int (nI wh))]) hx hb dL_law_268 rfl hl (by decide) rfl (fun ls hl => ?_)
          refine lv_goto (tgt := 334) hx hb dL_law_269 (by decide) ?_
          refine W.widen (k := (kc + 60)) (n := (ns + 300)) (by omega) (by omega) ?_
          exact hj334 Q vn L S H locs ls hQi hC hP hD hS (lv_sub hl [3, 4, 0, 5] rfl)
    have hj130 : ∀ (L : List Nat) (S : gS) (H : Heap) (locs : List Loc) (ls : Array Slot), gCh P lo (L, S) → va_P D vwCl ([gO h0 lo (nI n) 1] ++ va_pl L (gE S)) H → va_D (fun q : Nat => s.heap.size ≤ q) ([gO h0 lo (nI n) 1] ++ va_pl L (gE S)) → va_S (fun q : Nat => s.heap.size ≤ q) s.heap H locs → lv_has ls 10 [(0, .ref b), (1, .ref h0), (2, .int (nI 1)), (3, .int (nI t)), (4, .int (nI x)), (5, .int (nI gb)), (6, .int (nI cn)), (7, .int (nI wh))] → W p l e room_1 s m #[Value.ref b] below meth c H locs (kc + 3) (ns + 20) (lw_Z below #[Value.ref b] s) (F0 m 130 ls []) := by
      intro L S H locs ls hC hP hD hS hl
      refine lv_iload hx hb dL_law_130 (lv_at hl 7 rfl) ?_
      refine lv_bipush (v := nI 8) hx hb dL_law_132 (by decide) ?_
      refine lv_icmp_ne (tgt := 199) hx hb dL_law_134 (by decide) (fun c1 => ?_) (fun c1 => ?_)
      · skip
        refine W.widen (k := (kc + 8)) (n := (ns + 40)) (by omega) (by omega) ?_
        exact hj199 L S H locs ls hC hP hD hS (lv_sub hl [0, 1, 2, 3, 4, 5, 6, 7] rfl)
      · skip
        refine lv_aload_n hx hb dL_law_137 rfl (lv_at hl 1 rfl) ?_
        refine lv_iload hx hb dL_law_138 (lv_at hl 5 rfl) ?_
        refine g_xcalli (vx_runV (As := [.int (nI gb)]) (rest := []) ⟨hx, hb, hml, hown, hts⟩ (c_inGoblet l hl9 D tys [gO h0 lo (nI n) 1] L S H.size (i := 0) rfl hC (nI gb)) (cwV 1 hts gL_law_X1_inGoblet rfl rfl rfl (by decide +kernel) ⟨Nat.le_of_ble_eq_true rfl, Nat.le_of_ble_eq_true rfl⟩) (gP_V (va_recv hK hP (ci := 1) rfl (g_inX (X := [gO h0 lo (nI n) 1]) (i := 0) rfl)) hP hK hD gBl_G (fun U hU hW => gG.call hGG hS (gA_sub hD hS hA) U hU hW)) rfl rfl hl.1 rfl (lv_room (Nat.le_of_ble_eq_true rfl)) dL_law_140 ⟨by show kc + 3 + 1 ≤ 625101; omega, by show ns + 20 + 6 ≤ 7226164; omega⟩) hD hS hA (fun E ce q9 u9 H locs hc hP hD hS e1 e2 e3 => False.elim (hc.1.2 (h_gob hgb))) (fun r9 u9 H locs hr9 hP hD hS => ?_)
        obtain ⟨⟨-, hr9⟩, hC⟩ := hr9
        obtain ⟨L, S⟩ := u9
        have hP : va_P D vwCl ([gO h0 lo (nI n) 1] ++ va_pl L (gE S)) H := hP
        have hD : va_D (fun q : Nat => s.heap.size ≤ q) ([gO h0 lo (nI n) 1] ++ va_pl L (gE S)) := hD
        have hr9 : r9 = nI (gct P (nI gb) 5000) := hr9
        subst hr9
        refine lv_istore (lv' := [(8, .int (nI (gct P (nI gb) 5000))), (0, .ref b), (1, .ref h0), (2, .int (nI 1)), (3, .int (nI t)), (4, .int (nI x)), (5, .int (nI gb)), (6, .int (nI cn)), (7, .int (nI wh))]) hx hb dL_law_143 hl (by decide) rfl (fun ls hl => ?_)
        refine lv_aload_n hx hb dL_law_145 rfl (lv_at hl 2 rfl) ?_
        refine g_calli (va_runV (As := []) (rest := []) ⟨hx, hb, hml, hown, hts⟩ (c_spilt l D tys [gO h0 lo (nI n) 1] L S H.size (i := 0) rfl hC) (cwV 0 hts gL_law_X1_spilt rfl rfl rfl (by decide +kernel) ⟨Nat.le_of_ble_eq_true rfl, Nat.le_of_ble_eq_true rfl⟩) (gP_V (va_recv hK hP (ci := 1) rfl (g_inX (X := [gO h0 lo (nI n) 1]) (i := 0) rfl)) hP hK hD gBl_N (fun U _ hW => hGG.1.warm hW)) rfl rfl hl.1 rfl (lv_room (Nat.le_of_ble_eq_true rfl)) dL_law_146 ⟨by show kc + 3 + 1 + 0 ≤ 625101; omega, by show ns + 20 + 6 + 0 ≤ 7226164; omega⟩) hD hS hA (fun r9 u9 H locs hr9 hP hD hS => ?_)
        have hP : va_P D vwCl ([gO h0 lo (nI n) 1] ++ va_pl L (gE S)) H := hP
        have hD : va_D (fun q : Nat => s.heap.size ≤ q) ([gO h0 lo (nI n) 1] ++ va_pl L (gE S)) := hD
        have hr9 : r9 = nI (gct P 10 5000) := hr9
        subst hr9
        refine lv_istore (lv' := [(9, .int (nI (gct P 10 5000))), (8, .int (nI (gct P (nI gb) 5000))), (0, .ref b), (1, .ref h0), (2, .int (nI 1)), (3, .int (nI t)), (4, .int (nI x)), (5, .int (nI gb)), (6, .int (nI cn)), (7, .int (nI wh))]) hx hb dL_law_149 hl (by decide) rfl (fun ls hl => ?_)
        refine lv_iload hx hb dL_law_151 (lv_at hl 6 rfl) ?_
        refine lv_iconst (v := nI 3) hx hb dL_law_153 (by decide) ?_
        refine lv_irem hx hb dL_law_154 (by decide) ?_
        refine g_top (y := nI (x % 3)) (pk_rem (by omega) (by omega) (by omega)) ?_
        refine lv_if_gt (tgt := 190) hx hb dL_law_155 (by decide) (fun c2 => ?_) (fun c2 => ?_)
        · skip
          refine lv_iconst (v := nI 1) hx hb dL_law_190 (by decide) ?_
          refine lv_goto (tgt := 195) hx hb dL_law_191 (by decide) ?_
          refine lv_istore_n (lv' := [(2, .int (nI 1)), (9, .int (nI (gct P 10 5000))), (8, .int (nI (gct P (nI gb) 5000))), (0, .ref b), (1, .ref h0), (3, .int (nI t)), (4, .int (nI x)), (5, .int (nI gb)), (6, .int (nI cn)), (7, .int (nI wh))]) hx hb dL_law_195 rfl hl (by decide) rfl (fun ls hl => ?_)
          refine lv_goto (tgt := 334) hx hb dL_law_196 (by decide) ?_
          refine W.widen (k := (kc + 60)) (n := (ns + 300)) (by omega) (by omega) ?_
          exact hj334 P n L S H locs ls hI hC hP hD hS (lv_sub hl [3, 4, 0, 5] rfl)
        · obtain ⟨Q, hQ⟩ : ∃ q, q = gmv P (nI gb) 10 0 5000 := ⟨_, rfl⟩
          have hQi : gInv Q n := by rw [hQ]; exact inv_mv (b := 10) (by omega) (by omega) hI
          have hqe := hQi.1
          have hmq := mv_ct (P := P) (st := 0) (cn := 5000) hg10 5000
          rw [← hQ] at hmq
          refine lv_aload_n hx hb dL_law_158 rfl (lv_at hl 3 rfl) ?_
          refine lv_iload hx hb dL_law_159 (lv_at hl 7 rfl) ?_
          refine g_xcalli (vx_runV (As := [.int (nI gb)]) (rest := []) ⟨hx, hb, hml, hown, hts⟩ (c_spill l hl9 D tys [gO h0 lo (nI n) 1] L S H.size (i := 0) rfl hC (nI gb)) (cwV 1 hts gL_law_X1_spill rfl rfl rfl (by decide +kernel) ⟨Nat.le_of_ble_eq_true rfl, Nat.le_of_ble_eq_true rfl⟩) (gP_V (va_recv hK hP (ci := 1) rfl (g_inX (X := [gO h0 lo (nI n) 1]) (i := 0) rfl)) hP hK hD gBl_G (fun U hU hW => gG.call hGG hS (gA_sub hD hS hA) U hU hW)) rfl rfl hl.1 rfl (lv_room (Nat.le_of_ble_eq_true rfl)) dL_law_161 ⟨by show kc + 3 + 1 + 0 + 3 ≤ 625101; omega, by show ns + 20 + 6 + 0 + 14 ≤ 7226164; omega⟩) hD hS hA (fun E ce q9 u9 H locs hc hP hD hS e1 e2 e3 => False.elim (hc.1.2 (h_gob hgb))) (fun r9 u9 H locs hr9 hP hD hS => ?_)
          obtain ⟨⟨-, hr9⟩, hC⟩ := hr9
          obtain ⟨L, S⟩ := u9
          have hP : va_P D vwCl ([gO h0 lo (nI n) 1] ++ va_pl L (gE S)) H := hP
          have hD : va_D (fun q : Nat => s.heap.size ≤ q) ([gO h0 lo (nI n) 1] ++ va_pl L (gE S)) := hD
          have hr9 : r9 = nI (gct P (nI gb) 5000) := hr9
          subst hr9
          rw [show gmv P (nI gb) 10 0 5000 = Q from hQ.symm] at hC
          refine lv_iload hx hb dL_law_164 (lv_at hl 1 rfl) ?_
          refine lv_icmp_ne (tgt := 194) hx hb dL_law_166 (by decide) (fun c9 => absurd (rfl) c9) (fun _ => ?_)
          refine lv_aload_n hx hb dL_law_169 rfl (lv_at hl 3 rfl) ?_
          refine g_calli (va_runV (As := []) (rest := []) ⟨hx, hb, hml, hown, hts⟩ (c_spilt l D tys [gO h0 lo (nI n) 1] L S H.size (i := 0) rfl hC) (cwV 0 hts gL_law_X1_spilt rfl rfl rfl (by decide +kernel) ⟨Nat.le_of_ble_eq_true rfl, Nat.le_of_ble_eq_true rfl⟩) (gP_V (va_recv hK hP (ci := 1) rfl (g_inX (X := [gO h0 lo (nI n) 1]) (i := 0) rfl)) hP hK hD gBl_N (fun U _ hW => hGG.1.warm hW)) rfl rfl hl.1 rfl (lv_room (Nat.le_of_ble_eq_true rfl)) dL_law_170 ⟨by show kc + 3 + 1 + 0 + 3 + 0 ≤ 625101; omega, by show ns + 20 + 6 + 0 + 14 + 0 ≤ 7226164; omega⟩) hD hS hA (fun r9 u9 H locs hr9 hP hD hS => ?_)
          have hP : va_P D vwCl ([gO h0 lo (nI n) 1] ++ va_pl L (gE S)) H := hP
          have hD : va_D (fun q : Nat => s.heap.size ≤ q) ([gO h0 lo (nI n) 1] ++ va_pl L (gE S)) := hD
          have hr9 : r9 = nI (gct Q 10 5000) := hr9
          subst hr9
          refine lv_iload hx hb dL_law_173 (lv_at hl 0 rfl) ?_
          refine lv_iload hx hb dL_law_175 (lv_at hl 1 rfl) ?_
          refine lv_iadd hx hb dL_law_177 ?_
          refine g_top (y := nI ((gct P 10 5000) + (gct P (nI gb) 5000))) (nI_add _ _) ?_
          refine lv_icmp_ne (tgt := 194) hx hb dL_law_178 (by decide) (fun c9 => absurd (z_eq (by omega)) c9) (fun _ => ?_)
          refine lv_aload_n hx hb dL_law_181 rfl (lv_at hl 3 rfl) ?_
          refine lv_iload hx hb dL_law_182 (lv_at hl 7 rfl) ?_
          refine g_xcalli (vx_runV (As := [.int (nI gb)]) (rest := []) ⟨hx, hb, hml, hown, hts⟩ (c_inGoblet l hl9 D tys [gO h0 lo (nI n) 1] L S H.size (i := 0) rfl hC (nI gb)) (cwV 1 hts gL_law_X1_inGoblet rfl rfl rfl (by decide +kernel) ⟨Nat.le_of_ble_eq_true rfl, Nat.le_of_ble_eq_true rfl⟩) (gP_V (va_recv hK hP (ci := 1) rfl (g_inX (X := [gO h0 lo (nI n) 1]) (i := 0) rfl)) hP hK hD gBl_G (fun U hU hW => gG.call hGG hS (gA_sub hD hS hA) U hU hW)) rfl rfl hl.1 rfl (lv_room (Nat.le_of_ble_eq_true rfl)) dL_law_184 ⟨by show kc + 3 + 1 + 0 + 3 + 0 + 1 ≤ 625101; omega, by show ns + 20 + 6 + 0 + 14 + 0 + 6 ≤ 7226164; omega⟩) hD hS hA (fun E ce q9 u9 H locs hc hP hD hS e1 e2 e3 => False.elim (hc.1.2 (h_gob hgb))) (fun r9 u9 H locs hr9 hP hD hS => ?_)
          obtain ⟨⟨-, hr9⟩, hC⟩ := hr9
          obtain ⟨L, S⟩ := u9
          have hP : va_P D vwCl ([gO h0 lo (nI n) 1] ++ va_pl L (gE S)) H := hP
          have hD : va_D (fun q : Nat => s.heap.size ≤ q) ([gO h0 lo (nI n) 1] ++ va_pl L (gE S)) := hD
          have hr9 : r9 = nI (gct Q (nI gb) 5000) := hr9
          subst hr9
          refine lv_if_ne (tgt := 194) hx hb dL_law_187 (by decide) (fun c9 => absurd (z_eq (b := 0) (by omega)) c9) (fun _ => ?_)
          refine lv_iconst (v := nI 1) hx hb dL_law_190 (by decide) ?_
          refine lv_goto (tgt := 195) hx hb dL_law_191 (by decide) ?_
          refine lv_istore_n (lv' := [(2, .int (nI 1)), (9, .int (nI (gct P 10 5000))), (8, .int (nI (gct P (nI gb) 5000))), (0, .ref b), (1, .ref h0), (3, .int (nI t)), (4, .int (nI x)), (5, .int (nI gb)), (6, .int (nI cn)), (7, .int (nI wh))]) hx hb dL_law_195 rfl hl (by decide) rfl (fun ls hl => ?_)
          refine lv_goto (tgt := 334) hx hb dL_law_196 (by decide) ?_
          refine W.widen (k := (kc + 60)) (n := (ns + 300)) (by omega) (by omega) ?_
          exact hj334 Q n L S H locs ls hQi hC hP hD hS (lv_sub hl [3, 4, 0, 5] rfl)
    have hj96 : ∀ (L : List Nat) (S : gS) (H : Heap) (locs : List Loc) (ls : Array Slot), gCh P lo (L, S) → va_P D vwCl ([gO h0 lo (nI n) 1] ++ va_pl L (gE S)) H → va_D (fun q : Nat => s.heap.size ≤ q) ([gO h0 lo (nI n) 1] ++ va_pl L (gE S)) → va_S (fun q : Nat => s.heap.size ≤ q) s.heap H locs → lv_has ls 10 [(0, .ref b), (1, .ref h0), (2, .int (nI 1)), (3, .int (nI t)), (4, .int (nI x)), (5, .int (nI gb)), (6, .int (nI cn)), (7, .int (nI wh))] → W p l e room_1 s m #[Value.ref b] below meth c H locs kc ns (lw_Z below #[Value.ref b] s) (F0 m 96 ls []) := by
      intro L S H locs ls hC hP hD hS hl
      refine lv_iload hx hb dL_law_96 (lv_at hl 7 rfl) ?_
      refine lv_bipush (v := nI 8) hx hb dL_law_98 (by decide) ?_
      refine lv_icmp_ge (tgt := 130) hx hb dL_law_100 (by decide) (fun c1 => ?_) (fun c1 => ?_)
      · skip
        refine W.widen (k := (kc + 3)) (n := (ns + 20)) (by omega) (by omega) ?_
        exact hj130 L S H locs ls hC hP hD hS (lv_sub hl [0, 1, 2, 3, 4, 5, 6, 7] rfl)
      · skip
        refine lv_aload_n hx hb dL_law_103 rfl (lv_at hl 1 rfl) ?_
        refine lv_iload hx hb dL_law_104 (lv_at hl 5 rfl) ?_
        refine g_xcalli (vx_runV (As := [.int (nI gb)]) (rest := []) ⟨hx, hb, hml, hown, hts⟩ (c_nextOf l hl9 D tys [gO h0 lo (nI n) 1] L S H.size (i := 0) rfl hC (nI gb)) (cwV 1 hts gL_law_X1_nextOf rfl rfl rfl (by decide +kernel) ⟨Nat.le_of_ble_eq_true rfl, Nat.le_of_ble_eq_true rfl⟩) (gP_V (va_recv hK hP (ci := 1) rfl (g_inX (X := [gO h0 lo (nI n) 1]) (i := 0) rfl)) hP hK hD gBl_G (fun U hU hW => gG.call hGG hS (gA_sub hD hS hA) U hU hW)) rfl rfl hl.1 rfl (lv_room (Nat.le_of_ble_eq_true rfl)) dL_law_106 ⟨by show kc + 1 ≤ 625101; omega, by show ns + 6 ≤ 7226164; omega⟩) hD hS hA (fun E ce q9 u9 H locs hc hP hD hS e1 e2 e3 => False.elim (hc.1.2 (h_gob hgb))) (fun r9 u9 H locs hr9 hP hD hS => ?_)
        obtain ⟨⟨-, v, y, hv, hy, hr9⟩, hC⟩ := hr9
        obtain ⟨L, S⟩ := u9
        have hP : va_P D vwCl ([gO h0 lo (nI n) 1] ++ va_pl L (gE S)) H := hP
        have hD : va_D (fun q : Nat => s.heap.size ≤ q) ([gO h0 lo (nI n) 1] ++ va_pl L (gE S)) := hD
        have hr9 : r9 = nI (if v = 0 then y else v) := hr9
        subst hr9
        have hv1 := glow_ct hv
        have hy1 := glow_ct hy
        have hvl := glow_le hv
        have hyl := glow_le hy
        refine lv_if_le (tgt := 130) hx hb dL_law_109 (by decide) (fun c2 => ?_) (fun c2 => ?_)
        · skip
          refine W.widen (k := (kc + 3)) (n := (ns + 20)) (by omega) (by omega) ?_
          exact hj130 L S H locs ls hC hP hD hS (lv_sub hl [0, 1, 2, 3, 4, 5, 6, 7] rfl)
        · have hne : ¬ (gct P (nI gb) 5000 = 0 ∧ gct P 8 5000 = 0) := fun z => c2 (by rw [if_pos (hv1.mpr z.1), hy1.mpr z.2]; decide)
          refine lv_aload_n hx hb dL_law_112 rfl (lv_at hl 1 rfl) ?_
          refine lv_iload hx hb dL_law_113 (lv_at hl 5 rfl) ?_
          refine g_xcalli (vx_runV (As := [.int (nI gb)]) (rest := []) ⟨hx, hb, hml, hown, hts⟩ (c_drink l hl9 D tys [gO h0 lo (nI n) 1] L S H.size (i := 0) rfl hC (nI gb) (gEv_out hev)) (cwV 1 hts gL_law_X1_drink rfl rfl rfl (by decide +kernel) ⟨Nat.le_of_ble_eq_true rfl, Nat.le_of_ble_eq_true rfl⟩) (gP_V (va_recv hK hP (ci := 1) rfl (g_inX (X := [gO h0 lo (nI n) 1]) (i := 0) rfl)) hP hK hD gBl_G (fun U hU hW => gG.call hGG hS (gA_sub hD hS hA) U hU hW)) rfl rfl hl.1 rfl (lv_room (Nat.le_of_ble_eq_true rfl)) dL_law_115 ⟨by show kc + 1 + 5 ≤ 625101; omega, by show ns + 6 + 22 ≤ 7226164; omega⟩) hD hS hA (fun E ce q9 u9 H locs hc hP hD hS e1 e2 e3 => False.elim (xb_drink (h_gob hgb) hne hc.1)) (fun r9 u9 H locs hr9 hP hD hS => ?_)
          obtain ⟨-, d9, d91, d92, hr9, d93, hC⟩ := hr9
          obtain ⟨L, S⟩ := u9
          have hP : va_P D vwCl ([gO h0 lo (nI n) 1] ++ va_pl L (gE S)) H := hP
          have hD : va_D (fun q : Nat => s.heap.size ≤ q) ([gO h0 lo (nI n) 1] ++ va_pl L (gE S)) := hD
          have hr9 : r9 = nI d9 := hr9
          subst hr9
          have hpd : P d9 = nI gb ∨ P d9 = 8 := by
            rcases d93 with z | ⟨-, z⟩
            · exact Or.inl (glow_at z (by omega)).2.2
            · exact Or.inr (glow_at z (by omega)).2.2
          have hdn : d9 ≤ n := by rcases hpd with z | z; exact (inv_in (k := gb) (by omega) hev z).2; exact (inv_in (k := 8) (by omega) hev z).2
          have hQi : gInv (va_up P d9 9) n := inv_up (k := 9) (by omega) d91 hdn hI
          refine lv_if_le (tgt := 125) hx hb dL_law_118 (by decide) (fun c9 => absurd c9 ((z_nle (by omega) (by omega) : ¬ nI d9 ≤ nI 0))) (fun _ => ?_)
          refine lv_iconst (v := nI 1) hx hb dL_law_121 (by decide) ?_
          refine lv_goto (tgt := 126) hx hb dL_law_122 (by decide) ?_
          refine lv_istore_n (lv' := [(2, .int (nI 1)), (0, .ref b), (1, .ref h0), (3, .int (nI t)), (4, .int (nI x)), (5, .int (nI gb)), (6, .int (nI cn)), (7, .int (nI wh))]) hx hb dL_law_126 rfl hl (by decide) rfl (fun ls hl => ?_)
          refine lv_goto (tgt := 334) hx hb dL_law_127 (by decide) ?_
          refine W.widen (k := (kc + 60)) (n := (ns + 300)) (by omega) (by omega) ?_
          exact hj334 (va_up P d9 9) n L S H locs ls hQi hC hP hD hS (lv_sub hl [1, 2, 0, 3] rfl)
    refine lv_iload hx hb dL_law_63 (lv_at hl 0 rfl) ?_
    refine lv_iconst (v := nI 4) hx hb dL_law_65 (by decide) ?_
    refine lv_icmp_ge (tgt := 96) hx hb dL_law_66 (by decide) (fun c1 => ?_) (fun c1 => ?_)
    · skip
      exact hj96 L S H locs ls hC hP hD hS (lv_sub hl [4, 5, 6, 7, 3, 2, 1, 0] rfl)
    · skip
      refine lv_aload_n hx hb dL_law_69 rfl (lv_at hl 5 rfl) ?_
      refine g_calli (va_runV (As := []) (rest := []) ⟨hx, hb, hml, hown, hts⟩ (c_inJug l D tys [gO h0 lo (nI n) 1] L S H.size (i := 0) rfl hC) (cwV 0 hts gL_law_X1_inJug rfl rfl rfl (by decide +kernel) ⟨Nat.le_of_ble_eq_true rfl, Nat.le_of_ble_eq_true rfl⟩) (gP_V (va_recv hK hP (ci := 1) rfl (g_inX (X := [gO h0 lo (nI n) 1]) (i := 0) rfl)) hP hK hD gBl_N (fun U _ hW => hGG.1.warm hW)) rfl rfl hl.1 rfl (lv_room (Nat.le_of_ble_eq_true rfl)) dL_law_70 ⟨by show kc + 0 + 0 ≤ 625101; omega, by show ns + 0 + 0 ≤ 7226164; omega⟩) hD hS hA (fun r9 u9 H locs hr9 hP hD hS => ?_)
      have hP : va_P D vwCl ([gO h0 lo (nI n) 1] ++ va_pl L (gE S)) H := hP
      have hD : va_D (fun q : Nat => s.heap.size ≤ q) ([gO h0 lo (nI n) 1] ++ va_pl L (gE S)) := hD
      have hr9 : r9 = nI (gct P 8 5000) := hr9
      subst hr9
      refine lv_if_le (tgt := 96) hx hb dL_law_73 (by decide) (fun c2 => ?_) (fun c2 => ?_)
      · skip
        exact hj96 L S H locs ls hC hP hD hS (lv_sub hl [4, 5, 6, 7, 3, 2, 1, 0] rfl)
      · have hJ : ¬ gct P 8 5000 = 0 := fun z => c2 (by rw [z]; decide)
        obtain ⟨Q, hQ⟩ : ∃ q, q = gmv P 8 (nI gb) 0 cn := ⟨_, rfl⟩
        have hQi : gInv Q n := by rw [hQ]; exact inv_mv (a := 8) (by omega) (by omega) hI
        refine lv_aload_n hx hb dL_law_76 rfl (lv_at hl 5 rfl) ?_
        refine lv_iload hx hb dL_law_77 (lv_at hl 2 rfl) ?_
        refine lv_iload hx hb dL_law_79 (lv_at hl 1 rfl) ?_
        refine g_xcalli (vx_runV (As := [.int (nI gb), .int (nI cn)]) (rest := []) ⟨hx, hb, hml, hown, hts⟩ (c_pour l hl9 D tys [gO h0 lo (nI n) 1] L S H.size (i := 0) rfl hC (nI gb) (nI cn)) (cwV 2 hts gL_law_X1_pour rfl rfl rfl (by decide +kernel) ⟨Nat.le_of_ble_eq_true rfl, Nat.le_of_ble_eq_true rfl⟩) (gP_V (va_recv hK hP (ci := 1) rfl (g_inX (X := [gO h0 lo (nI n) 1]) (i := 0) rfl)) hP hK hD gBl_G (fun U hU hW => gG.call hGG hS (gA_sub hD hS hA) U hU hW)) rfl rfl hl.1 rfl (lv_room (Nat.le_of_ble_eq_true rfl)) dL_law_81 ⟨by show kc + 0 + 0 + 4 ≤ 625101; omega, by show ns + 0 + 0 + 20 ≤ 7226164; omega⟩) hD hS hA (fun E ce q9 u9 H locs hc hP hD hS e1 e2 e3 => False.elim (xb_pour (h_gob hgb) (h_cnt hc1 (by omega)) hJ hc.1)) (fun r9 u9 H locs hr9 hP hD hS => ?_)
        obtain ⟨-, c8, c81, c82, c83, -, hr9, hC⟩ := hr9
        obtain ⟨L, S⟩ := u9
        have hP : va_P D vwCl ([gO h0 lo (nI n) 1] ++ va_pl L (gE S)) H := hP
        have hD : va_D (fun q : Nat => s.heap.size ≤ q) ([gO h0 lo (nI n) 1] ++ va_pl L (gE S)) := hD
        obtain rfl : cn = c8 := (nI_eq (by omega) (by omega)).mp c83
        have hr9 : r9 = nI (min cn (gct P 8 5000)) := hr9
        subst hr9
        rw [show gmv P 8 (nI gb) 0 cn = Q from hQ.symm] at hC
        refine lv_if_le (tgt := 91) hx hb dL_law_84 (by decide) (fun c9 => absurd c9 ((z_nle (by omega) (by omega) : ¬ nI (min cn (gct P 8 5000)) ≤ nI 0))) (fun _ => ?_)
        refine lv_iconst (v := nI 1) hx hb dL_law_87 (by decide) ?_
        refine lv_goto (tgt := 92) hx hb dL_law_88 (by decide) ?_
        refine lv_istore_n (lv' := [(2, .int (nI 1)), (7, .int (nI wh)), (6, .int (nI cn)), (5, .int (nI gb)), (4, .int (nI x)), (0, .ref b), (1, .ref h0), (3, .int (nI t))]) hx hb dL_law_92 rfl hl (by decide) rfl (fun ls hl => ?_)
        refine lv_goto (tgt := 334) hx hb dL_law_93 (by decide) ?_
        refine W.widen (k := (kc + 60)) (n := (ns + 300)) (by omega) (by omega) ?_
        exact hj334 Q n L S H locs ls hQi hC hP hD hS (lv_sub hl [5, 6, 0, 7] rfl)
end
section
/-! the law from its entry -/
theorem g_start_str {b : Nat} {s : State} (htsT : ∀ w ∈ lw_tbl, w.before #[Value.ref b] s = true) (hfl : ∀ w ∈ flatC (Jvm.Cond.and given_1 narrow_1), w.before #[Value.ref b] s = true) (k : Nat) (tx : String) (h1 : Cond.stringRef RX1 k tx ∈ lw_tbl) (h2 : Cond.exactly (.string RX1 k) "java/lang/String" ∈ flatC (Jvm.Cond.and given_1 narrow_1)) : ∃ a, vk_R RX1 k tx a s := by
  obtain ⟨a, c, cA, kA, q1, -⟩ := Cond.exactly_spec (args := #[Value.ref b]) (first := s) (o := none) (s := s) (idx := []) (t := .string RX1 k) (cls := "java/lang/String") (hfl _ h2)
  exact ⟨a, vk_R.of (htsT _ h1) q1⟩
set_option maxHeartbeats 4000000 in
set_option maxRecDepth 100000 in
theorem whole_start {p : Program} {e : Env} {s : State} {m : MethodId} {below : List Frame} {meth : Method} {c : Code} (l : Launch) (hflags : l.flags = flags0) {b L : Nat} {xs : Nat → Int32} (hL : L ≤ 260) (C0 : lw_At p s m meth c b L xs) : W p l e room_1 s m #[Value.ref b] below meth c s.heap [] 0 0 (lw_Z below #[Value.ref b] s) (entryFrame m ([Value.ref b] : List Value).toArray 10) := by
  obtain ⟨hx, hb, hr, hml, hown, htsT, hX, hbl, hlocks, hgv⟩ := id C0
  have hA : ∀ q : Nat, s.heap.size ≤ q → (fun q : Nat => s.heap.size ≤ q) q := fun _ h => h
  have hts : ∀ w ∈ wsL_law, w.before #[Value.ref b] s = true := fun w h => htsT w (wsL_law_in w h)
  have hl9 : l.stackTraces = false := by unfold Launch.stackTraces; rw [hflags]; decide +kernel
  obtain ⟨c0, iS0, hKn0⟩ := u_known (C := RX0) (T := TX0) (N := 4) (n := 4) hts inlX0 (hts (.instantiable RX0 4) (by decide +kernel))
  obtain ⟨c1, iS1, hKn1⟩ := u_known (C := RX1) (T := TX1) (N := 3) (n := 3) hts inlX1 (hts (.instantiable RX1 3) (by decide +kernel))
  obtain ⟨dC, dI, hKc⟩ : ∃ (dC : Nat → ClassId) (dI : Nat → Nat → Nat), ∀ (k : Nat) (q : vw_C), vwCl[k]? = some q → u_Kn s q.1 q.2.1 q.2.2 (dC k) (dI k) := by
    refine ⟨fun k => if k = 0 then c0 else c1, fun k => if k = 0 then iS0 else iS1, ?_⟩
    intro k q hq
    match k, hq with
    | 0, hq => cases hq; exact hKn0
    | 1, hq => cases hq; exact hKn1
    | k + 2, hq => simp [vwCl] at hq
  have hfl := flat_of_before _ hgv
  have hAA : ∀ a : Nat, a < s.heap.size → ¬ (fun q : Nat => s.heap.size ≤ q) a := fun a h => Nat.not_le.mpr h
  have hGG : gG (fun q : Nat => s.heap.size ≤ q) s := by
    refine ⟨⟨⟨va_Nw.of rfl (htsT (.fieldLinkNest RX1 90 "NumberGoblets$Stretch" "first" "I" "NumberGoblets") (by decide +kernel)), va_Nw.of rfl (htsT (.fieldLinkNest RX1 93 "NumberGoblets$Stretch" "last" "I" "NumberGoblets") (by decide +kernel)), va_Nw.of rfl (htsT (.fieldLinkNest RX1 96 "NumberGoblets$Stretch" "place" "I" "NumberGoblets") (by decide +kernel)), va_Nw.of rfl (htsT (.fieldLinkNest RX1 103 "NumberGoblets$Stretch" "next" "LNumberGoblets$Stretch;" "NumberGoblets") (by decide +kernel))⟩, va_Nw.of rfl (htsT (.methodLinkNest RX1 11 yX0_init "NumberGoblets") (by decide +kernel)), va_Nw.of rfl (htsT (.methodLinkNest RX1 99 yX0_length "NumberGoblets") (by decide +kernel)), va_Nw.of rfl (htsT (.methodLinkNest RX1 110 yX0_shortenTo "NumberGoblets") (by decide +kernel)), va_Nw.of rfl (htsT (.methodLinkNest RX1 116 yX0_absorbNextOnesOfSamePlace "NumberGoblets") (by decide +kernel))⟩, ?_, ?_, ?_, ?_⟩
    · intro w hw
      refine va_Nw.of ?_ (htsT w ?_)
      · revert w hw; decide +kernel
      · revert w hw; decide +kernel
    · intro q hq
      simp only [gSt, List.mem_cons, List.not_mem_nil, or_false] at hq
      rcases hq with rfl | rfl | rfl | rfl | rfl | rfl | rfl | rfl | rfl
      · exact g_start_str htsT hfl 27 "the size is not above the old one and up to 5000" (by decide +kernel) (by decide +kernel)
      · exact g_start_str htsT hfl 106 "there is no such goblet" (by decide +kernel) (by decide +kernel)
      · exact g_start_str htsT hfl 108 "the count is not 1 to 200" (by decide +kernel) (by decide +kernel)
      · exact g_start_str htsT hfl 52 "the jug is empty" (by decide +kernel) (by decide +kernel)
      · exact g_start_str htsT hfl 55 "the goblet and the jug are empty" (by decide +kernel) (by decide +kernel)
      · exact g_start_str htsT hfl 61 "both goblets are the same" (by decide +kernel) (by decide +kernel)
      · exact g_start_str htsT hfl 71 "the number is not drunk" (by decide +kernel) (by decide +kernel)
      · exact g_start_str htsT hfl 76 "the jug or some goblet is not empty" (by decide +kernel) (by decide +kernel)
      · exact g_start_str htsT hfl 87 "the jug has no such range" (by decide +kernel) (by decide +kernel)
    · exact vx_Zqof (htsT (.laysStatic Bundle.tN "UNASSIGNED_STACK" Bundle.steD) (by decide +kernel)) (htsT (.initialized Bundle.tN) (by decide +kernel)) (hfl (.isRef (.static Bundle.tN "UNASSIGNED_STACK" Bundle.steD)) (by decide +kernel)) hAA
    · exact vx_Zqof (htsT (.laysStatic Bundle.tN "SUPPRESSED_SENTINEL" Bundle.listD) (by decide +kernel)) (htsT (.initialized Bundle.tN) (by decide +kernel)) (hfl (.isRef (.static Bundle.tN "SUPPRESSED_SENTINEL" Bundle.listD)) (by decide +kernel)) hAA
  have hS : va_S (fun q : Nat => s.heap.size ≤ q) s.heap s.heap [] := va_S.rf
  have hK : va_K (dC, dI) vwCl [] s := ⟨hKc, fun k q h => by simp at h⟩
  have hP : va_P (dC, dI) vwCl [] s.heap := fun k q h => by simp at h
  have hD : va_D (fun q : Nat => s.heap.size ≤ q) [] := ⟨fun i j p q h => by simp at h, fun k q h => by simp at h⟩
  have hl := lv_entry ([.ref b]) (n := 10) (Nat.le_of_ble_eq_true rfl)
  rw [lg_entry_eq]
  generalize (lg_sl ([.ref b]) ++ List.replicate (10 - (lg_sl ([.ref b])).length) Slot.unset).toArray = ls at hl ⊢
  have hl : lv_has ls 10 [(0, .ref b)] := hl
  refine va_new (ci := 1) (fs := [.null, .int 0, .int 0]) (C := RX1) (T := TX1) (N := 3) hx hb hts inlX1 tyX1 tyX1_ok hown (hts (.classLink RL 9 RX1) (by decide +kernel)) (hts (.instantiable RX1 3) (by decide +kernel)) (hts (.initialized RX1) (by decide +kernel)) hK hP hD hS hA rfl (fun j hj => by rcases (show j = 0 ∨ j = 1 ∨ j = 2 by omega) with rfl | rfl | rfl <;> rfl) (by decide) (by decide) dL_law_0 (fun h0 H hP hD hS => ?_)
  have hP : va_P (dC, dI) vwCl ([(h0, .inr (1, [.null, .int 0, .int 0]))] ++ va_pl [] (gE (fun _ => (0, 0, 0, none)))) H := hP
  have hD : va_D (fun q : Nat => s.heap.size ≤ q) ([(h0, .inr (1, [.null, .int 0, .int 0]))] ++ va_pl [] (gE (fun _ => (0, 0, 0, none)))) := hD
  refine lv_dup hx hb dL_law_3 rfl ?_
  refine g_callv (va_runI (As := []) (rest := [.ref h0]) ⟨hx, hb, hml, hown, hts⟩ (c_Ginit l (dC, dI) [] [(h0, .inr (1, [.null, .int 0, .int 0]))] (fun _ => (0, 0, 0, none)) H.size (i := 0) rfl) (cwI 0 hts gL_law_X1_init rfl rfl rfl (hts (.initialized RX1) (by decide +kernel)) (hts (.methodLink RL 74 yX1_init) (by decide +kernel)) (hts (.instanceMethod yX1_init) (by decide +kernel)) rfl (by decide +kernel) ⟨Nat.le_of_ble_eq_true rfl, Nat.le_of_ble_eq_true rfl⟩) (gP_S hP hK hD gBl_N (fun U _ hW => hGG.1.warm hW)) rfl rfl hl.1 rfl (lv_room (Nat.le_of_ble_eq_true rfl)) dL_law_4 ⟨Nat.le_of_ble_eq_true rfl, Nat.le_of_ble_eq_true rfl⟩) hD hS hA (fun u H locs hC hP hD hS => ?_)
  obtain ⟨lo, L1, S1⟩ := u
  have hP : va_P (dC, dI) vwCl ([gO h0 lo (nI 100) 1] ++ va_pl L1 (gE S1)) H := hP
  have hD : va_D (fun q : Nat => s.heap.size ≤ q) ([gO h0 lo (nI 100) 1] ++ va_pl L1 (gE S1)) := hD
  have hC : gCh gP0 lo (L1, S1) := hC
  refine lv_astore_n (lv' := [(1, .ref h0), (0, .ref b)]) hx hb dL_law_7 rfl hl (by decide) rfl (fun ls hl => ?_)
  refine lv_iconst (v := nI 1) hx hb dL_law_8 (by decide) ?_
  refine lv_istore_n (lv' := [(2, .int (nI 1)), (1, .ref h0), (0, .ref b)]) hx hb dL_law_9 rfl hl (by decide) rfl (fun ls hl => ?_)
  refine lv_iconst (v := nI 0) hx hb dL_law_10 (by decide) ?_
  refine lv_istore_n (lv' := [(3, .int (nI 0)), (2, .int (nI 1)), (1, .ref h0), (0, .ref b)]) hx hb dL_law_11 rfl hl (by decide) rfl (fun ls hl => ?_)
  exact law_loop hx hb hr hlocks hml hts hown hK hl9 hGG hX hbl hL 130 0 gP0 100 _ _ L1 S1 H locs ls rfl (Nat.le_of_ble_eq_true rfl) (Nat.le_of_ble_eq_true rfl) inv_0 hC hP hD hS (lv_sub hl [3, 2, 1, 0] rfl)
end
section
set_option maxHeartbeats 4000000 in
theorem lw_walk (l : Launch) (hflags : l.flags = flags0) (b : Addr) (xs : List Int32) : MetFree l x (headSpec (Jvm.Cond.code x code maxLocals ret :: tables_1) room_1) (lw_P b xs) (fun _ _ _ _ _ => True) lw_Q := by
  refine MetFree.of_bodyS (code := code) (maxLocals := maxLocals) (ret := ret) (by decide) ?_ ?_
  · intro args s m h hn
    obtain ⟨meth, c, h1, h2, h3, h4, h5, h6, -, -⟩ := Cond.code_spec hn (atoms_spec (ws := Jvm.Cond.code x code maxLocals ret :: tables_1) h _ List.mem_cons_self)
    exact ⟨meth, c, h1, h2, h3, h4, h5, h6⟩
  · intro p e s m args below meth c s₁ B hml0 hP _
    obtain ⟨rfl, hx, hbd, hgv⟩ := hP
    obtain ⟨scr, harrAt, hlist, hof, hsmall⟩ := hx
    obtain ⟨hcb, hkn, -, -⟩ := State.arrayAt?_spec harrAt
    have hown : s.vm.findClass R_law = some m.cls := findClass_of_methodNamed B.named
    have hts0 : ∀ c ∈ (Jvm.Cond.code x code maxLocals ret :: tables_1), c.before #[Value.ref b] s = true := atoms_spec (ws := Jvm.Cond.code x code maxLocals ret :: tables_1) B.pre
    have hts : ∀ w ∈ lw_tbl, w.before #[Value.ref b] s = true := k2_hts_sels lw_privs (fun w hw => hts0 w (List.mem_cons_of_mem _ hw)) lw_privs_ok
    have hml : c.maxLocals = 10 := B.maxLocals_eq (hts0 _ List.mem_cons_self)
    have X₀ : Stand p l e room_1 s m #[Value.ref b] below meth c s₁ [] 0 0 := Stand.of_body B
    have hh0 : s₁.heap = s.heap := by rw [B.state]; rfl
    have hsz : scr.slots.size = xs.length := by rw [← Array.length_toList, hlist, List.length_map]
    have hval : ∀ j : Nat, j < xs.length → scr.slots[j]? = some (.int (xs.getD j 0)) := fun j hj => by
      rw [← Array.getElem?_toList, hlist]
      simp [hj]
    have hbl : b < s.heap.size := (Array.getElem?_eq_some_iff.mp hcb).1
    have hX : va_X b xs.length (fun j => xs.getD j 0) s s.heap := ⟨scr, hcb, hof, hkn, hsz, hval⟩
    have K : W p l e room_1 s m #[Value.ref b] below meth c s₁.heap [] 0 0 (lw_Z below #[Value.ref b] s) (entryFrame m ([Value.ref b] : List Value).toArray 10) := by
      rw [hh0]
      exact whole_start l hflags hbd ⟨B.exec, B.bytes, B.returns, hml, hown, hts, hX, hbl, B.notSynchronized, hgv⟩
    obtain ⟨t, a1, o, b1, b2, b3⟩ := K s₁ rfl X₀
    exact ⟨t, o, a1, b1, b2, b3⟩
theorem lw_pre_spec {args : Array Value} {s : State} (h : (Jvm.Cond.and given_1 narrow_1).before args s = true) (hr : rest_1_c.before args s = true) : ∃ (b : Addr) (xs : List Int32), lw_P b xs args s := by
  have hs := flat_of_before _ h
  have hq := flat_of_before _ hr
  have hc : (Cond.count 1).before args s = true := hs _ (by decide +kernel)
  have harr : (Cond.arrayOf (.arg 0) .int).before args s = true := hs _ (by decide +kernel)
  have hle : (Cond.le (.length (.arg 0)) (.int 260)).before args s = true := hs _ (by decide +kernel)
  have hlen : (Cond.isInt (.length (.arg 0))).before args s = true := hq _ (by decide +kernel)
  have hall : (Cond.all (.arg 0) (.isInt (.elem (.arg 0) (.index 0)))).before args s = true := hq _ (by decide +kernel)
  obtain ⟨b, xs, hb, hx⟩ := State.ints_of_pre rfl harr hlen hall
  have hsm : xs.length < 2 ^ 31 := hx.choose_spec.2.2.2
  have hev : (Term.length (.arg 0)).eval args s none [] s = some (.int xs.length.toInt32) := hx.length_eval hb
  have hv := Cond.le_ints hev (show (Term.int 260).eval args s none [] s = some (.int 260) from rfl)
  have hd : xs.length.toInt32 ≤ 260 := by
    simpa [Cond.before, Cond.holds, hv] using hle
  have hN : xs.length ≤ 260 := (Int32.ofNat_le_ofNat hsm (by decide)).mp (show Int32.ofNat xs.length ≤ Int32.ofNat 260 from hd)
  exact ⟨b, xs, Cond.one_arg hc (show args[0]? = some (.ref b) from hb), hx, hN, h⟩
theorem lw_comes (l : Launch) (hflags : l.flags = flags0) : Comes l x (Jvm.Cond.code x code maxLocals ret :: tables_1) room_1 (fun tb e args s => Calls_1 tb e args s ∧ rest_1 tb e args s ∧ Pre_1 tb e args s)
    (fun _ _ args s o t => lw_Q args s o t) := by
  intro p e ha hc hk s m args below hf hfit hheap happ hpre
  obtain ⟨b, xs, hP⟩ := lw_pre_spec hpre.2.2 hpre.2.1
  obtain ⟨k, o, h1, h2, h3, hQ⟩ := lw_walk l hflags b xs p e ha hc hk s m args below hf ((Spec.applies_iff_loose hf).mp happ).1 hP trivial
  exact ⟨k, o, h1, h2, h3, hQ⟩
theorem lw_frame {s t : State} {o : Outcome} {args : Array Value} (h : Framed s o t [] 625101 7226164) :
    Framed s o t (fieldLocs frame_1_writes args s ++ arrayLocs frame_1_arrays args s ++ staticLocs frame_1_statics s) 625101 7226164 := h
theorem lw_limb (L : Cond) (hL : ∀ (args : Array Value) (s t : State), L.after args s (.returned (some (.int 1))) t = true) :
    ArmFor flags0 classFile x code maxLocals ret World_1 tables_1 room_1 Calls_1 rest_1 Pre_1
      (fun tb e a s o t => postC L tb e a s o t ∧ Framed s o t (fieldLocs frame_1_writes a s ++ arrayLocs frame_1_arrays a s ++ staticLocs frame_1_statics s) 625101 7226164) := by
  intro l hflags _ _ p e ha hc hk s m args below hf hfit hheap happ hpre
  obtain ⟨k, o, h1, h2, h3, rfl, hF⟩ := lw_comes l hflags p e ha hc hk s m args below hf hfit hheap happ hpre
  exact ⟨k, _, h1, h2, h3, hL args s _, lw_frame hF⟩
theorem i_vc : Claimed_1_1 ∧ Claimed_1_2 := ⟨lw_limb limb_1_1 (fun args s t => by simp [limb_1_1, Cond.after, Cond.holds, Cond.value]), lw_limb limb_1_2 (fun args s t => Cond.after_iff.mpr (by
  first | (rw [show limb_1_2 = Cond.eq .result (.int 1) from rfl, Cond.eq_ints (x := 1) (y := 1) rfl rfl]; simp; done) | (simp [limb_1_2, Cond.value, Term.eval]; done)))⟩
end
