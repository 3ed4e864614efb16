/-! NumberGoblets: throwing -/
abbrev xIAE : String := "java/lang/IllegalArgumentException"
abbrev xISE : String := "java/lang/IllegalStateException"
abbrev xIOB : String := "java/lang/IndexOutOfBoundsException"
abbrev xNM : List String := ["java/lang/RuntimeException", "java/lang/Exception"]
/-- the words of the throws that no list of a method holds -/
def gB : List Cond := [.declares (Bundle.initS "java/lang/RuntimeException"), .declares (Bundle.initS "java/lang/Exception"), .declares (Bundle.initS "java/lang/Throwable"), .castable xIAE xIAE, .castable xISE xISE, .castable xIOB xIOB]
def gSt : List (Nat × String) := [(27, "the size is not above the old one and up to 5000"), (106, "there is no such goblet"), (108, "the count is not 1 to 200"), (52, "the jug is empty"), (55, "the goblet and the jug are empty"), (61, "both goblets are the same"), (71, "the number is not drunk"), (76, "the jug or some goblet is not empty"), (87, "the jug has no such range")]
theorem gB_warm {s U : State} (hW : s.WarmedH U.vm) (h : ∀ w ∈ gB, va_Nw w s) : ∀ w ∈ gB, va_Nw w U := by
  intro w hw
  have h1 := h w hw
  simp only [gB, List.mem_cons, List.not_mem_nil, or_false] at hw
  rcases hw with rfl | rfl | rfl | rfl | rfl | rfl
  · exact va_Nw.warmD hW h1
  · exact va_Nw.warmD hW h1
  · exact va_Nw.warmD hW h1
  · exact va_Nw.warmC hW h1
  · exact va_Nw.warmC hW h1
  · exact va_Nw.warmC hW h1
/-- all that a method of NumberGoblets may need of the start, A: what may be written -/
def gG (A : Nat → Prop) (U : State) : Prop := gN U ∧ (∀ w ∈ gB, va_Nw w U) ∧ (∀ q ∈ gSt, ∃ a, vk_R RX1 q.1 q.2 a U) ∧ vx_Zq Bundle.tN "UNASSIGNED_STACK" Bundle.steD A U U.heap ∧ vx_Zq Bundle.tN "SUPPRESSED_SENTINEL" Bundle.listD A U U.heap
theorem gG.call {A B : Nat → Prop} {s : State} {H : Heap} {locs : List Loc} (h : gG A s) (hS : va_S A s.heap H locs) (hAB : ∀ q, B q → A q) (U : State) (hU : U.heap = H) (hW : s.WarmedH U.vm) : gG B U := by
  obtain ⟨h1, h2, h3, h4, h5⟩ := h
  refine ⟨h1.warm hW, gB_warm hW h2, fun q hq => ?_, ?_, ?_⟩
  · obtain ⟨a, ha⟩ := h3 q hq
    exact ⟨a, vk_R.warm hW ha⟩
  · rw [hU]; exact vx_Zq.moved hW.alike ((h4.kept hS.2.1).narrow hAB)
  · rw [hU]; exact vx_Zq.moved hW.alike ((h5.kept hS.2.1).narrow hAB)
theorem gBl_G {A : Nat → Prop} : gBl (gG A) := fun U g mk a h => gG.call (s := U) (H := U.heap) (locs := []) (U := U.calling g mk a) h va_S.rf (fun _ q => q) rfl (State.WarmedH.refl U)
/-- what a throw leaves -/
def gX {SX : Type} (cond : String → SX → Prop) (wx : SX → va_W) (D : va_G) (tys : List (ClassId × FieldType)) (A : Nat → Prop) : String → State → State → Prop := vx_X (fun _ : SX => True) (fun E u t => cond E u ∧ gWd D tys A (wx u) t) A
section GTHROW
variable {p : Program} {l : Launch} {e : Env} {R : Room} {s : State} {m : MethodId} {args : Array Value} {below : List Frame} {meth : Method} {c : Code} {H : Heap} {locs : List Loc} {cells slots : Nat} {Q : State → Prop}
variable {pc : Nat} {ls : Array Slot} {rest st0 : List Value} {a : Array Value} {A : Nat → Prop} {mc ms : Nat} {D : va_G} {tys : List (ClassId × FieldType)} {w : va_W} {cc : ByteArray}
variable {SX : Type} {cond : String → SX → Prop} {wx : SX → va_W} {Qc : Array Value → State → Outcome → State → Prop}
theorem g_throw {Ts : List Cond} {cls text : String} {ik is ic : Nat} (hx : p.tables.exec = Jvm.exec) (hb : c.code = cc) (hl9 : l.stackTraces = false) (hts : ∀ w ∈ Ts, w.before args s = true) (hown : s.vm.findClass RX1 = some m.cls) (hlocks : meth.locks = false) (hK : va_K D vwCl tys s) (hGG : gG A s) (hsize : ls.size = c.maxLocals) (hout : ∀ x ∈ c.exceptionTable.toList, False)
    (hcls : Bundle.fit cls = true) (hk : Cond.classLink RX1 ik cls ∈ Ts) (hini : Cond.initialized cls ∈ Ts) (hst : (is, text) ∈ gSt) (hin : ∀ w ∈ (vx_atS RX1 ic cls xNM).filter goodWord, w ∈ Ts) (hbad : ∀ w ∈ (vx_atS RX1 ic cls xNM).filter (fun w => !goodWord w), w ∈ gB) (hgood : ∀ w ∈ Cond.classLink RX1 ik cls :: Cond.initialized cls :: vx_atS RX1 ic cls xNM, vx_ot w = true)
    (d0 : decode cc pc = .ok (.new ik, 3)) (d3 : decode cc (pc + 3) = .ok (.dup, 1)) (d4 : decode cc (pc + 4) = .ok (.ldc is, 2)) (d6 : decode cc (pc + 6) = .ok (.invokespecial ic, 3)) (d9 : decode cc (pc + 9) = .ok (.athrow, 1))
    (hR : 6 ≤ R.frames ∧ (rest.map fun v => v.category).sum + 82 ≤ R.locals ∧ cells + 1 ≤ R.cells ∧ slots + 6 ≤ R.slots) (hc : cells + 1 ≤ mc) (hs : slots + 6 ≤ ms) (u : SX) (hcond : cond cls u) (hP : va_P D vwCl (wx u) H) (hD : va_D A (wx u)) (hS : va_S A s.heap H locs) :
    W p l e R s m args below meth c H locs cells slots (vx_MQ below Qc (gX cond wx D tys A) args s mc ms A) (F0 m pc ls rest) := by
  obtain ⟨-, h2, h3, h4, h5⟩ := hGG
  obtain ⟨sa, hsa⟩ := h3 _ hst
  refine vx_throwS hx hb hl9 hown hcls (by decide +kernel) (hts _ hk) (hts _ hini) hsa (vx_hat (B := gB) (fun w hw => hts w (hin w hw)) hbad (fun w hw => va_Nw.use ?_ (h2 w hw))) hgood h4 h5 hS hsize d0 d3 d4 d6 d9 (fun x hx => (hout x hx).elim) (by show 2 + 3 < R.frames; omega) (by show _ + (13 * (2 + 1) + 43) ≤ R.locals; omega) hR.2.2.1 hR.2.2.2 hlocks ?_ hS.2.2 hc hs
  · revert w hw; decide +kernel
  · intro t hal hz hq
    exact ⟨u, trivial, ⟨hcond, hP.kept (fun k q hk => hq q.1 ((hP k q hk).lt)), va_K.moved hal hK, hD⟩, Nat.le_trans hS.1 hz, fun q h1 h2 => (hq q (Nat.lt_of_lt_of_le h1 hS.1)).trans (hS.2.1 q h1 h2)⟩
/-- uncaught: on to the caller -/
theorem g_out {E : String} {ce : Cell} {q : Addr} (hout : ∀ x ∈ c.exceptionTable.toList, False) (hlocks : meth.locks = false) (hK : va_K D vwCl tys s) (hcell : H[q]? = some ce) (hv : ce.vm = .none) (hcl : s.vm.findClass E = some ce.cls) (hc : cells ≤ mc) (hs : slots ≤ ms) (u : SX) (hcond : cond E u) (hP : va_P D vwCl (wx u) H) (hD : va_D A (wx u)) (hS : va_S A s.heap H locs) :
    vx_W p l e R s m args below meth c H locs cells slots (vx_MQ below Qc (gX cond wx D tys A) args s mc ms A) (F0 m pc ls rest) q :=
  vx_out (fun x hx => (hout x hx).elim) hlocks hcell hv hcl (fun t ht hal => ⟨u, trivial, ⟨hcond, by rw [ht]; exact hP, va_K.moved hal hK, hD⟩, hS.F ht⟩) hS.2.2 hc hs
variable {H0 : Heap}
theorem g_xcalli {S : Type} {post : Int32 → S → Prop} {wo : S → va_W} (hr : vx_Run p l e R s m args below meth c H locs cells slots mc ms (F0 m pc ls st0) rest (va_Qi post (fun u t => gWd D tys (va_A w H.size) (wo u) t) (va_A w H.size) a) (gX cond wx D tys (va_A w H.size)) (va_A w H.size)) (hD : va_D A w) (hS : va_S A H0 H locs) (hA : ∀ q, H0.size ≤ q → A q)
    (kx : ∀ (E : String) (ce : Cell) (q9 : Addr) (u : SX) (H1 : Heap) (locs1 : List Loc), cond E u → va_P D vwCl (wx u) H1 → va_D A (wx u) → va_S A H0 H1 locs1 → H1[q9]? = some ce → ce.vm = .none → s.vm.findClass E = some ce.cls → vx_W p l e R s m args below meth c H1 locs1 (cells + mc) (slots + ms) Q (F0 m pc ls rest) q9)
    (kk : ∀ (r : Int32) (u : S) (H1 : Heap) (locs1 : List Loc), post r u → va_P D vwCl (wo u) H1 → va_D A (wo u) → va_S A H0 H1 locs1 → W p l e R s m args below meth c H1 locs1 (cells + mc) (slots + ms) Q (F0 m (pc + 3) ls (.int r :: rest))) : W p l e R s m args below meth c H locs cells slots Q (F0 m pc ls st0) :=
  vx_calli hr hS (fun q _ h => gA_sub hD hS hA q h) (gA_sub hD hS hA) (fun q _ h => gA_sub hD hS hA q h)
    (fun E ce q9 u t H1 locs1 ht _ _ hB _ _ hS1 h1 h2 h3 => kx E ce q9 u H1 locs1 hB.1 (by rw [← ht]; exact hB.2.1) (hB.2.2.2.weaken (fun _ q _ h => gA_sub hD hS hA q.1 h)) hS1 h1 h2 h3)
    (fun r u t H1 locs1 ht _ hp hB _ _ hS1 => kk r u H1 locs1 hp (by rw [← ht]; exact hB.1) (hB.2.2.weaken (fun _ q _ h => gA_sub hD hS hA q.1 h)) hS1)
theorem g_xcallv {S : Type} {post : S → Prop} {wo : S → va_W} (hr : vx_Run p l e R s m args below meth c H locs cells slots mc ms (F0 m pc ls st0) rest (va_Qv post (fun u t => gWd D tys (va_A w H.size) (wo u) t) (va_A w H.size) a) (gX cond wx D tys (va_A w H.size)) (va_A w H.size)) (hD : va_D A w) (hS : va_S A H0 H locs) (hA : ∀ q, H0.size ≤ q → A q)
    (kx : ∀ (E : String) (ce : Cell) (q9 : Addr) (u : SX) (H1 : Heap) (locs1 : List Loc), cond E u → va_P D vwCl (wx u) H1 → va_D A (wx u) → va_S A H0 H1 locs1 → H1[q9]? = some ce → ce.vm = .none → s.vm.findClass E = some ce.cls → vx_W p l e R s m args below meth c H1 locs1 (cells + mc) (slots + ms) Q (F0 m pc ls rest) q9)
    (kk : ∀ (u : S) (H1 : Heap) (locs1 : List Loc), post u → va_P D vwCl (wo u) H1 → va_D A (wo u) → va_S A H0 H1 locs1 → W p l e R s m args below meth c H1 locs1 (cells + mc) (slots + ms) Q (F0 m (pc + 3) ls rest)) : W p l e R s m args below meth c H locs cells slots Q (F0 m pc ls st0) :=
  vx_callv hr hS (fun q _ h => gA_sub hD hS hA q h) (gA_sub hD hS hA) (fun q _ h => gA_sub hD hS hA q h)
    (fun E ce q9 u t H1 locs1 ht _ _ hB _ _ hS1 h1 h2 h3 => kx E ce q9 u H1 locs1 hB.1 (by rw [← ht]; exact hB.2.1) (hB.2.2.2.weaken (fun _ q _ h => gA_sub hD hS hA q.1 h)) hS1 h1 h2 h3)
    (fun u t H1 locs1 ht _ hp hB _ _ hS1 => kk u H1 locs1 hp (by rw [← ht]; exact hB.1) (hB.2.2.weaken (fun _ q _ h => gA_sub hD hS hA q.1 h)) hS1)
end GTHROW
/-- a contract of a method that may throw, out of a walk of its body -/
theorem g_ofX {l : Launch} {y : MethodName} {ws ws' : List Cond} {rm : Room} {D : va_G} {tys : List (ClassId × FieldType)} {av : List Value} {w : va_W} {sz : Nat} {G : State → Prop} {Qc : Array Value → State → Outcome → State → Prop} {XC : String → State → State → Prop} {mc ms : Nat} {cc : ByteArray} {maxL : Nat} {ret : Option FieldType}
    (hy : plainName y.cls = true) (hw : ws = Cond.code y cc maxL ret :: ws') (hn : (lg_sl av).length ≤ maxL)
    (body : ∀ (p : Program) (e : Env) (s : State) (m : MethodId) (below : List Frame) (meth : Method) (c : Code), p.tables.exec = Jvm.exec → c.code = cc → meth.sig.returnType = ret → c.maxLocals = maxL → (∀ w ∈ ws, w.before av.toArray s = true) → s.vm.findClass y.cls = some m.cls → meth.locks = false → (∀ x ∈ c.exceptionTable.toList, False) → s.heap.size = sz → va_P D vwCl w s.heap → va_K D vwCl tys s → va_D (va_A w s.heap.size) w → (∀ q : Nat, s.heap.size ≤ q → va_A w s.heap.size q) → va_S (va_A w s.heap.size) s.heap s.heap [] → G s →
      ∀ ls : Array Slot, lv_has ls maxL (lv_args 0 av) → W p l e rm s m av.toArray below meth c s.heap [] 0 0 (vx_MQ below Qc XC av.toArray s mc ms (va_A w sz)) (F0 m 0 ls [])) : vx_Met l y ws rm (gP D tys av w sz G) Qc XC mc ms (va_A w sz) := by
  refine vx_ofW (cc := cc) (maxL := maxL) (ret := ret) hy hw ?_
  intro p e s m args below meth c s₁ B hml ht hv
  obtain ⟨rfl, hsz, ⟨hP, hK, hD0⟩, hG⟩ := hv
  have hl := lv_entry av (n := maxL) hn
  rw [lg_entry_eq]
  exact body p e s m below meth c B.exec B.bytes B.returns hml (atoms_spec (ws := ws) B.pre) (findClass_of_methodNamed B.named) B.notSynchronized ht hsz hP hK hD0.self (fun q h => Or.inr h) va_S.rf hG _ hl
def gGob (v : Int32) : Prop := ∃ j : Nat, j < 8 ∧ v = nI j
def gCnt (v : Int32) : Prop := ∃ j : Nat, 1 ≤ j ∧ j ≤ 200 ∧ v = nI j
theorem xgood_IAE : ∀ w ∈ Cond.classLink RX1 25 xIAE :: Cond.initialized xIAE :: vx_atS RX1 29 xIAE xNM, vx_ot w = true := by decide +kernel
theorem xbad_IAE : ∀ w ∈ (vx_atS RX1 29 xIAE xNM).filter (fun w => !goodWord w), w ∈ gB := by decide +kernel
theorem xgood_ISE : ∀ w ∈ Cond.classLink RX1 50 xISE :: Cond.initialized xISE :: vx_atS RX1 54 xISE xNM, vx_ot w = true := by decide +kernel
theorem xbad_ISE : ∀ w ∈ (vx_atS RX1 54 xISE xNM).filter (fun w => !goodWord w), w ∈ gB := by decide +kernel
theorem xgood_IOB : ∀ w ∈ Cond.classLink RX1 85 xIOB :: Cond.initialized xIOB :: vx_atS RX1 89 xIOB xNM, vx_ot w = true := by decide +kernel
theorem xbad_IOB : ∀ w ∈ (vx_atS RX1 89 xIOB xNM).filter (fun w => !goodWord w), w ∈ gB := by decide +kernel
theorem xin_checkGoblet : ∀ w ∈ (vx_atS RX1 89 xIOB xNM).filter goodWord, w ∈ wsX1_checkGoblet := by decide +kernel
theorem xk_checkGoblet : Cond.classLink RX1 85 xIOB ∈ wsX1_checkGoblet := by decide +kernel
theorem xi_checkGoblet : Cond.initialized xIOB ∈ wsX1_checkGoblet := by decide +kernel
theorem xin_checkCount : ∀ w ∈ (vx_atS RX1 29 xIAE xNM).filter goodWord, w ∈ wsX1_checkCount := by decide +kernel
theorem xk_checkCount : Cond.classLink RX1 25 xIAE ∈ wsX1_checkCount := by decide +kernel
theorem xi_checkCount : Cond.initialized xIAE ∈ wsX1_checkCount := by decide +kernel
theorem xin_enlarge : ∀ w ∈ (vx_atS RX1 29 xIAE xNM).filter goodWord, w ∈ wsX1_enlarge := by decide +kernel
theorem xk_enlarge : Cond.classLink RX1 25 xIAE ∈ wsX1_enlarge := by decide +kernel
theorem xi_enlarge : Cond.initialized xIAE ∈ wsX1_enlarge := by decide +kernel
theorem xin_pour : ∀ w ∈ (vx_atS RX1 54 xISE xNM).filter goodWord, w ∈ wsX1_pour := by decide +kernel
theorem xk_pour : Cond.classLink RX1 50 xISE ∈ wsX1_pour := by decide +kernel
theorem xi_pour : Cond.initialized xISE ∈ wsX1_pour := by decide +kernel
theorem xin_drink : ∀ w ∈ (vx_atS RX1 54 xISE xNM).filter goodWord, w ∈ wsX1_drink := by decide +kernel
theorem xk_drink : Cond.classLink RX1 50 xISE ∈ wsX1_drink := by decide +kernel
theorem xi_drink : Cond.initialized xISE ∈ wsX1_drink := by decide +kernel
theorem xin_share : ∀ w ∈ (vx_atS RX1 29 xIAE xNM).filter goodWord, w ∈ wsX1_share := by decide +kernel
theorem xk_share : Cond.classLink RX1 25 xIAE ∈ wsX1_share := by decide +kernel
theorem xi_share : Cond.initialized xIAE ∈ wsX1_share := by decide +kernel
theorem xin_giveBack : ∀ w ∈ (vx_atS RX1 54 xISE xNM).filter goodWord, w ∈ wsX1_giveBack := by decide +kernel
theorem xk_giveBack : Cond.classLink RX1 50 xISE ∈ wsX1_giveBack := by decide +kernel
theorem xi_giveBack : Cond.initialized xISE ∈ wsX1_giveBack := by decide +kernel
theorem xin_nextRound : ∀ w ∈ (vx_atS RX1 54 xISE xNM).filter goodWord, w ∈ wsX1_nextRound := by decide +kernel
theorem xk_nextRound : Cond.classLink RX1 50 xISE ∈ wsX1_nextRound := by decide +kernel
theorem xi_nextRound : Cond.initialized xISE ∈ wsX1_nextRound := by decide +kernel
theorem xin_rangeFrom : ∀ w ∈ (vx_atS RX1 89 xIOB xNM).filter goodWord, w ∈ wsX1_rangeFrom := by decide +kernel
theorem xk_rangeFrom : Cond.classLink RX1 85 xIOB ∈ wsX1_rangeFrom := by decide +kernel
theorem xi_rangeFrom : Cond.initialized xIOB ∈ wsX1_rangeFrom := by decide +kernel
theorem xin_rangeTo : ∀ w ∈ (vx_atS RX1 89 xIOB xNM).filter goodWord, w ∈ wsX1_rangeTo := by decide +kernel
theorem xk_rangeTo : Cond.classLink RX1 85 xIOB ∈ wsX1_rangeTo := by decide +kernel
theorem xi_rangeTo : Cond.initialized xIOB ∈ wsX1_rangeTo := by decide +kernel
set_option maxHeartbeats 4000000 in
set_option maxRecDepth 100000 in
/-- checkGoblet(goblet) -/
theorem c_chkG (l : Launch) (hl9 : l.stackTraces = false) (D : va_G) (tys : List (ClassId × FieldType)) (w : va_W) (sz : Nat) (v0 : Int32) : vx_Met l yX1_checkGoblet wsX1_checkGoblet ({ frames := 6, cells := 1, slots := 6, locals := 82 } : Room) (gP D tys [.int v0] w sz (gG (va_A w sz))) (va_Qv (fun _ : Unit => gGob v0) (fun _ t => gWd D tys (va_A w sz) w t) (va_A w sz)) (gX (fun E (_ : Unit) => E = xIOB ∧ ¬ gGob v0) (fun _ => w) D tys (va_A w sz)) 1 6 (va_A w sz) := by
  refine g_ofX (cc := cX1_checkGoblet) (maxL := 1) (ret := none) (by decide) rfl (Nat.le_of_ble_eq_true rfl) ?_
  intro p e s m below meth c hx hb hr hml hts hown hlocks hout hsz hP hK hD hA hS hGG ls hl
  subst hsz
  have hown : s.vm.findClass RX1 = some m.cls := hown
  have hl : lv_has ls 1 [(0, .int v0)] := hl
  refine lv_iload_n hx hb dX1_checkGoblet_0 rfl (lv_at hl 0 rfl) ?_
  refine lv_if_lt (tgt := 10) hx hb dX1_checkGoblet_1 (by decide) (fun c1 => ?_) (fun c1 => ?_)
  · have hno : ¬ gGob v0 := fun ⟨j, h1, h2⟩ => by rw [h2] at c1; exact nI_pos (by omega) c1
    exact g_throw (cls := xIOB) (text := "there is no such goblet") (pc := 10) hx hb hl9 hts hown hlocks hK hGG (hl.1.trans hml.symm) hout (by decide +kernel) xk_checkGoblet xi_checkGoblet (by decide +kernel) xin_checkGoblet xbad_IOB xgood_IOB dX1_checkGoblet_10 dX1_checkGoblet_13 dX1_checkGoblet_14 dX1_checkGoblet_16 dX1_checkGoblet_19 ⟨Nat.le_of_ble_eq_true rfl, Nat.le_of_ble_eq_true rfl, Nat.le_of_ble_eq_true rfl, Nat.le_of_ble_eq_true rfl⟩ (Nat.le_of_ble_eq_true rfl) (Nat.le_of_ble_eq_true rfl) () (⟨rfl, hno⟩) hP hD hS
  · obtain ⟨j, hj, rfl⟩ := nI_of c1
    refine lv_iload_n hx hb dX1_checkGoblet_4 rfl (lv_at hl 0 rfl) ?_
    refine lv_bipush (v := 8) hx hb dX1_checkGoblet_5 (by decide) ?_
    refine lv_icmp_lt (tgt := 20) hx hb dX1_checkGoblet_7 (by decide) (fun c2 => ?_) (fun c2 => ?_)
    · have hj8 : j < 8 := (nI_ltI hj (by omega)).mp c2
      exact vx_ret (g_retv hx hb hr hlocks hK () hP hD hS (Nat.zero_le _) (Nat.zero_le _) ⟨j, hj8, rfl⟩ dX1_checkGoblet_20)
    · have hno : ¬ gGob (nI j) := fun ⟨i, h1, h2⟩ => c2 (by rw [h2]; exact (show nI i < nI 8 from nI_lt h1 (by omega)))
      exact g_throw (cls := xIOB) (text := "there is no such goblet") (pc := 10) hx hb hl9 hts hown hlocks hK hGG (hl.1.trans hml.symm) hout (by decide +kernel) xk_checkGoblet xi_checkGoblet (by decide +kernel) xin_checkGoblet xbad_IOB xgood_IOB dX1_checkGoblet_10 dX1_checkGoblet_13 dX1_checkGoblet_14 dX1_checkGoblet_16 dX1_checkGoblet_19 ⟨Nat.le_of_ble_eq_true rfl, Nat.le_of_ble_eq_true rfl, Nat.le_of_ble_eq_true rfl, Nat.le_of_ble_eq_true rfl⟩ (Nat.le_of_ble_eq_true rfl) (Nat.le_of_ble_eq_true rfl) () (⟨rfl, hno⟩) hP hD hS
set_option maxHeartbeats 4000000 in
set_option maxRecDepth 100000 in
/-- checkCount(count) -/
theorem c_chkC (l : Launch) (hl9 : l.stackTraces = false) (D : va_G) (tys : List (ClassId × FieldType)) (w : va_W) (sz : Nat) (v0 : Int32) : vx_Met l yX1_checkCount wsX1_checkCount ({ frames := 6, cells := 1, slots := 6, locals := 82 } : Room) (gP D tys [.int v0] w sz (gG (va_A w sz))) (va_Qv (fun _ : Unit => gCnt v0) (fun _ t => gWd D tys (va_A w sz) w t) (va_A w sz)) (gX (fun E (_ : Unit) => E = xIAE ∧ ¬ gCnt v0) (fun _ => w) D tys (va_A w sz)) 1 6 (va_A w sz) := by
  refine g_ofX (cc := cX1_checkCount) (maxL := 1) (ret := none) (by decide) rfl (Nat.le_of_ble_eq_true rfl) ?_
  intro p e s m below meth c hx hb hr hml hts hown hlocks hout hsz hP hK hD hA hS hGG ls hl
  subst hsz
  have hown : s.vm.findClass RX1 = some m.cls := hown
  have hl : lv_has ls 1 [(0, .int v0)] := hl
  refine lv_iload_n hx hb dX1_checkCount_0 rfl (lv_at hl 0 rfl) ?_
  refine lv_iconst (v := 1) hx hb dX1_checkCount_1 (by decide) ?_
  refine lv_icmp_lt (tgt := 12) hx hb dX1_checkCount_2 (by decide) (fun c1 => ?_) (fun c1 => ?_)
  · have hno : ¬ gCnt v0 := fun ⟨j, h1, h3, h2⟩ => by rw [h2] at c1; exact nI_nlt h1 (by omega) c1
    exact g_throw (cls := xIAE) (text := "the count is not 1 to 200") (pc := 12) hx hb hl9 hts hown hlocks hK hGG (hl.1.trans hml.symm) hout (by decide +kernel) xk_checkCount xi_checkCount (by decide +kernel) xin_checkCount xbad_IAE xgood_IAE dX1_checkCount_12 dX1_checkCount_15 dX1_checkCount_16 dX1_checkCount_18 dX1_checkCount_21 ⟨Nat.le_of_ble_eq_true rfl, Nat.le_of_ble_eq_true rfl, Nat.le_of_ble_eq_true rfl, Nat.le_of_ble_eq_true rfl⟩ (Nat.le_of_ble_eq_true rfl) (Nat.le_of_ble_eq_true rfl) () (⟨rfl, hno⟩) hP hD hS
  · skip
    refine lv_iload_n hx hb dX1_checkCount_5 rfl (lv_at hl 0 rfl) ?_
    refine lv_sipush (v := 200) hx hb dX1_checkCount_6 (by decide) ?_
    refine lv_icmp_le (tgt := 22) hx hb dX1_checkCount_9 (by decide) (fun c2 => ?_) (fun c2 => ?_)
    · have hok : gCnt v0 := by
        have h1 : ¬ v0 < 0 := fun q => c1 (by rw [Int32.lt_iff_toInt_lt] at q ⊢; have z0 : (0 : Int32).toInt = 0 := rfl; have z1 : (1 : Int32).toInt = 1 := rfl; omega)
        obtain ⟨j, hj, rfl⟩ := nI_of h1
        refine ⟨j, ?_, (nI_leI hj (by omega)).mp c2, rfl⟩
        rcases Nat.eq_zero_or_pos j with z | z
        · subst z; exact absurd (show nI 0 < 1 by decide) c1
        · exact z
      exact vx_ret (g_retv hx hb hr hlocks hK () hP hD hS (Nat.zero_le _) (Nat.zero_le _) hok dX1_checkCount_22)
    · have hno : ¬ gCnt v0 := fun ⟨j, h1, h3, h2⟩ => c2 (by rw [h2]; exact (show nI j ≤ nI 200 from nI_le h3 (by omega)))
      exact g_throw (cls := xIAE) (text := "the count is not 1 to 200") (pc := 12) hx hb hl9 hts hown hlocks hK hGG (hl.1.trans hml.symm) hout (by decide +kernel) xk_checkCount xi_checkCount (by decide +kernel) xin_checkCount xbad_IAE xgood_IAE dX1_checkCount_12 dX1_checkCount_15 dX1_checkCount_16 dX1_checkCount_18 dX1_checkCount_21 ⟨Nat.le_of_ble_eq_true rfl, Nat.le_of_ble_eq_true rfl, Nat.le_of_ble_eq_true rfl, Nat.le_of_ble_eq_true rfl⟩ (Nat.le_of_ble_eq_true rfl) (Nat.le_of_ble_eq_true rfl) () (⟨rfl, hno⟩) hP hD hS
