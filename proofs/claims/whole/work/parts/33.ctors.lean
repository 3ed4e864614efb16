/-! the two constructors -/
def gP0 : Nat → Int32 := fun j => if 1 ≤ j ∧ j ≤ 100 then 8 else -1
theorem i0_Ginit : ∀ w ∈ u_ws RX0 TX0 4, w ∈ wsX1_init := by decide +kernel
theorem i1_Ginit : ∀ w ∈ u_ws RX1 TX1 3, w ∈ wsX1_init := by decide +kernel
theorem gEv0 : gEv gP0 100 := by
  refine ⟨Nat.le_refl _, by omega, fun j hj => ?_, fun j h1 h2 => ?_⟩
  · unfold gP0; rw [if_neg (by omega)]
  · unfold gP0; rw [if_pos ⟨h1, h2⟩]; decide
theorem gM_new {w : va_W} {i m0 ar : Nat} {cI : ClassId} {sv rv tv : Int32} {row row0 : Nat → Int32} (hi : i < w.length) : wM (w ++ [gR ar cI row0]) i w.length m0 ar cI sv rv tv row = w.set i (gM m0 ar sv rv tv) ++ [gR ar cI row] := by
  unfold wM
  rw [List.set_append_left _ _ hi, List.set_append_right _ _ (by rw [List.length_set]; exact Nat.le_refl _), List.length_set, Nat.sub_self]
  rfl
theorem gM_new2 {w : va_W} {i m0 ar : Nat} {cI : ClassId} {sv rv tv : Int32} {row : Nat → Int32} (hi : i < w.length) : (w ++ [gR ar cI row]).set i (gM m0 ar sv rv tv) = wM (w ++ [gR ar cI row]) i w.length m0 ar cI sv rv tv row := by
  rw [gM_new hi, List.set_append_left _ _ hi]
set_option maxHeartbeats 4000000 in
set_option maxRecDepth 100000 in
/-- NumberGoblets() -/
theorem c_Ginit (l : Launch) (D : va_G) (tys : List (ClassId × FieldType)) (X : va_W) (S : gS) (sz : Nat) {i h0 : Nat} (hX : X[i]? = some (h0, .inr (1, [.null, .int 0, .int 0]))) : Met l yX1_init wsX1_init ({ frames := 2, cells := 2, slots := 8, locals := 36 } : Room) (gP D tys [.ref h0] (X ++ va_pl [] (gE S)) sz gN) (va_Qv (fun u : Nat × List Nat × gS => gCh gP0 u.1 u.2) (fun u t => gWd D tys (va_A (X ++ va_pl [] (gE S)) sz) (X.set i (gO h0 u.1 (nI 100) 1) ++ va_pl u.2.1 (gE u.2.2)) t) (va_A (X ++ va_pl [] (gE S)) sz)) 2 8 (va_A (X ++ va_pl [] (gE S)) sz) := by
  refine g_ofW (cc := cX1_init) (maxL := 2) (ret := none) (by decide) rfl (Nat.le_of_ble_eq_true rfl) ?_
  intro p e s m below meth c hx hb hr hml hts hown hlocks hin hsz hP hK hD hA hS hG ls hl
  subst hsz
  have hown : s.vm.findClass RX1 = some m.cls := hown
  have hin : meth.name = "<init>" := hin
  have hl : lv_has ls 2 [(0, .ref h0)] := hl
  obtain ⟨-, nm_init, -⟩ := id hG
  refine lv_aload_n hx hb dX1_init_0 rfl (lv_at hl 0 rfl) ?_
  refine W.objInit hx hb hown (hts (.methodLink RX1 1 objectInit) (by decide +kernel)) (hts (.instanceMethod objectInit) (by decide +kernel)) (hts (.code objectInit ⟨#[0xb1]⟩ 1 none) (by decide +kernel)) rfl (by rw [hml]; exact hl.1) rfl dX1_init_1 (Nat.le_of_ble_eq_true rfl) (Nat.le_of_ble_eq_true rfl) ?_
  refine W.eq (g2 := F0 m 4 ls []) rfl ?_
  refine va_new (ci := 0) (fs := [.int 0, .int 0, .int 0, .null]) (C := RX0) (T := TX0) (N := 4) hx hb hts i0_Ginit tyX0 tyX0_ok hown (hts (.classLink RX1 7 RX0) (by decide +kernel)) (hts (.instantiable RX0 4) (by decide +kernel)) (hts (.initialized RX0) (by decide +kernel)) hK hP hD hS hA rfl (fun j hj => by rcases (show j = 0 ∨ j = 1 ∨ j = 2 ∨ j = 3 by omega) with rfl | rfl | rfl | rfl <;> rfl) (Nat.le_of_ble_eq_true rfl) (Nat.le_of_ble_eq_true rfl) dX1_init_4 (fun q1 H hP hD hS => ?_)
  have hq1 : q1 ∉ [] := g_fresh hD
  rw [gE_new hq1] at hP hD
  refine lv_dup hx hb dX1_init_7 rfl ?_
  refine lv_bipush (v := 101) hx hb dX1_init_8 (by decide) ?_
  refine lv_sipush (v := 5000) hx hb dX1_init_10 (by decide) ?_
  refine lv_iconst (v := -1) hx hb dX1_init_13 (by decide) ?_
  refine lv_null hx hb dX1_init_14 ?_
  refine g_callv (va_runIN (b := q1) (As := [.int 101, .int 5000, .int (-1), .null]) (rest := [.ref q1]) ⟨hx, hb, hml, hown, hts⟩ (c_Sinit l D tys X ([] ++ [q1]) (va_up S q1 (0, 0, 0, none)) H.size (List.mem_append_right _ (List.mem_singleton.mpr rfl)) (va_up_self _ _ _) 101 5000 (-1) none) ⟨va_cnB 4 hts gX1_init_X0_init_n11 rfl rfl rfl nm_init (hts (.initialized RX0) (by decide +kernel)) (by decide +kernel) ⟨Nat.le_of_ble_eq_true rfl, Nat.le_of_ble_eq_true rfl⟩, rfl, hts (.instanceMethod yX0_init) (by decide +kernel)⟩ (gP_S hP hK hD gBl_T (fun _ _ _ => trivial)) rfl rfl hl.1 rfl (lv_room (Nat.le_of_ble_eq_true rfl)) dX1_init_15 ⟨Nat.le_of_ble_eq_true rfl, Nat.le_of_ble_eq_true rfl⟩) hD hS hA (fun u H locs _ hP hD hS => ?_)
  rw [bx_uu] at hP hD
  refine lv_astore_n (lv' := [(1, .ref q1), (0, .ref h0)]) hx hb dX1_init_18 rfl hl (by decide) rfl (fun ls hl => ?_)
  refine lv_aload_n hx hb dX1_init_19 rfl (lv_at hl 1 rfl) ?_
  refine va_new (ci := 0) (fs := [.int 0, .int 0, .int 0, .null]) (C := RX0) (T := TX0) (N := 4) hx hb hts i0_Ginit tyX0 tyX0_ok hown (hts (.classLink RX1 7 RX0) (by decide +kernel)) (hts (.instantiable RX0 4) (by decide +kernel)) (hts (.initialized RX0) (by decide +kernel)) hK hP hD hS hA rfl (fun j hj => by rcases (show j = 0 ∨ j = 1 ∨ j = 2 ∨ j = 3 by omega) with rfl | rfl | rfl | rfl <;> rfl) (Nat.le_of_ble_eq_true rfl) (Nat.le_of_ble_eq_true rfl) dX1_init_20 (fun q2 H hP hD hS => ?_)
  have hq2 : q2 ∉ ([] ++ [q1]) := g_fresh hD
  rw [gE_new hq2] at hP hD
  refine lv_dup hx hb dX1_init_23 rfl ?_
  refine lv_iconst (v := 1) hx hb dX1_init_24 (by decide) ?_
  refine lv_bipush (v := 100) hx hb dX1_init_25 (by decide) ?_
  refine lv_bipush (v := 8) hx hb dX1_init_27 (by decide) ?_
  refine lv_aload_n hx hb dX1_init_29 rfl (lv_at hl 0 rfl) ?_
  refine g_callv (va_runIN (b := q2) (As := [.int 1, .int 100, .int 8, .ref q1]) (rest := [.ref q2, .ref h0]) ⟨hx, hb, hml, hown, hts⟩ (c_Sinit l D tys X (([] ++ [q1]) ++ [q2]) (va_up (va_up S q1 (101, 5000, -1, none)) q2 (0, 0, 0, none)) H.size (List.mem_append_right _ (List.mem_singleton.mpr rfl)) (va_up_self _ _ _) 1 100 8 (some q1)) ⟨va_cnB 4 hts gX1_init_X0_init_n11 rfl rfl rfl nm_init (hts (.initialized RX0) (by decide +kernel)) (by decide +kernel) ⟨Nat.le_of_ble_eq_true rfl, Nat.le_of_ble_eq_true rfl⟩, rfl, hts (.instanceMethod yX0_init) (by decide +kernel)⟩ (gP_S hP hK hD gBl_T (fun _ _ _ => trivial)) rfl rfl hl.1 rfl (lv_room (Nat.le_of_ble_eq_true rfl)) dX1_init_30 ⟨Nat.le_of_ble_eq_true rfl, Nat.le_of_ble_eq_true rfl⟩) hD hS hA (fun u H locs _ hP hD hS => ?_)
  rw [bx_uu] at hP hD
  obtain ⟨L2, hL2⟩ : ∃ z, z = (([] ++ [q1]) ++ [q2]) := ⟨_, rfl⟩
  obtain ⟨S2, hS2⟩ : ∃ z, z = (va_up (va_up S q1 (101, 5000, -1, none)) q2 (1, 100, 8, some q1)) := ⟨_, rfl⟩
  rw [← hL2, ← hS2] at hP hD
  refine va_putF (D := D) (ci := 1) (v := .ref q2) (ty := .object "NumberGoblets$Stretch") (C := RX1) (T := TX1) (N := 3) hx hb hts i1_Ginit tyX1 tyX1_ok nmX1 hown hK hP hD hS i (g_inX hX) rfl 0 (by decide) (hts (.fieldLink RX1 14 "NumberGoblets" "lowest" "LNumberGoblets$Stretch;") (by decide +kernel)) (fun _ h9 => h9) rfl hin rfl (by decide +kernel) rfl rfl (Nat.le_of_ble_eq_true rfl) dX1_init_33 (fun H locs hP2 hD2 hS => ?_)
  have hw := g_setX (Y := va_pl L2 (gE S2)) (v := ((h0, .inr (1, [.ref q2, .int 0, .int 0])) : Nat × va_E)) hX
  have hP := g_eqP hw hP2
  have hD := g_eqD hw hD2
  have hX := g_setX2 (v := ((h0, .inr (1, [.ref q2, .int 0, .int 0])) : Nat × va_E)) hX
  refine lv_aload_n hx hb dX1_init_36 rfl (lv_at hl 1 rfl) ?_
  refine lv_bipush (v := 100) hx hb dX1_init_37 (by decide) ?_
  refine va_put (D := D) (ci := 1) (v := .int 100) (ty := .int) (C := RX1) (T := TX1) (N := 3) hx hb hts i1_Ginit tyX1 tyX1_ok nmX1 hown hK hP hD hS i (g_inX hX) rfl 1 (by decide) (hts (.fieldLink RX1 18 "NumberGoblets" "size" "I") (by decide +kernel)) (fun _ h9 => h9) rfl (by decide +kernel) rfl rfl (Nat.le_of_ble_eq_true rfl) dX1_init_39 (fun H locs hP2 hD2 hS => ?_)
  have hw := g_setX (Y := va_pl L2 (gE S2)) (v := ((h0, .inr (1, [.ref q2, .int 100, .int 0])) : Nat × va_E)) hX
  have hP := g_eqP hw hP2
  have hD := g_eqD hw hD2
  have hX := g_setX2 (v := ((h0, .inr (1, [.ref q2, .int 100, .int 0])) : Nat × va_E)) hX
  rw [List.set_set] at hX hP hD
  refine lv_aload_n hx hb dX1_init_42 rfl (lv_at hl 1 rfl) ?_
  refine lv_iconst (v := 1) hx hb dX1_init_43 (by decide) ?_
  refine va_put (D := D) (ci := 1) (v := .int 1) (ty := .int) (C := RX1) (T := TX1) (N := 3) hx hb hts i1_Ginit tyX1 tyX1_ok nmX1 hown hK hP hD hS i (g_inX hX) rfl 2 (by decide) (hts (.fieldLink RX1 22 "NumberGoblets" "round" "I") (by decide +kernel)) (fun _ h9 => h9) rfl (by decide +kernel) rfl rfl (Nat.le_of_ble_eq_true rfl) dX1_init_44 (fun H locs hP2 hD2 hS => ?_)
  have hw := g_setX (Y := va_pl L2 (gE S2)) (v := ((h0, .inr (1, [.ref q2, .int 100, .int 1])) : Nat × va_E)) hX
  have hP := g_eqP hw hP2
  have hD := g_eqD hw hD2
  have hX := g_setX2 (v := ((h0, .inr (1, [.ref q2, .int 100, .int 1])) : Nat × va_E)) hX
  rw [List.set_set] at hX hP hD
  have hne : q1 ≠ q2 := fun z => hq2 (by rw [← z]; exact List.mem_append_right _ (List.mem_singleton.mpr rfl))
  have hm1 : q1 ∈ L2 := by rw [hL2]; exact List.mem_append_left _ (List.mem_append_right _ (List.mem_singleton.mpr rfl))
  have hm2 : q2 ∈ L2 := by rw [hL2]; exact List.mem_append_right _ (List.mem_singleton.mpr rfl)
  have hs2 : S2 q2 = (1, 100, 8, some q1) := by rw [hS2, va_up_self]
  have hs1 : S2 q1 = (101, 5000, -1, none) := by rw [hS2, va_up_ne _ _ hne, va_up_self]
  have hC : gCh gP0 q2 (L2, S2) := by
    refine ⟨[(1, 100, 8), (101, 5000, -1)], ⟨q2, some q1, rfl, hm2, hs2, q1, none, rfl, hm1, hs1, rfl⟩, ⟨rfl, by show 1 ≤ 100; omega, by show 100 ≤ 5000; omega, fun j h1 h2 => ?_, rfl, by show 101 ≤ 5000; omega, Nat.le_refl _, fun j h1 h2 => ?_, rfl⟩, Or.inl rfl, Or.inr ?_, trivial⟩
    · have h2 : j ≤ 100 := h2
      show gP0 j = 8; unfold gP0; rw [if_pos ⟨h1, h2⟩]
    · have h1 : 101 ≤ j := h1
      show gP0 j = -1; unfold gP0; rw [if_neg (by omega)]
    · show ¬ gP0 100 = -1; decide
  exact g_retv (wo := fun u : Nat × List Nat × gS => X.set i (gO h0 u.1 (nI 100) 1) ++ va_pl u.2.1 (gE u.2.2)) hx hb hr hlocks hK (q2, L2, S2) hP hD hS (Nat.le_of_ble_eq_true rfl) (Nat.le_of_ble_eq_true rfl) hC dX1_init_47
set_option maxHeartbeats 4000000 in
set_option maxRecDepth 100000 in
set_option maxHeartbeats 4000000 in
set_option maxRecDepth 100000 in
/-- init: its loop -/
theorem minit_loop {p : Program} {l : Launch} {e : Env} {s : State} {m : MethodId} {args : Array Value} {below : List Frame} {meth : Method} {c : Code} {Q : State → Prop} {D : va_G} {tys : List (ClassId × FieldType)} {cI : ClassId} {t : Nat} (ht : tys[t]? = some (cI, .int)) {w w0 : va_W} {i j : Nat} (hi : i < w.length) (hj : j < w.length) (hij : i ≠ j) {m0 ar : Nat} {rv tv : Int32} {row0 : Nat → Int32} {P : Nat → Int32} {n : Nat} (hn : n ≤ 5000)  (hx : p.tables.exec = Jvm.exec) (hb : c.code = cX2_init) (hml : c.maxLocals = 2) (hts : ∀ w ∈ wsX2_init, w.before args s = true) (hown : s.vm.findClass RX2 = some m.cls) (hK : va_K D vwCl tys s) (hA : ∀ q : Nat, s.heap.size ≤ q → va_A w0 s.heap.size q) :
    ∀ (f k : Nat) (row : Nat → Int32) (H : Heap) (locs : List Loc) (ls : Array Slot), n + 1 - k < f → 1 ≤ k → k ≤ n + 1 → (∀ q, 1 ≤ q → q < k → row q = 8) → va_P D vwCl (wM w i j m0 ar cI (nI n) rv tv row) H → va_D (va_A w0 s.heap.size) (wM w i j m0 ar cI (nI n) rv tv row) → va_S (va_A w0 s.heap.size) s.heap H locs → lv_has ls 2 [(0, .ref m0), (1, .int (nI k))] →
    (∀ (row : Nat → Int32) (H : Heap) (locs : List Loc) (ls : Array Slot), (∀ q, 1 ≤ q → q ≤ n → row q = 8) → va_P D vwCl (wM w i j m0 ar cI (nI n) rv tv row) H → va_D (va_A w0 s.heap.size) (wM w i j m0 ar cI (nI n) rv tv row) → va_S (va_A w0 s.heap.size) s.heap H locs → lv_has ls 2 [(0, .ref m0)] → W p l e ({ frames := 1, cells := 1, slots := 5002, locals := 12 } : Room) s m args below meth c H locs 1 5002 Q (F0 m 48 ls [])) →
    W p l e ({ frames := 1, cells := 1, slots := 5002, locals := 12 } : Room) s m args below meth c H locs 1 5002 Q (F0 m 26 ls []) := by
  have f_place := hts (.fieldLink RX2 7 "NumberGobletsModel" "place" "[I") (by decide +kernel)
  have f_size := hts (.fieldLink RX2 13 "NumberGobletsModel" "size" "I") (by decide +kernel)
  intro f
  induction f with
  | zero => intro k row H locs ls hf; exact absurd hf (Nat.not_lt_zero _)
  | succ f ih =>
    intro k row H locs ls hf hk1 hk2 hlo hP hD hS hl hend
    refine lv_iload_n hx hb dX2_init_26 rfl (lv_at hl 1 rfl) ?_
    refine lv_aload_n hx hb dX2_init_27 rfl (lv_at hl 0 rfl) ?_
    refine va_get (D := D) (ci := 2) (v := .int (nI n)) (C := RX2) (T := TX2) (N := 4) hx hb hts i2_init hown hK hP i (gM_i hi hij) rfl 1 (by decide) f_size (fun _ h9 => h9) rfl dX2_init_28 ?_
    refine lv_icmp_gt (tgt := 48) hx hb dX2_init_31 (by decide) (fun c1 => ?_) (fun c1 => ?_)
    · have hkn : n < k := (nI_ltI (by omega) (by omega)).mp c1
      exact hend row H locs ls (fun q h1 h2 => hlo q h1 (by omega)) hP hD hS (lv_sub hl [0] rfl)
    · have hkn : k ≤ n := Nat.le_of_not_lt (fun z => c1 (nI_lt z (by omega)))
      refine lv_aload_n hx hb dX2_init_34 rfl (lv_at hl 0 rfl) ?_
      refine va_get (D := D) (ci := 2) (v := .ref ar) (C := RX2) (T := TX2) (N := 4) hx hb hts i2_init hown hK hP i (gM_i hi hij) rfl 0 (by decide) f_place (fun _ h9 => h9) rfl dX2_init_35 ?_
      refine lv_iload_n hx hb dX2_init_38 rfl (lv_at hl 1 rfl) ?_
      refine lv_bipush (v := 8) hx hb dX2_init_39 (by decide) ?_
      refine va_iast hx hb hK hP hD hS j t (gM_j hj) ht (vp_in_nI (n := k) (by omega) (by omega)) dX2_init_41 (fun H locs hP2 hD2 hS => ?_)
      rw [nI_clamp (by omega)] at hP2 hD2
      have hw := gM_sj (w := w) (i := i) (j := j) (m0 := m0) (ar := ar) (cI := cI) (sv := (nI n)) (rv := rv) (tv := tv) (row := row) (upd row k 8)
      have hP := g_eqP hw hP2
      have hD := g_eqD hw hD2
      refine lv_iinc (v := nI (k + 1)) (lv' := [(1, .int (nI (k + 1))), (0, .ref m0)]) hx hb dX2_init_42 hl (k := 1) rfl (by rw [← nI_1]; rfl) (by decide) rfl (fun ls hl => ?_)
      refine lv_goto (tgt := 26) hx hb dX2_init_45 (by decide) ?_
      refine ih (k + 1) (upd row k 8) H locs ls (by omega) (by omega) (by omega) (fun q h1 h2 => ?_) hP hD hS (lv_sub hl [1, 0] rfl) hend
      by_cases z : q = k
      · subst z; rw [pk_us]
      · rw [pk_un z]; exact hlo q h1 (by omega)
set_option maxHeartbeats 4000000 in
set_option maxRecDepth 100000 in
/-- NumberGobletsModel() -/
theorem m_init (l : Launch) (D : va_G) (tys : List (ClassId × FieldType)) {w : va_W} {i m0 : Nat} (hi : i < w.length) (hw0 : w[i]? = some (m0, .inr (2, [.null, .int 0, .int 0, .int 0]))) (sz : Nat) : Met l yX2_init wsX2_init ({ frames := 1, cells := 1, slots := 5002, locals := 12 } : Room) (gP D tys [.ref m0] w sz (fun _ => True)) (va_Qv (fun u : Nat × ClassId × (Nat → Int32) => gRow gP0 100 u.2.2) (fun u t => gWd D (tys ++ [(u.2.1, .int)]) (va_A w sz) (w.set i (gM m0 u.1 (nI 100) 1 0) ++ [gR u.1 u.2.1 u.2.2]) t) (va_A w sz)) 1 5002 (va_A w sz) := by
  refine g_ofW (cc := cX2_init) (maxL := 2) (ret := none) (by decide) rfl (Nat.le_of_ble_eq_true rfl) ?_
  intro p e s m below meth c hx hb hr hml hts hown hlocks hin hsz hP hK hD hA hS hG ls hl
  subst hsz
  have hown : s.vm.findClass RX2 = some m.cls := hown
  have hin : meth.name = "<init>" := hin
  have hl : lv_has ls 2 [(0, .ref m0)] := hl
  have f_place := hts (.fieldLink RX2 7 "NumberGobletsModel" "place" "[I") (by decide +kernel)
  have f_size := hts (.fieldLink RX2 13 "NumberGobletsModel" "size" "I") (by decide +kernel)
  have f_round := hts (.fieldLink RX2 17 "NumberGobletsModel" "round" "I") (by decide +kernel)
  refine lv_aload_n hx hb dX2_init_0 rfl (lv_at hl 0 rfl) ?_
  refine W.objInit hx hb hown (hts (.methodLink RX2 1 objectInit) (by decide +kernel)) (hts (.instanceMethod objectInit) (by decide +kernel)) (hts (.code objectInit ⟨#[0xb1]⟩ 1 none) (by decide +kernel)) rfl (by rw [hml]; exact hl.1) rfl dX2_init_1 (Nat.le_of_ble_eq_true rfl) (Nat.le_of_ble_eq_true rfl) ?_
  refine W.eq (g2 := F0 m 4 ls []) rfl ?_
  refine lv_aload_n hx hb dX2_init_4 rfl (lv_at hl 0 rfl) ?_
  refine lv_sipush (v := 5002) hx hb dX2_init_5 (by decide) ?_
  refine va_newa (atype := .int) (ty := .int) (N' := 5002) (a0 := (5002, .inl (fun _ => 0))) hx hb (hts (.arrayClass .int) (by decide +kernel)) rfl hK hP hD hS hA (fun cA => rfl) (by decide) rfl (Nat.le_of_ble_eq_true rfl) (Nat.le_of_ble_eq_true rfl) (Nat.le_of_ble_eq_true rfl) dX2_init_8 (fun ar cI H hK hP hD hS => ?_)
  refine W.widen (k := 1) (n := 5002) (Nat.le_of_ble_eq_true rfl) (Nat.le_of_ble_eq_true rfl) ?_
  have hwi : (w ++ [gR ar cI (fun _ => 0)])[i]? = some (m0, .inr (2, [.null, .int 0, .int 0, .int 0])) := g_inX hw0
  refine va_putF (D := D) (ci := 2) (v := .ref ar) (ty := .array .int) (C := RX2) (T := TX2) (N := 4) hx hb hts i2_init tyX2 tyX2_ok nmX2 hown hK hP hD hS i hwi rfl 0 (by decide) f_place (fun _ h9 => h9) rfl hin rfl (by decide +kernel) rfl rfl (Nat.le_of_ble_eq_true rfl) dX2_init_10 (fun H locs hP2 hD2 hS => ?_)
  have hw := gM_new2 (w := w) (i := i) (m0 := m0) (ar := ar) (cI := cI) (sv := 0) (rv := 0) (tv := 0) (row := fun _ => 0) hi
  have hP := g_eqP hw hP2
  have hD := g_eqD hw hD2
  have hi2 : i < (w ++ [gR ar cI (fun _ => 0)]).length := by rw [List.length_append]; omega
  have hj2 : w.length < (w ++ [gR ar cI (fun _ => 0)]).length := by rw [List.length_append]; exact Nat.lt_succ_self _
  have hij2 : i ≠ w.length := Nat.ne_of_lt hi
  have ht : (tys ++ [(cI, FieldType.int)])[tys.length]? = some (cI, .int) := List.getElem?_concat_length
  obtain ⟨w1, hw1⟩ : ∃ z, z = w ++ [gR ar cI (fun _ => 0)] := ⟨_, rfl⟩
  obtain ⟨j, hj0⟩ : ∃ z, z = w.length := ⟨_, rfl⟩
  rw [← hw1, ← hj0] at hP hD
  rw [← hw1] at hi2 hj2
  rw [← hj0] at hj2 hij2
  refine lv_aload_n hx hb dX2_init_13 rfl (lv_at hl 0 rfl) ?_
  refine lv_bipush (v := 100) hx hb dX2_init_14 (by decide) ?_
  have hw := gM_si (w := w1) (i := i) (j := j) (m0 := m0) (ar := ar) (cI := cI) (sv := 0) (rv := 0) (tv := 0) (row := (fun _ => 0)) hij2 (nI 100) 0 0
  refine va_put (D := D) (ci := 2) (v := .int 100) (ty := .int) (C := RX2) (T := TX2) (N := 4) hx hb hts i2_init tyX2 tyX2_ok nmX2 hown hK hP hD hS i (gM_i hi2 hij2) rfl 1 (by decide) f_size (fun _ h9 => h9) rfl (by decide +kernel) rfl rfl (Nat.le_of_ble_eq_true rfl) dX2_init_16 (fun H locs hP2 hD2 hS => ?_)
  have hP := g_eqP hw hP2
  have hD := g_eqD hw hD2
  refine lv_aload_n hx hb dX2_init_19 rfl (lv_at hl 0 rfl) ?_
  refine lv_iconst (v := 1) hx hb dX2_init_20 (by decide) ?_
  have hw := gM_si (w := w1) (i := i) (j := j) (m0 := m0) (ar := ar) (cI := cI) (sv := (nI 100)) (rv := 0) (tv := 0) (row := (fun _ => 0)) hij2 (nI 100) 1 0
  refine va_put (D := D) (ci := 2) (v := .int 1) (ty := .int) (C := RX2) (T := TX2) (N := 4) hx hb hts i2_init tyX2 tyX2_ok nmX2 hown hK hP hD hS i (gM_i hi2 hij2) rfl 2 (by decide) f_round (fun _ h9 => h9) rfl (by decide +kernel) rfl rfl (Nat.le_of_ble_eq_true rfl) dX2_init_21 (fun H locs hP2 hD2 hS => ?_)
  have hP := g_eqP hw hP2
  have hD := g_eqD hw hD2
  refine lv_iconst (v := 1) hx hb dX2_init_24 (by decide) ?_
  refine lv_istore_n (lv' := [(1, .int 1), (0, .ref m0)]) hx hb dX2_init_25 rfl hl (by decide) rfl (fun ls hl => ?_)
  refine minit_loop (P := gP0) (n := 100) (row0 := fun _ => 0) (tv := 0) (rv := 1) ht hi2 hj2 hij2 (by omega) hx hb hml hts hown hK hA 102 1 (fun _ => 0) _ _ ls (by omega) (Nat.le_refl _) (by omega) (fun q h1 h2 => absurd h2 (by omega)) hP hD hS (lv_sub hl [1, 0] rfl) (fun row2 H locs ls hr2 hP hD hS hl => ?_)
  rw [hw1, hj0, gM_new hi] at hP hD
  have hrow : gRow gP0 100 row2 := fun q h1 h2 => by rw [hr2 q h1 h2]; unfold gP0; rw [if_pos ⟨h1, h2⟩]
  exact W.vret hx hb hr (fun t ht hW => ⟨⟨(ar, cI, row2), rfl, hrow, by rw [ht]; exact hP, va_K.moved hW.alike hK, hD⟩, hS.F ht⟩) hS.2.2 dX2_init_48 hlocks
