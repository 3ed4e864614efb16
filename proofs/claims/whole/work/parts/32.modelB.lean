/-! NumberGobletsModel (the reference): enlarge, pour, share, rangeFrom, rangeTo, longestRange -/
/-- enlarging, told by the numbers -/
theorem gmv_grow {P : Nat → Int32} {n vn : Nat} (h : gEv P n) (h1 : n < vn) : gmv P (-1) 8 0 (vn - n) = fun j => if n < j ∧ j ≤ vn then 8 else P j := by
  obtain ⟨-, -, ho, hin⟩ := h
  have hc0 : gct P (-1) n = 0 := gct_past (P := P) (p := -1) (k := 1) (m := n) (by omega) (fun j a b => hin j a b)
  have hc : ∀ d : Nat, gct P (-1) (n + d) = d := by
    intro d
    have := gct_run (P := P) (p := -1) (m := n) d (fun j a b => ho j (Or.inr a))
    omega
  funext j
  by_cases hj : n < j
  · have h2 := hc (j - n)
    rw [show n + (j - n) = j by omega] at h2
    by_cases hv : j ≤ vn
    · rw [if_pos ⟨hj, hv⟩]
      exact gmv_in (ho j (Or.inr hj)) (by omega) (by omega)
    · rw [if_neg (fun z => hv z.2)]
      exact gmv_out (Or.inr (Or.inr (by omega)))
  · rw [if_neg (fun z => hj z.1)]
    apply gmv_out
    rcases Nat.eq_zero_or_pos j with z | z
    · subst z; exact Or.inr (Or.inl (Nat.zero_le _))
    · exact Or.inl (hin j z (by omega))
theorem glg_k1 {P : Nat → Int32} {k : Nat} (hk : 1 ≤ k) (h : P k = 8) : glg P k = if (glg P (k - 1)).2.1 < (glg P (k - 1)).2.2 + 1 then (gbg P 8 k, (glg P (k - 1)).2.2 + 1, (glg P (k - 1)).2.2 + 1) else ((glg P (k - 1)).1, (glg P (k - 1)).2.1, (glg P (k - 1)).2.2 + 1) := by
  have := glg_1 (P := P) (n := k - 1) (by rw [show k - 1 + 1 = k by omega]; exact h)
  rwa [show k - 1 + 1 = k by omega] at this
theorem glg_k0 {P : Nat → Int32} {k : Nat} (hk : 1 ≤ k) (h : ¬ P k = 8) : glg P k = ((glg P (k - 1)).1, (glg P (k - 1)).2.1, 0) := by
  have := glg_0 (P := P) (n := k - 1) (by rw [show k - 1 + 1 = k by omega]; exact h)
  rwa [show k - 1 + 1 = k by omega] at this
set_option maxHeartbeats 4000000 in
set_option maxRecDepth 100000 in
/-- enlarge: its loop -/
theorem fill_loop {p : Program} {l : Launch} {e : Env} {s : State} {m : MethodId} {args : Array Value} {below : List Frame} {meth : Method} {c : Code} {Q : State → Prop} {D : va_G} {tys : List (ClassId × FieldType)} {cI : ClassId} {t : Nat} (ht : tys[t]? = some (cI, .int)) {w w0 : va_W} {i j : Nat} (hi : i < w.length) (hj : j < w.length) (hij : i ≠ j) {m0 ar : Nat} {rv tv : Int32} {row0 : Nat → Int32} {P : Nat → Int32} {n : Nat} (hn : n ≤ 5000) {vn : Nat} (hvn : vn ≤ 5000) (hx : p.tables.exec = Jvm.exec) (hb : c.code = cX2_enlarge) (hml : c.maxLocals = 3) (hts : ∀ w ∈ wsX2_enlarge, w.before args s = true) (hown : s.vm.findClass RX2 = some m.cls) (hK : va_K D vwCl tys s) (hA : ∀ q : Nat, s.heap.size ≤ q → va_A w0 s.heap.size q) :
    ∀ (f k : Nat) (row : Nat → Int32) (H : Heap) (locs : List Loc) (ls : Array Slot), vn + 1 - k < f → 1 ≤ k → n < k → k ≤ vn + 1 → (∀ q, 1 ≤ q → q < k → row q = if n < q ∧ q ≤ vn then 8 else P q) → va_P D vwCl (wM w i j m0 ar cI (nI n) rv 0 row) H → va_D (va_A w0 s.heap.size) (wM w i j m0 ar cI (nI n) rv 0 row) → va_S (va_A w0 s.heap.size) s.heap H locs → lv_has ls 3 [(0, .ref m0), (1, .int (nI vn)), (2, .int (nI k))] →
    (∀ (row : Nat → Int32) (H : Heap) (locs : List Loc) (ls : Array Slot), (∀ q, 1 ≤ q → q ≤ vn → row q = if n < q ∧ q ≤ vn then 8 else P q) → va_P D vwCl (wM w i j m0 ar cI (nI n) rv 0 row) H → va_D (va_A w0 s.heap.size) (wM w i j m0 ar cI (nI n) rv 0 row) → va_S (va_A w0 s.heap.size) s.heap H locs → lv_has ls 3 [(0, .ref m0), (1, .int (nI vn))] → W p l e ({ frames := 1, cells := 0, slots := 0, locals := 23 } : Room) s m args below meth c H locs 0 0 Q (F0 m 59 ls [])) →
    W p l e ({ frames := 1, cells := 0, slots := 0, locals := 23 } : Room) s m args below meth c H locs 0 0 Q (F0 m 40 ls []) := by
  have f_place := hts (.fieldLink RX2 7 "NumberGobletsModel" "place" "[I") (by decide +kernel)
  intro f
  induction f with
  | zero => intro k row H locs ls hf; exact absurd hf (Nat.not_lt_zero _)
  | succ f ih =>
    intro k row H locs ls hf hk1 hk2 hk3 hlo hP hD hS hl hend
    refine lv_iload_n hx hb dX2_enlarge_40 rfl (lv_at hl 2 rfl) ?_
    refine lv_iload_n hx hb dX2_enlarge_41 rfl (lv_at hl 1 rfl) ?_
    refine lv_icmp_gt (tgt := 59) hx hb dX2_enlarge_42 (by decide) (fun c1 => ?_) (fun c1 => ?_)
    · have hkn : vn < k := (nI_ltI (by omega) (by omega)).mp c1
      exact hend row H locs ls (fun q h1 h2 => hlo q h1 (by omega)) hP hD hS (lv_sub hl [0, 1] rfl)
    · have hkn : k ≤ vn := Nat.le_of_not_lt (fun z => c1 (nI_lt z (by omega)))
      refine lv_aload_n hx hb dX2_enlarge_45 rfl (lv_at hl 0 rfl) ?_
      refine va_get (D := D) (ci := 2) (v := .ref ar) (C := RX2) (T := TX2) (N := 4) hx hb hts i2_enlarge hown hK hP i (gM_i hi hij) rfl 0 (by decide) f_place (fun _ h9 => h9) rfl dX2_enlarge_46 ?_
      refine lv_iload_n hx hb dX2_enlarge_49 rfl (lv_at hl 2 rfl) ?_
      refine lv_bipush (v := 8) hx hb dX2_enlarge_50 (by decide) ?_
      refine va_iast hx hb hK hP hD hS j t (gM_j hj) ht (vp_in_nI (n := k) (by omega) (by omega)) dX2_enlarge_52 (fun H locs hP2 hD2 hS => ?_)
      rw [nI_clamp (by omega)] at hP2 hD2
      have hw := gM_sj (w := w) (i := i) (j := j) (m0 := m0) (ar := ar) (cI := cI) (sv := (nI n)) (rv := rv) (tv := 0) (row := row) (upd row k 8)
      have hP := g_eqP hw hP2
      have hD := g_eqD hw hD2
      refine lv_iinc (v := nI (k + 1)) (lv' := [(2, .int (nI (k + 1))), (0, .ref m0), (1, .int (nI vn))]) hx hb dX2_enlarge_53 hl (k := 2) rfl (by rw [← nI_1]; rfl) (by decide) rfl (fun ls hl => ?_)
      refine lv_goto (tgt := 40) hx hb dX2_enlarge_56 (by decide) ?_
      refine ih (k + 1) (upd row k 8) H locs ls (by omega) (by omega) (by omega) (by omega) (fun q h1 h2 => ?_) hP hD hS (lv_sub hl [1, 2, 0] rfl) hend
      by_cases z : q = k
      · subst z; rw [pk_us, if_pos ⟨hk2, hkn⟩]
      · rw [pk_un z]; exact hlo q h1 (by omega)
set_option maxHeartbeats 4000000 in
set_option maxRecDepth 100000 in
/-- enlarge(larger) -/
theorem m_enlarge (l : Launch) (D : va_G) (tys : List (ClassId × FieldType)) {cI : ClassId} {t : Nat} (ht : tys[t]? = some (cI, .int)) {w : va_W} {i j : Nat} (hi : i < w.length) (hj : j < w.length) (hij : i ≠ j) {m0 ar : Nat} {rv tv : Int32} {row : Nat → Int32} {P : Nat → Int32} {n : Nat} (hn : n ≤ 5000) (hrow : gRow P n row) (sz : Nat) (hev : gEv P n) (v0 : Int32) : Met l yX2_enlarge wsX2_enlarge ({ frames := 1, cells := 0, slots := 0, locals := 23 } : Room) (gP D tys [.ref m0, .int v0] (wM w i j m0 ar cI (nI n) rv tv row) sz (fun _ => True)) (va_Qi (fun (r : Int32) (u : Int32 × Int32 × (Nat → Int32)) => (u.1 = 0 ∧ ∃ vn : Nat, n < vn ∧ vn ≤ 5000 ∧ v0 = nI vn ∧ u.2.1 = nI vn ∧ r = nI (gct (gmv P (-1) 8 0 (vn - n)) 8 vn) ∧ gRow (gmv P (-1) 8 0 (vn - n)) vn u.2.2) ∨ (u.1 = 1 ∧ (¬ ∃ vn : Nat, n < vn ∧ vn ≤ 5000 ∧ v0 = nI vn) ∧ u.2.1 = nI n ∧ u.2.2 = row)) (fun u t => gWd D tys (va_A (wM w i j m0 ar cI (nI n) rv tv row) sz) (wM w i j m0 ar cI u.2.1 rv u.1 u.2.2) t) (va_A (wM w i j m0 ar cI (nI n) rv tv row) sz)) 0 0 (va_A (wM w i j m0 ar cI (nI n) rv tv row) sz) := by
  refine g_ofW (cc := cX2_enlarge) (maxL := 3) (ret := some .int) (by decide) rfl (Nat.le_of_ble_eq_true rfl) ?_
  intro p e s m below meth c hx hb hr hml hts hown hlocks hin hsz hP hK hD hA hS hG ls hl
  subst hsz
  have hown : s.vm.findClass RX2 = some m.cls := hown
  have hl : lv_has ls 3 [(0, .ref m0), (1, .int v0)] := hl
  have f_thrown := hts (.fieldLink RX2 20 "NumberGobletsModel" "thrown" "I") (by decide +kernel)
  have f_size := hts (.fieldLink RX2 13 "NumberGobletsModel" "size" "I") (by decide +kernel)
  refine lv_aload_n hx hb dX2_enlarge_0 rfl (lv_at hl 0 rfl) ?_
  refine lv_iload_n hx hb dX2_enlarge_1 rfl (lv_at hl 1 rfl) ?_
  refine lv_aload_n hx hb dX2_enlarge_2 rfl (lv_at hl 0 rfl) ?_
  refine va_get (D := D) (ci := 2) (v := .int (nI n)) (C := RX2) (T := TX2) (N := 4) hx hb hts i2_enlarge hown hK hP i (gM_i hi hij) rfl 1 (by decide) f_size (fun _ h9 => h9) rfl dX2_enlarge_3 ?_
  refine lv_icmp_le (tgt := 20) hx hb dX2_enlarge_6 (by decide) (fun c1 => ?_) (fun c1 => ?_)
  · have hno : ¬ ∃ vn : Nat, n < vn ∧ vn ≤ 5000 ∧ v0 = nI vn := fun ⟨vn, h1, h2, h3⟩ => by rw [h3] at c1; exact nI_ge h1 (by omega) c1
    refine lv_iconst (v := 1) hx hb dX2_enlarge_20 (by decide) ?_
    have hw := gM_si (w := w) (i := i) (j := j) (m0 := m0) (ar := ar) (cI := cI) (sv := (nI n)) (rv := rv) (tv := tv) (row := row) hij (nI n) rv 1
    refine va_put (D := D) (ci := 2) (v := .int 1) (ty := .int) (C := RX2) (T := TX2) (N := 4) hx hb hts i2_enlarge tyX2 tyX2_ok nmX2 hown hK hP hD hS i (gM_i hi hij) rfl 3 (by decide) f_thrown (fun _ h9 => h9) rfl (by decide +kernel) rfl rfl (Nat.le_of_ble_eq_true rfl) dX2_enlarge_21 (fun H locs hP2 hD2 hS => ?_)
    have hP := g_eqP hw hP2
    have hD := g_eqD hw hD2
    refine lv_aload_n hx hb dX2_enlarge_24 rfl (lv_at hl 0 rfl) ?_
    refine va_get (D := D) (ci := 2) (v := .int 1) (C := RX2) (T := TX2) (N := 4) hx hb hts i2_enlarge hown hK hP i (gM_i hi hij) rfl 3 (by decide) f_thrown (fun _ h9 => h9) rfl dX2_enlarge_25 ?_
    refine lv_if_eq (tgt := 33) hx hb dX2_enlarge_28 (by decide) (fun c9 => absurd c9 (by decide)) (fun _ => ?_)
    refine lv_iconst (v := 0) hx hb dX2_enlarge_31 (by decide) ?_
    exact g_reti hx hb hr hlocks hK (0) ((1 : Int32), nI n, row) hP hD hS (Nat.zero_le _) (Nat.zero_le _) (Or.inr ⟨rfl, hno, rfl, rfl⟩) dX2_enlarge_32
  · skip
    refine lv_iload_n hx hb dX2_enlarge_9 rfl (lv_at hl 1 rfl) ?_
    refine lv_sipush (v := 5000) hx hb dX2_enlarge_10 (by decide) ?_
    refine lv_icmp_gt (tgt := 20) hx hb dX2_enlarge_13 (by decide) (fun c2 => ?_) (fun c2 => ?_)
    · have hno : ¬ ∃ vn : Nat, n < vn ∧ vn ≤ 5000 ∧ v0 = nI vn := fun ⟨vn, h1, h2, h3⟩ => by rw [h3] at c2; exact nI_nlt (a := 5000) (b := vn) h2 (by omega) c2
      refine lv_iconst (v := 1) hx hb dX2_enlarge_20 (by decide) ?_
      have hw := gM_si (w := w) (i := i) (j := j) (m0 := m0) (ar := ar) (cI := cI) (sv := (nI n)) (rv := rv) (tv := tv) (row := row) hij (nI n) rv 1
      refine va_put (D := D) (ci := 2) (v := .int 1) (ty := .int) (C := RX2) (T := TX2) (N := 4) hx hb hts i2_enlarge tyX2 tyX2_ok nmX2 hown hK hP hD hS i (gM_i hi hij) rfl 3 (by decide) f_thrown (fun _ h9 => h9) rfl (by decide +kernel) rfl rfl (Nat.le_of_ble_eq_true rfl) dX2_enlarge_21 (fun H locs hP2 hD2 hS => ?_)
      have hP := g_eqP hw hP2
      have hD := g_eqD hw hD2
      refine lv_aload_n hx hb dX2_enlarge_24 rfl (lv_at hl 0 rfl) ?_
      refine va_get (D := D) (ci := 2) (v := .int 1) (C := RX2) (T := TX2) (N := 4) hx hb hts i2_enlarge hown hK hP i (gM_i hi hij) rfl 3 (by decide) f_thrown (fun _ h9 => h9) rfl dX2_enlarge_25 ?_
      refine lv_if_eq (tgt := 33) hx hb dX2_enlarge_28 (by decide) (fun c9 => absurd c9 (by decide)) (fun _ => ?_)
      refine lv_iconst (v := 0) hx hb dX2_enlarge_31 (by decide) ?_
      exact g_reti hx hb hr hlocks hK (0) ((1 : Int32), nI n, row) hP hD hS (Nat.zero_le _) (Nat.zero_le _) (Or.inr ⟨rfl, hno, rfl, rfl⟩) dX2_enlarge_32
    · obtain ⟨vn, hv1, hv2, rfl⟩ : ∃ vn : Nat, n < vn ∧ vn ≤ 5000 ∧ v0 = nI vn := by
        have h0v : ¬ v0 < 0 := fun q => c1 (by rw [Int32.le_iff_toInt_le, nI_toInt (by omega)]; rw [Int32.lt_iff_toInt_lt] at q; have z0 : (0 : Int32).toInt = 0 := rfl; omega)
        obtain ⟨vn, hvn, rfl⟩ := nI_of h0v
        refine ⟨vn, ?_, ?_, rfl⟩
        · rcases Nat.lt_or_ge n vn with q | q; exact q; exact absurd (nI_le q (by omega)) c1
        · rcases Nat.lt_or_ge 5000 vn with q | q; exact absurd (show nI 5000 < nI vn from nI_lt q hvn) c2; exact q
      refine lv_iconst (v := 0) hx hb dX2_enlarge_16 (by decide) ?_
      refine lv_goto (tgt := 21) hx hb dX2_enlarge_17 (by decide) ?_
      have hw := gM_si (w := w) (i := i) (j := j) (m0 := m0) (ar := ar) (cI := cI) (sv := (nI n)) (rv := rv) (tv := tv) (row := row) hij (nI n) rv 0
      refine va_put (D := D) (ci := 2) (v := .int 0) (ty := .int) (C := RX2) (T := TX2) (N := 4) hx hb hts i2_enlarge tyX2 tyX2_ok nmX2 hown hK hP hD hS i (gM_i hi hij) rfl 3 (by decide) f_thrown (fun _ h9 => h9) rfl (by decide +kernel) rfl rfl (Nat.le_of_ble_eq_true rfl) dX2_enlarge_21 (fun H locs hP2 hD2 hS => ?_)
      have hP := g_eqP hw hP2
      have hD := g_eqD hw hD2
      refine lv_aload_n hx hb dX2_enlarge_24 rfl (lv_at hl 0 rfl) ?_
      refine va_get (D := D) (ci := 2) (v := .int 0) (C := RX2) (T := TX2) (N := 4) hx hb hts i2_enlarge hown hK hP i (gM_i hi hij) rfl 3 (by decide) f_thrown (fun _ h9 => h9) rfl dX2_enlarge_25 ?_
      refine lv_if_eq (tgt := 33) hx hb dX2_enlarge_28 (by decide) (fun _ => ?_) (fun c9 => absurd rfl c9)
      refine lv_aload_n hx hb dX2_enlarge_33 rfl (lv_at hl 0 rfl) ?_
      refine va_get (D := D) (ci := 2) (v := .int (nI n)) (C := RX2) (T := TX2) (N := 4) hx hb hts i2_enlarge hown hK hP i (gM_i hi hij) rfl 1 (by decide) f_size (fun _ h9 => h9) rfl dX2_enlarge_34 ?_
      refine lv_iconst (v := 1) hx hb dX2_enlarge_37 (by decide) ?_
      refine lv_iadd hx hb dX2_enlarge_38 ?_
      refine g_top (y := nI (n + 1)) (nI_1 _) ?_
      refine lv_istore_n (lv' := [(2, .int (nI (n + 1))), (0, .ref m0), (1, .int (nI vn))]) hx hb dX2_enlarge_39 rfl hl (by decide) rfl (fun ls hl => ?_)
      refine fill_loop (P := P) (n := n) (row0 := row) (tv := tv) ht hi hj hij hn hv2 hx hb hml hts hown hK hA (vn + 2) (n + 1) row _ _ ls (by omega) (by omega) (by omega) (by omega) (fun q h1 h2 => by rw [if_neg (by omega)]; exact hrow q h1 (by omega)) hP hD hS (lv_sub hl [1, 2, 0] rfl) (fun row2 H locs ls hr2 hP hD hS hl => ?_)
      have hrow2 : gRow (gmv P (-1) 8 0 (vn - n)) vn row2 := fun q h1 h2 => by rw [gmv_grow hev hv1]; exact hr2 q h1 h2
      refine lv_aload_n hx hb dX2_enlarge_59 rfl (lv_at hl 0 rfl) ?_
      refine lv_iload_n hx hb dX2_enlarge_60 rfl (lv_at hl 1 rfl) ?_
      have hw := gM_si (w := w) (i := i) (j := j) (m0 := m0) (ar := ar) (cI := cI) (sv := (nI n)) (rv := rv) (tv := 0) (row := row2) hij (nI vn) rv 0
      refine va_put (D := D) (ci := 2) (v := .int (nI vn)) (ty := .int) (C := RX2) (T := TX2) (N := 4) hx hb hts i2_enlarge tyX2 tyX2_ok nmX2 hown hK hP hD hS i (gM_i hi hij) rfl 1 (by decide) f_size (fun _ h9 => h9) rfl (by decide +kernel) rfl rfl (Nat.le_of_ble_eq_true rfl) dX2_enlarge_61 (fun H locs hP2 hD2 hS => ?_)
      have hP := g_eqP hw hP2
      have hD := g_eqD hw hD2
      refine lv_aload_n hx hb dX2_enlarge_64 rfl (lv_at hl 0 rfl) ?_
      refine lv_bipush (v := 8) hx hb dX2_enlarge_65 (by decide) ?_
      refine g_calli (va_runV (As := [.int 8]) (rest := []) ⟨hx, hb, hml, hown, hts⟩ (m_howMany l D tys ht hi hj hij hv2 hrow2 H.size 8) (cwV 1 hts gX2_enlarge_X2_howMany rfl rfl rfl (by decide +kernel) ⟨Nat.le_of_ble_eq_true rfl, Nat.le_of_ble_eq_true rfl⟩) (gP_V (va_recv hK hP (ci := 2) rfl (gM_i hi hij)) hP hK hD gBl_T (fun _ _ _ => trivial)) rfl rfl hl.1 rfl (lv_room (Nat.le_of_ble_eq_true rfl)) dX2_enlarge_67 ⟨(Nat.zero_le _), (Nat.zero_le _)⟩) hD hS hA (fun r9 u9 H locs hr9 hP hD hS => ?_)
      exact g_reti hx hb hr hlocks hK (r9) ((0 : Int32), nI vn, row2) hP hD hS (Nat.zero_le _) (Nat.zero_le _) (Or.inl ⟨rfl, vn, hv1, hv2, rfl, rfl, hr9, hrow2⟩) dX2_enlarge_70
set_option maxHeartbeats 4000000 in
set_option maxRecDepth 100000 in
/-- pour: its loop -/
theorem pour_loop {p : Program} {l : Launch} {e : Env} {s : State} {m : MethodId} {args : Array Value} {below : List Frame} {meth : Method} {c : Code} {Q : State → Prop} {D : va_G} {tys : List (ClassId × FieldType)} {cI : ClassId} {t : Nat} (ht : tys[t]? = some (cI, .int)) {w w0 : va_W} {i j : Nat} (hi : i < w.length) (hj : j < w.length) (hij : i ≠ j) {m0 ar : Nat} {rv tv : Int32} {row0 : Nat → Int32} {P : Nat → Int32} {n : Nat} (hn : n ≤ 5000) {v0 : Int32} {cn : Nat} (hcn : 1 ≤ cn ∧ cn ≤ 200) (hx : p.tables.exec = Jvm.exec) (hb : c.code = cX2_pour) (hml : c.maxLocals = 5) (hts : ∀ w ∈ wsX2_pour, w.before args s = true) (hown : s.vm.findClass RX2 = some m.cls) (hK : va_K D vwCl tys s) (hA : ∀ q : Nat, s.heap.size ≤ q → va_A w0 s.heap.size q) :
    ∀ (f k : Nat) (acc : Nat) (row : Nat → Int32) (H : Heap) (locs : List Loc) (ls : Array Slot), n + 1 - k < f → 1 ≤ k → k ≤ n + 1 → acc = min cn (gct P 8 (k - 1)) → (∀ q, 1 ≤ q → q < k → row q = gmv P 8 v0 0 cn q) → (∀ q, k ≤ q → q ≤ n → row q = P q) → va_P D vwCl (wM w i j m0 ar cI (nI n) rv 0 row) H → va_D (va_A w0 s.heap.size) (wM w i j m0 ar cI (nI n) rv 0 row) → va_S (va_A w0 s.heap.size) s.heap H locs → lv_has ls 5 [(0, .ref m0), (1, .int v0), (2, .int (nI cn)), (3, .int (nI acc)), (4, .int (nI k))] →
    (∀ (row : Nat → Int32) (H : Heap) (locs : List Loc) (ls : Array Slot), gRow (gmv P 8 v0 0 cn) n row → va_P D vwCl (wM w i j m0 ar cI (nI n) rv 0 row) H → va_D (va_A w0 s.heap.size) (wM w i j m0 ar cI (nI n) rv 0 row) → va_S (va_A w0 s.heap.size) s.heap H locs → lv_has ls 5 [(3, .int (nI (min cn (gct P 8 n))))] → W p l e ({ frames := 1, cells := 0, slots := 0, locals := 22 } : Room) s m args below meth c H locs 0 0 Q (F0 m 100 ls [])) →
    W p l e ({ frames := 1, cells := 0, slots := 0, locals := 22 } : Room) s m args below meth c H locs 0 0 Q (F0 m 50 ls []) := by
  have f_place := hts (.fieldLink RX2 7 "NumberGobletsModel" "place" "[I") (by decide +kernel)
  have f_size := hts (.fieldLink RX2 13 "NumberGobletsModel" "size" "I") (by decide +kernel)
  have f_thrown := hts (.fieldLink RX2 20 "NumberGobletsModel" "thrown" "I") (by decide +kernel)
  intro f
  induction f with
  | zero => intro k acc row H locs ls hf; exact absurd hf (Nat.not_lt_zero _)
  | succ f ih =>
    intro k acc row H locs ls hf hk1 hk2 hacc hlo hhi hP hD hS hl hend
    have hle := gct_le P 8 (k - 1)
    refine lv_iload hx hb dX2_pour_50 (lv_at hl 4 rfl) ?_
    refine lv_aload_n hx hb dX2_pour_52 rfl (lv_at hl 0 rfl) ?_
    refine va_get (D := D) (ci := 2) (v := .int (nI n)) (C := RX2) (T := TX2) (N := 4) hx hb hts i2_pour hown hK hP i (gM_i hi hij) rfl 1 (by decide) f_size (fun _ h9 => h9) rfl dX2_pour_53 ?_
    refine lv_icmp_gt (tgt := 100) hx hb dX2_pour_56 (by decide) (fun c1 => ?_) (fun c1 => ?_)
    · have hkn : n < k := (nI_ltI (by omega) (by omega)).mp c1
      have hk3 : k - 1 = n := by omega
      rw [hk3] at hacc
      subst hacc
      exact hend row H locs ls (fun q h1 h2 => hlo q h1 (by omega)) hP hD hS (lv_sub hl [3] rfl)
    · have hkn : k ≤ n := Nat.le_of_not_lt (fun z => c1 (nI_lt z (by omega)))
      refine lv_aload_n hx hb dX2_pour_59 rfl (lv_at hl 0 rfl) ?_
      refine va_get (D := D) (ci := 2) (v := .int 0) (C := RX2) (T := TX2) (N := 4) hx hb hts i2_pour hown hK hP i (gM_i hi hij) rfl 3 (by decide) f_thrown (fun _ h9 => h9) rfl dX2_pour_60 ?_
      refine lv_if_ne (tgt := 100) hx hb dX2_pour_63 (by decide) (fun c9 => absurd rfl c9) (fun _ => ?_)
      refine lv_iload_n hx hb dX2_pour_66 rfl (lv_at hl 3 rfl) ?_
      refine lv_iload_n hx hb dX2_pour_67 rfl (lv_at hl 2 rfl) ?_
      refine lv_icmp_ge (tgt := 100) hx hb dX2_pour_68 (by decide) (fun c2 => ?_) (fun c2 => ?_)
      · have hfull : cn ≤ acc := by rcases Nat.lt_or_ge acc cn with z | z; exact absurd c2 (nI_ge z (by omega)); exact z
        have hm := gct_mono' P 8 (m := k - 1) (n := n) (by omega)
        have hacc2 : acc = min cn (gct P 8 n) := by omega
        rw [hacc2] at hl
        refine hend row H locs ls (fun q h1 h2 => ?_) hP hD hS (lv_sub hl [3] rfl)
        by_cases z : q < k
        · exact hlo q h1 z
        · rw [hhi q (by omega) h2]
          by_cases y : P q = 8
          · have := gct_step (P := P) (p := 8) (k := k) (j := q) hk1 (by omega) y; rw [gmv_out (Or.inr (Or.inr (by omega)))]
          · rw [gmv_out (Or.inl y)]
      · have hfree : acc < cn := by rcases Nat.lt_or_ge acc cn with z | z; exact z; exact absurd (nI_le z (by omega)) c2
        refine lv_aload_n hx hb dX2_pour_71 rfl (lv_at hl 0 rfl) ?_
        refine va_get (D := D) (ci := 2) (v := .ref ar) (C := RX2) (T := TX2) (N := 4) hx hb hts i2_pour hown hK hP i (gM_i hi hij) rfl 0 (by decide) f_place (fun _ h9 => h9) rfl dX2_pour_72 ?_
        refine lv_iload hx hb dX2_pour_75 (lv_at hl 4 rfl) ?_
        refine va_iald hx hb hK hP j t (gM_j hj) ht (vp_in_nI (n := k) (by omega) (by omega)) dX2_pour_77 ?_
        refine g_top (y := P k) (by rw [nI_clamp (by omega)]; exact hhi k (Nat.le_refl _) hkn) ?_
        refine lv_bipush (v := 8) hx hb dX2_pour_78 (by decide) ?_
        refine lv_icmp_ne (tgt := 94) hx hb dX2_pour_80 (by decide) (fun c3 => ?_) (fun c3 => ?_)
        · have h9 : gct P 8 k = gct P 8 (k - 1) := gct_past (by omega) (fun q h1 h2 => by rw [show q = k by omega]; exact c3)
          refine lv_iinc (v := nI (k + 1)) (lv' := [(4, .int (nI (k + 1))), (0, .ref m0), (1, .int v0), (2, .int (nI cn)), (3, .int (nI acc))]) hx hb dX2_pour_94 hl (k := 4) rfl (by rw [← nI_1]; rfl) (by decide) rfl (fun ls hl => ?_)
          refine lv_goto (tgt := 50) hx hb dX2_pour_97 (by decide) ?_
          exact ih (k + 1) acc row H locs ls (by omega) (by omega) (by omega) (by rw [Nat.add_sub_cancel, h9]; exact hacc) (fun q h1 h2 => by by_cases z : q < k; exact hlo q h1 z; rw [show q = k by omega, gmv_out (Or.inl c3)]; exact hhi k (Nat.le_refl _) hkn) (fun q h1 h2 => hhi q (by omega) h2) hP hD hS (lv_sub hl [1, 2, 3, 4, 0] rfl) hend
        · have h9 : gct P 8 k = gct P 8 (k - 1) + 1 := by have := gct_to (P := P) (p := 8) (k := k) (m := k) hk1 (Nat.le_refl _) (fun q h1 h2 => by rw [show q = k by omega]; exact c3); omega
          refine lv_aload_n hx hb dX2_pour_83 rfl (lv_at hl 0 rfl) ?_
          refine va_get (D := D) (ci := 2) (v := .ref ar) (C := RX2) (T := TX2) (N := 4) hx hb hts i2_pour hown hK hP i (gM_i hi hij) rfl 0 (by decide) f_place (fun _ h9 => h9) rfl dX2_pour_84 ?_
          refine lv_iload hx hb dX2_pour_87 (lv_at hl 4 rfl) ?_
          refine lv_iload_n hx hb dX2_pour_89 rfl (lv_at hl 1 rfl) ?_
          refine va_iast hx hb hK hP hD hS j t (gM_j hj) ht (vp_in_nI (n := k) (by omega) (by omega)) dX2_pour_90 (fun H locs hP2 hD2 hS => ?_)
          rw [nI_clamp (by omega)] at hP2 hD2
          have hw := gM_sj (w := w) (i := i) (j := j) (m0 := m0) (ar := ar) (cI := cI) (sv := (nI n)) (rv := rv) (tv := 0) (row := row) (upd row k v0)
          have hP := g_eqP hw hP2
          have hD := g_eqD hw hD2
          refine lv_iinc (v := nI (acc + 1)) (lv' := [(3, .int (nI (acc + 1))), (0, .ref m0), (1, .int v0), (2, .int (nI cn)), (4, .int (nI k))]) hx hb dX2_pour_91 hl (k := 3) rfl (by rw [← nI_1]; rfl) (by decide) rfl (fun ls hl => ?_)
          refine lv_iinc (v := nI (k + 1)) (lv' := [(4, .int (nI (k + 1))), (3, .int (nI (acc + 1))), (0, .ref m0), (1, .int v0), (2, .int (nI cn))]) hx hb dX2_pour_94 hl (k := 4) rfl (by rw [← nI_1]; rfl) (by decide) rfl (fun ls hl => ?_)
          refine lv_goto (tgt := 50) hx hb dX2_pour_97 (by decide) ?_
          refine ih (k + 1) (acc + 1) (upd row k v0) H locs ls (by omega) (by omega) (by omega) (by rw [Nat.add_sub_cancel, h9]; omega) (fun q h1 h2 => ?_) (fun q h1 h2 => ?_) hP hD hS (lv_sub hl [2, 3, 4, 1, 0] rfl) hend
          · by_cases z : q = k
            · subst z; rw [pk_us, gmv_in c3 (by omega) (by omega)]
            · rw [pk_un z]; exact hlo q h1 (by omega)
          · rw [pk_un (by omega)]; exact hhi q (by omega) h2
set_option maxHeartbeats 4000000 in
set_option maxRecDepth 100000 in
/-- pour(goblet, count) -/
theorem m_pour (l : Launch) (D : va_G) (tys : List (ClassId × FieldType)) {cI : ClassId} {t : Nat} (ht : tys[t]? = some (cI, .int)) {w : va_W} {i j : Nat} (hi : i < w.length) (hj : j < w.length) (hij : i ≠ j) {m0 ar : Nat} {rv tv : Int32} {row : Nat → Int32} {P : Nat → Int32} {n : Nat} (hn : n ≤ 5000) (hrow : gRow P n row) (sz : Nat) (hn1 : 1 ≤ n) (v0 v1 : Int32) : Met l yX2_pour wsX2_pour ({ frames := 1, cells := 0, slots := 0, locals := 22 } : Room) (gP D tys [.ref m0, .int v0, .int v1] (wM w i j m0 ar cI (nI n) rv tv row) sz (fun _ => True)) (va_Qi (fun (r : Int32) (u : Int32 × (Nat → Int32)) => (u.1 = 0 ∧ gGob v0 ∧ ∃ cn : Nat, 1 ≤ cn ∧ cn ≤ 200 ∧ v1 = nI cn ∧ ¬ glow (fun q => P q = 8) n 0 ∧ r = nI (min cn (gct P 8 n)) ∧ gRow (gmv P 8 v0 0 cn) n u.2) ∨ (u.1 = 1 ∧ ¬ gGob v0 ∧ u.2 = row) ∨ (u.1 = 2 ∧ gGob v0 ∧ ¬ gCnt v1 ∧ u.2 = row) ∨ (u.1 = 3 ∧ gGob v0 ∧ gCnt v1 ∧ glow (fun q => P q = 8) n 0 ∧ u.2 = row)) (fun u t => gWd D tys (va_A (wM w i j m0 ar cI (nI n) rv tv row) sz) (wM w i j m0 ar cI (nI n) rv u.1 u.2) t) (va_A (wM w i j m0 ar cI (nI n) rv tv row) sz)) 0 0 (va_A (wM w i j m0 ar cI (nI n) rv tv row) sz) := by
  refine g_ofW (cc := cX2_pour) (maxL := 5) (ret := some .int) (by decide) rfl (Nat.le_of_ble_eq_true rfl) ?_
  intro p e s m below meth c hx hb hr hml hts hown hlocks hin hsz hP hK hD hA hS hG ls hl
  subst hsz
  have hown : s.vm.findClass RX2 = some m.cls := hown
  have hl : lv_has ls 5 [(0, .ref m0), (1, .int v0), (2, .int v1)] := hl
  have f_thrown := hts (.fieldLink RX2 20 "NumberGobletsModel" "thrown" "I") (by decide +kernel)
  have f_size := hts (.fieldLink RX2 13 "NumberGobletsModel" "size" "I") (by decide +kernel)
  refine lv_aload_n hx hb dX2_pour_0 rfl (lv_at hl 0 rfl) ?_
  refine lv_iload_n hx hb dX2_pour_1 rfl (lv_at hl 1 rfl) ?_
  refine g_calli (va_runS (As := [.int v0]) (rest := [.ref m0]) ⟨hx, hb, hml, hown, hts⟩ (m_isGoblet l D tys (wM w i j m0 ar cI (nI n) rv tv row) s.heap.size v0) (va_cwS 1 hts gX2_pour_X2_isGoblet rfl rfl rfl (by decide +kernel) ⟨Nat.le_of_ble_eq_true rfl, Nat.le_of_ble_eq_true rfl⟩) (gP_S hP hK hD gBl_T (fun _ _ _ => trivial)) rfl rfl hl.1 rfl (lv_room (Nat.le_of_ble_eq_true rfl)) dX2_pour_2 ⟨(Nat.zero_le _), (Nat.zero_le _)⟩) hD hS hA (fun r9 u9 H locs hr9 hP hD hS => ?_)
  rcases hr9 with ⟨rfl, hg⟩ | ⟨rfl, hg⟩
  · skip
    refine lv_if_ne (tgt := 12) hx hb dX2_pour_5 (by decide) (fun _ => ?_) (fun c9 => absurd c9 (by decide))
    refine lv_iload_n hx hb dX2_pour_12 rfl (lv_at hl 2 rfl) ?_
    refine lv_iconst (v := 1) hx hb dX2_pour_13 (by decide) ?_
    refine lv_icmp_lt (tgt := 24) hx hb dX2_pour_14 (by decide) (fun c1 => ?_) (fun c1 => ?_)
    · have hno : ¬ gCnt v1 := fun ⟨q, h1, h3, h2⟩ => by rw [h2] at c1; exact nI_nlt (a := q) (b := 1) h1 (by omega) c1
      refine lv_iconst (v := 2) hx hb dX2_pour_24 (by decide) ?_
      refine lv_goto (tgt := 42) hx hb dX2_pour_25 (by decide) ?_
      have hw := gM_si (w := w) (i := i) (j := j) (m0 := m0) (ar := ar) (cI := cI) (sv := (nI n)) (rv := rv) (tv := tv) (row := row) hij (nI n) rv 2
      refine va_put (D := D) (ci := 2) (v := .int 2) (ty := .int) (C := RX2) (T := TX2) (N := 4) hx hb hts i2_pour tyX2 tyX2_ok nmX2 hown hK hP hD hS i (gM_i hi hij) rfl 3 (by decide) f_thrown (fun _ h9 => h9) rfl (by decide +kernel) rfl rfl (Nat.le_of_ble_eq_true rfl) dX2_pour_42 (fun H locs hP2 hD2 hS => ?_)
      have hP := g_eqP hw hP2
      have hD := g_eqD hw hD2
      refine lv_iconst (v := 0) hx hb dX2_pour_45 (by decide) ?_
      refine lv_istore_n (lv' := [(3, .int 0), (0, .ref m0), (1, .int v0), (2, .int v1)]) hx hb dX2_pour_46 rfl hl (by decide) rfl (fun ls hl => ?_)
      refine lv_iconst (v := 1) hx hb dX2_pour_47 (by decide) ?_
      refine lv_istore (lv' := [(4, .int 1), (3, .int 0), (0, .ref m0), (1, .int v0), (2, .int v1)]) hx hb dX2_pour_48 hl (by decide) rfl (fun ls hl => ?_)
      refine lv_iload hx hb dX2_pour_50 (lv_at hl 0 rfl) ?_
      refine lv_aload_n hx hb dX2_pour_52 rfl (lv_at hl 2 rfl) ?_
      refine va_get (D := D) (ci := 2) (v := .int (nI n)) (C := RX2) (T := TX2) (N := 4) hx hb hts i2_pour hown hK hP i (gM_i hi hij) rfl 1 (by decide) f_size (fun _ h9 => h9) rfl dX2_pour_53 ?_
      refine lv_icmp_gt (tgt := 100) hx hb dX2_pour_56 (by decide) (fun c9 => absurd c9 (nI_nlt (a := n) (b := 1) hn1 (by omega))) (fun _ => ?_)
      refine lv_aload_n hx hb dX2_pour_59 rfl (lv_at hl 2 rfl) ?_
      refine va_get (D := D) (ci := 2) (v := .int 2) (C := RX2) (T := TX2) (N := 4) hx hb hts i2_pour hown hK hP i (gM_i hi hij) rfl 3 (by decide) f_thrown (fun _ h9 => h9) rfl dX2_pour_60 ?_
      refine lv_if_ne (tgt := 100) hx hb dX2_pour_63 (by decide) (fun _ => ?_) (fun c9 => absurd c9 (by decide))
      refine lv_iload_n hx hb dX2_pour_100 rfl (lv_at hl 1 rfl) ?_
      exact g_reti hx hb hr hlocks hK (0) ((2 : Int32), row) hP hD hS (Nat.zero_le _) (Nat.zero_le _) (Or.inr (Or.inr (Or.inl ⟨rfl, hg, hno, rfl⟩))) dX2_pour_101
    · skip
      refine lv_iload_n hx hb dX2_pour_17 rfl (lv_at hl 2 rfl) ?_
      refine lv_sipush (v := 200) hx hb dX2_pour_18 (by decide) ?_
      refine lv_icmp_le (tgt := 28) hx hb dX2_pour_21 (by decide) (fun c2 => ?_) (fun c2 => ?_)
      · obtain ⟨cn, hcn1, hcn2, rfl⟩ : gCnt v1 := by
          have h1 : ¬ v1 < 0 := fun q => c1 (by rw [Int32.lt_iff_toInt_lt] at q ⊢; have z0 : (0 : Int32).toInt = 0 := rfl; have z1 : (1 : Int32).toInt = 1 := rfl; omega)
          obtain ⟨j, hj, rfl⟩ := nI_of h1
          refine ⟨j, ?_, (nI_leI hj (by omega)).mp c2, rfl⟩
          rcases Nat.eq_zero_or_pos j with z | z
          · subst z; exact absurd (show nI 0 < 1 by decide) c1
          · exact z
        refine lv_aload_n hx hb dX2_pour_28 rfl (lv_at hl 0 rfl) ?_
        refine lv_bipush (v := 8) hx hb dX2_pour_29 (by decide) ?_
        refine g_calli (va_runV (As := [.int 8]) (rest := [.ref m0]) ⟨hx, hb, hml, hown, hts⟩ (m_lowest l D tys ht hi hj hij hn hrow H.size 8) (cwV 1 hts gX2_pour_X2_lowest rfl rfl rfl (by decide +kernel) ⟨Nat.le_of_ble_eq_true rfl, Nat.le_of_ble_eq_true rfl⟩) (gP_V (va_recv hK hP (ci := 2) rfl (gM_i hi hij)) hP hK hD gBl_T (fun _ _ _ => trivial)) rfl rfl hl.1 rfl (lv_room (Nat.le_of_ble_eq_true rfl)) dX2_pour_31 ⟨(Nat.zero_le _), (Nat.zero_le _)⟩) hD hS hA (fun r8 u8 H locs hr8 hP hD hS => ?_)
        obtain ⟨v, rfl, hlv⟩ := hr8
        have hv5 := glow_le hlv
        refine lv_if_ne (tgt := 41) hx hb dX2_pour_34 (by decide) (fun c3 => ?_) (fun c3 => ?_)
        · have hv0 : ¬ v = 0 := fun z => c3 (by rw [z]; rfl)
          refine lv_iconst (v := 0) hx hb dX2_pour_41 (by decide) ?_
          have hw := gM_si (w := w) (i := i) (j := j) (m0 := m0) (ar := ar) (cI := cI) (sv := (nI n)) (rv := rv) (tv := tv) (row := row) hij (nI n) rv 0
          refine va_put (D := D) (ci := 2) (v := .int 0) (ty := .int) (C := RX2) (T := TX2) (N := 4) hx hb hts i2_pour tyX2 tyX2_ok nmX2 hown hK hP hD hS i (gM_i hi hij) rfl 3 (by decide) f_thrown (fun _ h9 => h9) rfl (by decide +kernel) rfl rfl (Nat.le_of_ble_eq_true rfl) dX2_pour_42 (fun H locs hP2 hD2 hS => ?_)
          have hP := g_eqP hw hP2
          have hD := g_eqD hw hD2
          refine lv_iconst (v := 0) hx hb dX2_pour_45 (by decide) ?_
          refine lv_istore_n (lv' := [(3, .int 0), (0, .ref m0), (1, .int v0), (2, .int (nI cn))]) hx hb dX2_pour_46 rfl hl (by decide) rfl (fun ls hl => ?_)
          refine lv_iconst (v := 1) hx hb dX2_pour_47 (by decide) ?_
          refine lv_istore (lv' := [(4, .int 1), (3, .int 0), (0, .ref m0), (1, .int v0), (2, .int (nI cn))]) hx hb dX2_pour_48 hl (by decide) rfl (fun ls hl => ?_)
          refine pour_loop (P := P) (row0 := row) (tv := tv) ht hi hj hij hn ⟨hcn1, hcn2⟩ hx hb hml hts hown hK hA (n + 2) 1 0 row _ _ ls (by omega) (Nat.le_refl _) (by omega) (by show 0 = min cn 0; omega) (fun q h1 h2 => absurd h2 (by omega)) (fun q h1 h2 => hrow q h1 h2) hP hD hS (lv_sub hl [2, 3, 4, 1, 0] rfl) (fun row2 H locs ls hr2 hP hD hS hl => ?_)
          refine lv_iload_n hx hb dX2_pour_100 rfl (lv_at hl 0 rfl) ?_
          exact g_reti hx hb hr hlocks hK (nI (min cn (gct P 8 n))) ((0 : Int32), row2) hP hD hS (Nat.zero_le _) (Nat.zero_le _) (Or.inl ⟨rfl, hg, cn, hcn1, hcn2, rfl, fun z => hv0 (glow_one hlv z), rfl, hr2⟩) dX2_pour_101
        · have hv0 : v = 0 := (nI_eq (by omega) (by omega)).mp (show nI v = nI 0 from c3)
          subst hv0
          refine lv_iconst (v := 3) hx hb dX2_pour_37 (by decide) ?_
          refine lv_goto (tgt := 42) hx hb dX2_pour_38 (by decide) ?_
          have hw := gM_si (w := w) (i := i) (j := j) (m0 := m0) (ar := ar) (cI := cI) (sv := (nI n)) (rv := rv) (tv := tv) (row := row) hij (nI n) rv 3
          refine va_put (D := D) (ci := 2) (v := .int 3) (ty := .int) (C := RX2) (T := TX2) (N := 4) hx hb hts i2_pour tyX2 tyX2_ok nmX2 hown hK hP hD hS i (gM_i hi hij) rfl 3 (by decide) f_thrown (fun _ h9 => h9) rfl (by decide +kernel) rfl rfl (Nat.le_of_ble_eq_true rfl) dX2_pour_42 (fun H locs hP2 hD2 hS => ?_)
          have hP := g_eqP hw hP2
          have hD := g_eqD hw hD2
          refine lv_iconst (v := 0) hx hb dX2_pour_45 (by decide) ?_
          refine lv_istore_n (lv' := [(3, .int 0), (0, .ref m0), (1, .int v0), (2, .int (nI cn))]) hx hb dX2_pour_46 rfl hl (by decide) rfl (fun ls hl => ?_)
          refine lv_iconst (v := 1) hx hb dX2_pour_47 (by decide) ?_
          refine lv_istore (lv' := [(4, .int 1), (3, .int 0), (0, .ref m0), (1, .int v0), (2, .int (nI cn))]) hx hb dX2_pour_48 hl (by decide) rfl (fun ls hl => ?_)
          refine lv_iload hx hb dX2_pour_50 (lv_at hl 0 rfl) ?_
          refine lv_aload_n hx hb dX2_pour_52 rfl (lv_at hl 2 rfl) ?_
          refine va_get (D := D) (ci := 2) (v := .int (nI n)) (C := RX2) (T := TX2) (N := 4) hx hb hts i2_pour hown hK hP i (gM_i hi hij) rfl 1 (by decide) f_size (fun _ h9 => h9) rfl dX2_pour_53 ?_
          refine lv_icmp_gt (tgt := 100) hx hb dX2_pour_56 (by decide) (fun c9 => absurd c9 (nI_nlt (a := n) (b := 1) hn1 (by omega))) (fun _ => ?_)
          refine lv_aload_n hx hb dX2_pour_59 rfl (lv_at hl 2 rfl) ?_
          refine va_get (D := D) (ci := 2) (v := .int 3) (C := RX2) (T := TX2) (N := 4) hx hb hts i2_pour hown hK hP i (gM_i hi hij) rfl 3 (by decide) f_thrown (fun _ h9 => h9) rfl dX2_pour_60 ?_
          refine lv_if_ne (tgt := 100) hx hb dX2_pour_63 (by decide) (fun _ => ?_) (fun c9 => absurd c9 (by decide))
          refine lv_iload_n hx hb dX2_pour_100 rfl (lv_at hl 1 rfl) ?_
          exact g_reti hx hb hr hlocks hK (0) ((3 : Int32), row) hP hD hS (Nat.zero_le _) (Nat.zero_le _) (Or.inr (Or.inr (Or.inr ⟨rfl, hg, ⟨cn, hcn1, hcn2, rfl⟩, hlv, rfl⟩))) dX2_pour_101
      · have hno : ¬ gCnt v1 := fun ⟨q, h1, h3, h2⟩ => c2 (by rw [h2]; exact (show nI q ≤ nI 200 from nI_le h3 (by omega)))
        refine lv_iconst (v := 2) hx hb dX2_pour_24 (by decide) ?_
        refine lv_goto (tgt := 42) hx hb dX2_pour_25 (by decide) ?_
        have hw := gM_si (w := w) (i := i) (j := j) (m0 := m0) (ar := ar) (cI := cI) (sv := (nI n)) (rv := rv) (tv := tv) (row := row) hij (nI n) rv 2
        refine va_put (D := D) (ci := 2) (v := .int 2) (ty := .int) (C := RX2) (T := TX2) (N := 4) hx hb hts i2_pour tyX2 tyX2_ok nmX2 hown hK hP hD hS i (gM_i hi hij) rfl 3 (by decide) f_thrown (fun _ h9 => h9) rfl (by decide +kernel) rfl rfl (Nat.le_of_ble_eq_true rfl) dX2_pour_42 (fun H locs hP2 hD2 hS => ?_)
        have hP := g_eqP hw hP2
        have hD := g_eqD hw hD2
        refine lv_iconst (v := 0) hx hb dX2_pour_45 (by decide) ?_
        refine lv_istore_n (lv' := [(3, .int 0), (0, .ref m0), (1, .int v0), (2, .int v1)]) hx hb dX2_pour_46 rfl hl (by decide) rfl (fun ls hl => ?_)
        refine lv_iconst (v := 1) hx hb dX2_pour_47 (by decide) ?_
        refine lv_istore (lv' := [(4, .int 1), (3, .int 0), (0, .ref m0), (1, .int v0), (2, .int v1)]) hx hb dX2_pour_48 hl (by decide) rfl (fun ls hl => ?_)
        refine lv_iload hx hb dX2_pour_50 (lv_at hl 0 rfl) ?_
        refine lv_aload_n hx hb dX2_pour_52 rfl (lv_at hl 2 rfl) ?_
        refine va_get (D := D) (ci := 2) (v := .int (nI n)) (C := RX2) (T := TX2) (N := 4) hx hb hts i2_pour hown hK hP i (gM_i hi hij) rfl 1 (by decide) f_size (fun _ h9 => h9) rfl dX2_pour_53 ?_
        refine lv_icmp_gt (tgt := 100) hx hb dX2_pour_56 (by decide) (fun c9 => absurd c9 (nI_nlt (a := n) (b := 1) hn1 (by omega))) (fun _ => ?_)
        refine lv_aload_n hx hb dX2_pour_59 rfl (lv_at hl 2 rfl) ?_
        refine va_get (D := D) (ci := 2) (v := .int 2) (C := RX2) (T := TX2) (N := 4) hx hb hts i2_pour hown hK hP i (gM_i hi hij) rfl 3 (by decide) f_thrown (fun _ h9 => h9) rfl dX2_pour_60 ?_
        refine lv_if_ne (tgt := 100) hx hb dX2_pour_63 (by decide) (fun _ => ?_) (fun c9 => absurd c9 (by decide))
        refine lv_iload_n hx hb dX2_pour_100 rfl (lv_at hl 1 rfl) ?_
        exact g_reti hx hb hr hlocks hK (0) ((2 : Int32), row) hP hD hS (Nat.zero_le _) (Nat.zero_le _) (Or.inr (Or.inr (Or.inl ⟨rfl, hg, hno, rfl⟩))) dX2_pour_101
  · skip
    refine lv_if_ne (tgt := 12) hx hb dX2_pour_5 (by decide) (fun c9 => absurd rfl c9) (fun _ => ?_)
    refine lv_iconst (v := 1) hx hb dX2_pour_8 (by decide) ?_
    refine lv_goto (tgt := 42) hx hb dX2_pour_9 (by decide) ?_
    have hw := gM_si (w := w) (i := i) (j := j) (m0 := m0) (ar := ar) (cI := cI) (sv := (nI n)) (rv := rv) (tv := tv) (row := row) hij (nI n) rv 1
    refine va_put (D := D) (ci := 2) (v := .int 1) (ty := .int) (C := RX2) (T := TX2) (N := 4) hx hb hts i2_pour tyX2 tyX2_ok nmX2 hown hK hP hD hS i (gM_i hi hij) rfl 3 (by decide) f_thrown (fun _ h9 => h9) rfl (by decide +kernel) rfl rfl (Nat.le_of_ble_eq_true rfl) dX2_pour_42 (fun H locs hP2 hD2 hS => ?_)
    have hP := g_eqP hw hP2
    have hD := g_eqD hw hD2
    refine lv_iconst (v := 0) hx hb dX2_pour_45 (by decide) ?_
    refine lv_istore_n (lv' := [(3, .int 0), (0, .ref m0), (1, .int v0), (2, .int v1)]) hx hb dX2_pour_46 rfl hl (by decide) rfl (fun ls hl => ?_)
    refine lv_iconst (v := 1) hx hb dX2_pour_47 (by decide) ?_
    refine lv_istore (lv' := [(4, .int 1), (3, .int 0), (0, .ref m0), (1, .int v0), (2, .int v1)]) hx hb dX2_pour_48 hl (by decide) rfl (fun ls hl => ?_)
    refine lv_iload hx hb dX2_pour_50 (lv_at hl 0 rfl) ?_
    refine lv_aload_n hx hb dX2_pour_52 rfl (lv_at hl 2 rfl) ?_
    refine va_get (D := D) (ci := 2) (v := .int (nI n)) (C := RX2) (T := TX2) (N := 4) hx hb hts i2_pour hown hK hP i (gM_i hi hij) rfl 1 (by decide) f_size (fun _ h9 => h9) rfl dX2_pour_53 ?_
    refine lv_icmp_gt (tgt := 100) hx hb dX2_pour_56 (by decide) (fun c9 => absurd c9 (nI_nlt (a := n) (b := 1) hn1 (by omega))) (fun _ => ?_)
    refine lv_aload_n hx hb dX2_pour_59 rfl (lv_at hl 2 rfl) ?_
    refine va_get (D := D) (ci := 2) (v := .int 1) (C := RX2) (T := TX2) (N := 4) hx hb hts i2_pour hown hK hP i (gM_i hi hij) rfl 3 (by decide) f_thrown (fun _ h9 => h9) rfl dX2_pour_60 ?_
    refine lv_if_ne (tgt := 100) hx hb dX2_pour_63 (by decide) (fun _ => ?_) (fun c9 => absurd c9 (by decide))
    refine lv_iload_n hx hb dX2_pour_100 rfl (lv_at hl 1 rfl) ?_
    exact g_reti hx hb hr hlocks hK (0) ((1 : Int32), row) hP hD hS (Nat.zero_le _) (Nat.zero_le _) (Or.inr (Or.inl ⟨rfl, hg, rfl⟩)) dX2_pour_101
set_option maxHeartbeats 4000000 in
set_option maxRecDepth 100000 in
/-- share: its loop -/
theorem share_loop {p : Program} {l : Launch} {e : Env} {s : State} {m : MethodId} {args : Array Value} {below : List Frame} {meth : Method} {c : Code} {Q : State → Prop} {D : va_G} {tys : List (ClassId × FieldType)} {cI : ClassId} {t : Nat} (ht : tys[t]? = some (cI, .int)) {w w0 : va_W} {i j : Nat} (hi : i < w.length) (hj : j < w.length) (hij : i ≠ j) {m0 ar : Nat} {rv tv : Int32} {row0 : Nat → Int32} {P : Nat → Int32} {n : Nat} (hn : n ≤ 5000) {v0 v1 : Int32} {cn : Nat} (hcn : 1 ≤ cn ∧ cn ≤ 200) (hx : p.tables.exec = Jvm.exec) (hb : c.code = cX2_share) (hml : c.maxLocals = 6) (hts : ∀ w ∈ wsX2_share, w.before args s = true) (hown : s.vm.findClass RX2 = some m.cls) (hK : va_K D vwCl tys s) (hA : ∀ q : Nat, s.heap.size ≤ q → va_A w0 s.heap.size q) :
    ∀ (f k : Nat) (acc : Nat) (row : Nat → Int32) (H : Heap) (locs : List Loc) (ls : Array Slot), k < f → k ≤ n → acc = min cn (gct P v0 n - gct P v0 k) → (∀ q, k < q → q ≤ n → row q = gmv P v0 v1 (gct P v0 n - cn) cn q) → (∀ q, 1 ≤ q → q ≤ k → row q = P q) → va_P D vwCl (wM w i j m0 ar cI (nI n) rv 0 row) H → va_D (va_A w0 s.heap.size) (wM w i j m0 ar cI (nI n) rv 0 row) → va_S (va_A w0 s.heap.size) s.heap H locs → lv_has ls 6 [(0, .ref m0), (1, .int v0), (2, .int v1), (3, .int (nI cn)), (4, .int (nI acc)), (5, .int (nI k))] →
    (∀ (row : Nat → Int32) (H : Heap) (locs : List Loc) (ls : Array Slot), gRow (gmv P v0 v1 (gct P v0 n - cn) cn) n row → va_P D vwCl (wM w i j m0 ar cI (nI n) rv 0 row) H → va_D (va_A w0 s.heap.size) (wM w i j m0 ar cI (nI n) rv 0 row) → va_S (va_A w0 s.heap.size) s.heap H locs → lv_has ls 6 [(4, .int (nI (min cn (gct P v0 n))))] → W p l e ({ frames := 1, cells := 0, slots := 0, locals := 20 } : Room) s m args below meth c H locs 0 0 Q (F0 m 100 ls [])) →
    W p l e ({ frames := 1, cells := 0, slots := 0, locals := 20 } : Room) s m args below meth c H locs 0 0 Q (F0 m 53 ls []) := by
  have f_place := hts (.fieldLink RX2 7 "NumberGobletsModel" "place" "[I") (by decide +kernel)
  have f_size := hts (.fieldLink RX2 13 "NumberGobletsModel" "size" "I") (by decide +kernel)
  have f_thrown := hts (.fieldLink RX2 20 "NumberGobletsModel" "thrown" "I") (by decide +kernel)
  intro f
  induction f with
  | zero => intro k acc row H locs ls hf; exact absurd hf (Nat.not_lt_zero _)
  | succ f ih =>
    intro k acc row H locs ls hf hk2 hacc hhi hlo hP hD hS hl hend
    have hm := gct_mono' P v0 (m := k) (n := n) hk2
    have hle := gct_le P v0 n
    refine lv_iload hx hb dX2_share_53 (lv_at hl 5 rfl) ?_
    refine lv_iconst (v := 1) hx hb dX2_share_55 (by decide) ?_
    refine lv_icmp_lt (tgt := 100) hx hb dX2_share_56 (by decide) (fun c1 => ?_) (fun c1 => ?_)
    · have hk0 : k = 0 := by rcases Nat.eq_zero_or_pos k with z | z; exact z; exact absurd c1 (nI_nlt (a := k) (b := 1) z (by omega))
      subst hk0
      have hacc2 : acc = min cn (gct P v0 n) := by rw [hacc]; rfl
      rw [hacc2] at hl
      exact hend row H locs ls (fun q h1 h2 => hhi q (by omega) h2) hP hD hS (lv_sub hl [4] rfl)
    · have hk1 : 1 ≤ k := by rcases Nat.eq_zero_or_pos k with z | z; exact absurd (by rw [z]; decide) c1; exact z
      refine lv_aload_n hx hb dX2_share_59 rfl (lv_at hl 0 rfl) ?_
      refine va_get (D := D) (ci := 2) (v := .int 0) (C := RX2) (T := TX2) (N := 4) hx hb hts i2_share hown hK hP i (gM_i hi hij) rfl 3 (by decide) f_thrown (fun _ h9 => h9) rfl dX2_share_60 ?_
      refine lv_if_ne (tgt := 100) hx hb dX2_share_63 (by decide) (fun c9 => absurd rfl c9) (fun _ => ?_)
      refine lv_iload hx hb dX2_share_66 (lv_at hl 4 rfl) ?_
      refine lv_iload_n hx hb dX2_share_68 rfl (lv_at hl 3 rfl) ?_
      refine lv_icmp_ge (tgt := 100) hx hb dX2_share_69 (by decide) (fun c2 => ?_) (fun c2 => ?_)
      · have hfull : cn ≤ acc := by rcases Nat.lt_or_ge acc cn with z | z; exact absurd c2 (nI_ge z (by omega)); exact z
        have hacc2 : acc = min cn (gct P v0 n) := by omega
        rw [hacc2] at hl
        refine hend row H locs ls (fun q h1 h2 => ?_) hP hD hS (lv_sub hl [4] rfl)
        by_cases z : k < q
        · exact hhi q z h2
        · have := gct_mono' P v0 (m := q) (n := k) (by omega); rw [hlo q h1 (by omega), gmv_out (Or.inr (Or.inl (by omega)))]
      · have hfree : acc < cn := by rcases Nat.lt_or_ge acc cn with z | z; exact z; exact absurd (nI_le z (by omega)) c2
        refine lv_aload_n hx hb dX2_share_72 rfl (lv_at hl 0 rfl) ?_
        refine va_get (D := D) (ci := 2) (v := .ref ar) (C := RX2) (T := TX2) (N := 4) hx hb hts i2_share hown hK hP i (gM_i hi hij) rfl 0 (by decide) f_place (fun _ h9 => h9) rfl dX2_share_73 ?_
        refine lv_iload hx hb dX2_share_76 (lv_at hl 5 rfl) ?_
        refine va_iald hx hb hK hP j t (gM_j hj) ht (vp_in_nI (n := k) (by omega) (by omega)) dX2_share_78 ?_
        refine g_top (y := P k) (by rw [nI_clamp (by omega)]; exact hlo k hk1 (Nat.le_refl _)) ?_
        refine lv_iload_n hx hb dX2_share_79 rfl (lv_at hl 1 rfl) ?_
        refine lv_icmp_ne (tgt := 94) hx hb dX2_share_80 (by decide) (fun c3 => ?_) (fun c3 => ?_)
        · have h9 : gct P v0 k = gct P v0 (k - 1) := gct_past (by omega) (fun q h1 h2 => by rw [show q = k by omega]; exact c3)
          refine lv_iinc (v := nI (k - 1)) (lv' := [(5, .int (nI (k - 1))), (0, .ref m0), (1, .int v0), (2, .int v1), (3, .int (nI cn)), (4, .int (nI acc))]) hx hb dX2_share_94 hl (k := 5) rfl (by rw [show k = k - 1 + 1 by omega, Nat.add_sub_cancel]; exact pk_m1 _) (by decide) rfl (fun ls hl => ?_)
          refine lv_goto (tgt := 53) hx hb dX2_share_97 (by decide) ?_
          exact ih (k - 1) acc row H locs ls (by omega) (by omega) (by rw [← h9]; exact hacc) (fun q h1 h2 => by by_cases z : k < q; exact hhi q z h2; rw [show q = k by omega, gmv_out (Or.inl c3)]; exact hlo k hk1 (Nat.le_refl _)) (fun q h1 h2 => hlo q h1 (by omega)) hP hD hS (lv_sub hl [1, 2, 3, 4, 5, 0] rfl) hend
        · have h9 : gct P v0 k = gct P v0 (k - 1) + 1 := by have := gct_to (P := P) (p := v0) (k := k) (m := k) hk1 (Nat.le_refl _) (fun q h1 h2 => by rw [show q = k by omega]; exact c3); omega
          refine lv_aload_n hx hb dX2_share_83 rfl (lv_at hl 0 rfl) ?_
          refine va_get (D := D) (ci := 2) (v := .ref ar) (C := RX2) (T := TX2) (N := 4) hx hb hts i2_share hown hK hP i (gM_i hi hij) rfl 0 (by decide) f_place (fun _ h9 => h9) rfl dX2_share_84 ?_
          refine lv_iload hx hb dX2_share_87 (lv_at hl 5 rfl) ?_
          refine lv_iload_n hx hb dX2_share_89 rfl (lv_at hl 2 rfl) ?_
          refine va_iast hx hb hK hP hD hS j t (gM_j hj) ht (vp_in_nI (n := k) (by omega) (by omega)) dX2_share_90 (fun H locs hP2 hD2 hS => ?_)
          rw [nI_clamp (by omega)] at hP2 hD2
          have hw := gM_sj (w := w) (i := i) (j := j) (m0 := m0) (ar := ar) (cI := cI) (sv := (nI n)) (rv := rv) (tv := 0) (row := row) (upd row k v1)
          have hP := g_eqP hw hP2
          have hD := g_eqD hw hD2
          refine lv_iinc (v := nI (acc + 1)) (lv' := [(4, .int (nI (acc + 1))), (0, .ref m0), (1, .int v0), (2, .int v1), (3, .int (nI cn)), (5, .int (nI k))]) hx hb dX2_share_91 hl (k := 4) rfl (by rw [← nI_1]; rfl) (by decide) rfl (fun ls hl => ?_)
          refine lv_iinc (v := nI (k - 1)) (lv' := [(5, .int (nI (k - 1))), (4, .int (nI (acc + 1))), (0, .ref m0), (1, .int v0), (2, .int v1), (3, .int (nI cn))]) hx hb dX2_share_94 hl (k := 5) rfl (by rw [show k = k - 1 + 1 by omega, Nat.add_sub_cancel]; exact pk_m1 _) (by decide) rfl (fun ls hl => ?_)
          refine lv_goto (tgt := 53) hx hb dX2_share_97 (by decide) ?_
          refine ih (k - 1) (acc + 1) (upd row k v1) H locs ls (by omega) (by omega) (by omega) (fun q h1 h2 => ?_) (fun q h1 h2 => ?_) hP hD hS (lv_sub hl [2, 3, 4, 5, 1, 0] rfl) hend
          · by_cases z : q = k
            · subst z; rw [pk_us, gmv_in c3 (by omega) (by omega)]
            · rw [pk_un z]; exact hhi q (by omega) h2
          · rw [pk_un (by omega)]; exact hlo q h1 (by omega)
set_option maxHeartbeats 4000000 in
set_option maxRecDepth 100000 in
/-- share(from, to, count) -/
theorem m_share (l : Launch) (D : va_G) (tys : List (ClassId × FieldType)) {cI : ClassId} {t : Nat} (ht : tys[t]? = some (cI, .int)) {w : va_W} {i j : Nat} (hi : i < w.length) (hj : j < w.length) (hij : i ≠ j) {m0 ar : Nat} {rv tv : Int32} {row : Nat → Int32} {P : Nat → Int32} {n : Nat} (hn : n ≤ 5000) (hrow : gRow P n row) (sz : Nat) (hn1 : 1 ≤ n) (v0 v1 v2 : Int32) : Met l yX2_share wsX2_share ({ frames := 1, cells := 0, slots := 0, locals := 20 } : Room) (gP D tys [.ref m0, .int v0, .int v1, .int v2] (wM w i j m0 ar cI (nI n) rv tv row) sz (fun _ => True)) (va_Qi (fun (r : Int32) (u : Int32 × (Nat → Int32)) => (u.1 = 0 ∧ gGob v0 ∧ gGob v1 ∧ ¬ v0 = v1 ∧ ∃ cn : Nat, 1 ≤ cn ∧ cn ≤ 200 ∧ v2 = nI cn ∧ r = nI (min cn (gct P v0 n)) ∧ gRow (gmv P v0 v1 (gct P v0 n - cn) cn) n u.2) ∨ (u.1 = 1 ∧ ¬ (gGob v0 ∧ gGob v1) ∧ u.2 = row) ∨ (u.1 = 2 ∧ gGob v0 ∧ gGob v1 ∧ (v0 = v1 ∨ ¬ gCnt v2) ∧ u.2 = row)) (fun u t => gWd D tys (va_A (wM w i j m0 ar cI (nI n) rv tv row) sz) (wM w i j m0 ar cI (nI n) rv u.1 u.2) t) (va_A (wM w i j m0 ar cI (nI n) rv tv row) sz)) 0 0 (va_A (wM w i j m0 ar cI (nI n) rv tv row) sz) := by
  refine g_ofW (cc := cX2_share) (maxL := 6) (ret := some .int) (by decide) rfl (Nat.le_of_ble_eq_true rfl) ?_
  intro p e s m below meth c hx hb hr hml hts hown hlocks hin hsz hP hK hD hA hS hG ls hl
  subst hsz
  have hown : s.vm.findClass RX2 = some m.cls := hown
  have hl : lv_has ls 6 [(0, .ref m0), (1, .int v0), (2, .int v1), (3, .int v2)] := hl
  have f_thrown := hts (.fieldLink RX2 20 "NumberGobletsModel" "thrown" "I") (by decide +kernel)
  have f_size := hts (.fieldLink RX2 13 "NumberGobletsModel" "size" "I") (by decide +kernel)
  refine lv_aload_n hx hb dX2_share_0 rfl (lv_at hl 0 rfl) ?_
  refine lv_iload_n hx hb dX2_share_1 rfl (lv_at hl 1 rfl) ?_
  refine g_calli (va_runS (As := [.int v0]) (rest := [.ref m0]) ⟨hx, hb, hml, hown, hts⟩ (m_isGoblet l D tys (wM w i j m0 ar cI (nI n) rv tv row) s.heap.size v0) (va_cwS 1 hts gX2_share_X2_isGoblet rfl rfl rfl (by decide +kernel) ⟨Nat.le_of_ble_eq_true rfl, Nat.le_of_ble_eq_true rfl⟩) (gP_S hP hK hD gBl_T (fun _ _ _ => trivial)) rfl rfl hl.1 rfl (lv_room (Nat.le_of_ble_eq_true rfl)) dX2_share_2 ⟨(Nat.zero_le _), (Nat.zero_le _)⟩) hD hS hA (fun r9 u9 H locs hr9 hP hD hS => ?_)
  rcases hr9 with ⟨rfl, hg⟩ | ⟨rfl, hg⟩
  · skip
    refine lv_if_eq (tgt := 15) hx hb dX2_share_5 (by decide) (fun c9 => absurd c9 (by decide)) (fun _ => ?_)
    refine lv_iload_n hx hb dX2_share_8 rfl (lv_at hl 2 rfl) ?_
    refine g_calli (va_runS (As := [.int v1]) (rest := [.ref m0]) ⟨hx, hb, hml, hown, hts⟩ (m_isGoblet l D tys (wM w i j m0 ar cI (nI n) rv tv row) H.size v1) (va_cwS 1 hts gX2_share_X2_isGoblet rfl rfl rfl (by decide +kernel) ⟨Nat.le_of_ble_eq_true rfl, Nat.le_of_ble_eq_true rfl⟩) (gP_S hP hK hD gBl_T (fun _ _ _ => trivial)) rfl rfl hl.1 rfl (lv_room (Nat.le_of_ble_eq_true rfl)) dX2_share_9 ⟨(Nat.zero_le _), (Nat.zero_le _)⟩) hD hS hA (fun r9 u9 H locs hr9 hP hD hS => ?_)
    rcases hr9 with ⟨rfl, hg2⟩ | ⟨rfl, hg2⟩
    · skip
      refine lv_if_ne (tgt := 19) hx hb dX2_share_12 (by decide) (fun _ => ?_) (fun c9 => absurd c9 (by decide))
      refine lv_iload_n hx hb dX2_share_19 rfl (lv_at hl 1 rfl) ?_
      refine lv_iload_n hx hb dX2_share_20 rfl (lv_at hl 2 rfl) ?_
      refine lv_icmp_eq (tgt := 36) hx hb dX2_share_21 (by decide) (fun c0 => ?_) (fun c0 => ?_)
      · skip
        refine lv_iconst (v := 2) hx hb dX2_share_36 (by decide) ?_
        refine lv_goto (tgt := 41) hx hb dX2_share_37 (by decide) ?_
        have hw := gM_si (w := w) (i := i) (j := j) (m0 := m0) (ar := ar) (cI := cI) (sv := (nI n)) (rv := rv) (tv := tv) (row := row) hij (nI n) rv 2
        refine va_put (D := D) (ci := 2) (v := .int 2) (ty := .int) (C := RX2) (T := TX2) (N := 4) hx hb hts i2_share tyX2 tyX2_ok nmX2 hown hK hP hD hS i (gM_i hi hij) rfl 3 (by decide) f_thrown (fun _ h9 => h9) rfl (by decide +kernel) rfl rfl (Nat.le_of_ble_eq_true rfl) dX2_share_41 (fun H locs hP2 hD2 hS => ?_)
        have hP := g_eqP hw hP2
        have hD := g_eqD hw hD2
        refine lv_iconst (v := 0) hx hb dX2_share_44 (by decide) ?_
        refine lv_istore (lv' := [(4, .int 0), (0, .ref m0), (1, .int v0), (2, .int v1), (3, .int v2)]) hx hb dX2_share_45 hl (by decide) rfl (fun ls hl => ?_)
        refine lv_aload_n hx hb dX2_share_47 rfl (lv_at hl 1 rfl) ?_
        refine va_get (D := D) (ci := 2) (v := .int (nI n)) (C := RX2) (T := TX2) (N := 4) hx hb hts i2_share hown hK hP i (gM_i hi hij) rfl 1 (by decide) f_size (fun _ h9 => h9) rfl dX2_share_48 ?_
        refine lv_istore (lv' := [(5, .int (nI n)), (4, .int 0), (0, .ref m0), (1, .int v0), (2, .int v1), (3, .int v2)]) hx hb dX2_share_51 hl (by decide) rfl (fun ls hl => ?_)
        refine lv_iload hx hb dX2_share_53 (lv_at hl 0 rfl) ?_
        refine lv_iconst (v := 1) hx hb dX2_share_55 (by decide) ?_
        refine lv_icmp_lt (tgt := 100) hx hb dX2_share_56 (by decide) (fun c9 => absurd c9 (nI_nlt (a := n) (b := 1) hn1 (by omega))) (fun _ => ?_)
        refine lv_aload_n hx hb dX2_share_59 rfl (lv_at hl 2 rfl) ?_
        refine va_get (D := D) (ci := 2) (v := .int 2) (C := RX2) (T := TX2) (N := 4) hx hb hts i2_share hown hK hP i (gM_i hi hij) rfl 3 (by decide) f_thrown (fun _ h9 => h9) rfl dX2_share_60 ?_
        refine lv_if_ne (tgt := 100) hx hb dX2_share_63 (by decide) (fun _ => ?_) (fun c9 => absurd c9 (by decide))
        refine lv_iload hx hb dX2_share_100 (lv_at hl 1 rfl) ?_
        exact g_reti hx hb hr hlocks hK (0) ((2 : Int32), row) hP hD hS (Nat.zero_le _) (Nat.zero_le _) (Or.inr (Or.inr ⟨rfl, hg, hg2, Or.inl c0, rfl⟩)) dX2_share_102
      · skip
        refine lv_iload_n hx hb dX2_share_24 rfl (lv_at hl 3 rfl) ?_
        refine lv_iconst (v := 1) hx hb dX2_share_25 (by decide) ?_
        refine lv_icmp_lt (tgt := 36) hx hb dX2_share_26 (by decide) (fun c1 => ?_) (fun c1 => ?_)
        · have hno : ¬ gCnt v2 := fun ⟨q, h1, h3, h2⟩ => by rw [h2] at c1; exact nI_nlt (a := q) (b := 1) h1 (by omega) c1
          refine lv_iconst (v := 2) hx hb dX2_share_36 (by decide) ?_
          refine lv_goto (tgt := 41) hx hb dX2_share_37 (by decide) ?_
          have hw := gM_si (w := w) (i := i) (j := j) (m0 := m0) (ar := ar) (cI := cI) (sv := (nI n)) (rv := rv) (tv := tv) (row := row) hij (nI n) rv 2
          refine va_put (D := D) (ci := 2) (v := .int 2) (ty := .int) (C := RX2) (T := TX2) (N := 4) hx hb hts i2_share tyX2 tyX2_ok nmX2 hown hK hP hD hS i (gM_i hi hij) rfl 3 (by decide) f_thrown (fun _ h9 => h9) rfl (by decide +kernel) rfl rfl (Nat.le_of_ble_eq_true rfl) dX2_share_41 (fun H locs hP2 hD2 hS => ?_)
          have hP := g_eqP hw hP2
          have hD := g_eqD hw hD2
          refine lv_iconst (v := 0) hx hb dX2_share_44 (by decide) ?_
          refine lv_istore (lv' := [(4, .int 0), (0, .ref m0), (1, .int v0), (2, .int v1), (3, .int v2)]) hx hb dX2_share_45 hl (by decide) rfl (fun ls hl => ?_)
          refine lv_aload_n hx hb dX2_share_47 rfl (lv_at hl 1 rfl) ?_
          refine va_get (D := D) (ci := 2) (v := .int (nI n)) (C := RX2) (T := TX2) (N := 4) hx hb hts i2_share hown hK hP i (gM_i hi hij) rfl 1 (by decide) f_size (fun _ h9 => h9) rfl dX2_share_48 ?_
          refine lv_istore (lv' := [(5, .int (nI n)), (4, .int 0), (0, .ref m0), (1, .int v0), (2, .int v1), (3, .int v2)]) hx hb dX2_share_51 hl (by decide) rfl (fun ls hl => ?_)
          refine lv_iload hx hb dX2_share_53 (lv_at hl 0 rfl) ?_
          refine lv_iconst (v := 1) hx hb dX2_share_55 (by decide) ?_
          refine lv_icmp_lt (tgt := 100) hx hb dX2_share_56 (by decide) (fun c9 => absurd c9 (nI_nlt (a := n) (b := 1) hn1 (by omega))) (fun _ => ?_)
          refine lv_aload_n hx hb dX2_share_59 rfl (lv_at hl 2 rfl) ?_
          refine va_get (D := D) (ci := 2) (v := .int 2) (C := RX2) (T := TX2) (N := 4) hx hb hts i2_share hown hK hP i (gM_i hi hij) rfl 3 (by decide) f_thrown (fun _ h9 => h9) rfl dX2_share_60 ?_
          refine lv_if_ne (tgt := 100) hx hb dX2_share_63 (by decide) (fun _ => ?_) (fun c9 => absurd c9 (by decide))
          refine lv_iload hx hb dX2_share_100 (lv_at hl 1 rfl) ?_
          exact g_reti hx hb hr hlocks hK (0) ((2 : Int32), row) hP hD hS (Nat.zero_le _) (Nat.zero_le _) (Or.inr (Or.inr ⟨rfl, hg, hg2, Or.inr hno, rfl⟩)) dX2_share_102
        · skip
          refine lv_iload_n hx hb dX2_share_29 rfl (lv_at hl 3 rfl) ?_
          refine lv_sipush (v := 200) hx hb dX2_share_30 (by decide) ?_
          refine lv_icmp_le (tgt := 40) hx hb dX2_share_33 (by decide) (fun c2 => ?_) (fun c2 => ?_)
          · obtain ⟨cn, hcn1, hcn2, rfl⟩ : gCnt v2 := by
              have h1 : ¬ v2 < 0 := fun q => c1 (by rw [Int32.lt_iff_toInt_lt] at q ⊢; have z0 : (0 : Int32).toInt = 0 := rfl; have z1 : (1 : Int32).toInt = 1 := rfl; omega)
              obtain ⟨j, hj, rfl⟩ := nI_of h1
              refine ⟨j, ?_, (nI_leI hj (by omega)).mp c2, rfl⟩
              rcases Nat.eq_zero_or_pos j with z | z
              · subst z; exact absurd (show nI 0 < 1 by decide) c1
              · exact z
            refine lv_iconst (v := 0) hx hb dX2_share_40 (by decide) ?_
            have hw := gM_si (w := w) (i := i) (j := j) (m0 := m0) (ar := ar) (cI := cI) (sv := (nI n)) (rv := rv) (tv := tv) (row := row) hij (nI n) rv 0
            refine va_put (D := D) (ci := 2) (v := .int 0) (ty := .int) (C := RX2) (T := TX2) (N := 4) hx hb hts i2_share tyX2 tyX2_ok nmX2 hown hK hP hD hS i (gM_i hi hij) rfl 3 (by decide) f_thrown (fun _ h9 => h9) rfl (by decide +kernel) rfl rfl (Nat.le_of_ble_eq_true rfl) dX2_share_41 (fun H locs hP2 hD2 hS => ?_)
            have hP := g_eqP hw hP2
            have hD := g_eqD hw hD2
            refine lv_iconst (v := 0) hx hb dX2_share_44 (by decide) ?_
            refine lv_istore (lv' := [(4, .int 0), (0, .ref m0), (1, .int v0), (2, .int v1), (3, .int (nI cn))]) hx hb dX2_share_45 hl (by decide) rfl (fun ls hl => ?_)
            refine lv_aload_n hx hb dX2_share_47 rfl (lv_at hl 1 rfl) ?_
            refine va_get (D := D) (ci := 2) (v := .int (nI n)) (C := RX2) (T := TX2) (N := 4) hx hb hts i2_share hown hK hP i (gM_i hi hij) rfl 1 (by decide) f_size (fun _ h9 => h9) rfl dX2_share_48 ?_
            refine lv_istore (lv' := [(5, .int (nI n)), (4, .int 0), (0, .ref m0), (1, .int v0), (2, .int v1), (3, .int (nI cn))]) hx hb dX2_share_51 hl (by decide) rfl (fun ls hl => ?_)
            refine share_loop (P := P) (row0 := row) (tv := tv) ht hi hj hij hn ⟨hcn1, hcn2⟩ hx hb hml hts hown hK hA (n + 2) n 0 row _ _ ls (by omega) (Nat.le_refl _) (by omega) (fun q h1 h2 => absurd h2 (by omega)) (fun q h1 h2 => hrow q h1 h2) hP hD hS (lv_sub hl [2, 3, 4, 5, 1, 0] rfl) (fun row2 H locs ls hr2 hP hD hS hl => ?_)
            refine lv_iload hx hb dX2_share_100 (lv_at hl 0 rfl) ?_
            exact g_reti hx hb hr hlocks hK (nI (min cn (gct P v0 n))) ((0 : Int32), row2) hP hD hS (Nat.zero_le _) (Nat.zero_le _) (Or.inl ⟨rfl, hg, hg2, c0, cn, hcn1, hcn2, rfl, rfl, hr2⟩) dX2_share_102
          · have hno : ¬ gCnt v2 := fun ⟨q, h1, h3, h2⟩ => c2 (by rw [h2]; exact (show nI q ≤ nI 200 from nI_le h3 (by omega)))
            refine lv_iconst (v := 2) hx hb dX2_share_36 (by decide) ?_
            refine lv_goto (tgt := 41) hx hb dX2_share_37 (by decide) ?_
            have hw := gM_si (w := w) (i := i) (j := j) (m0 := m0) (ar := ar) (cI := cI) (sv := (nI n)) (rv := rv) (tv := tv) (row := row) hij (nI n) rv 2
            refine va_put (D := D) (ci := 2) (v := .int 2) (ty := .int) (C := RX2) (T := TX2) (N := 4) hx hb hts i2_share tyX2 tyX2_ok nmX2 hown hK hP hD hS i (gM_i hi hij) rfl 3 (by decide) f_thrown (fun _ h9 => h9) rfl (by decide +kernel) rfl rfl (Nat.le_of_ble_eq_true rfl) dX2_share_41 (fun H locs hP2 hD2 hS => ?_)
            have hP := g_eqP hw hP2
            have hD := g_eqD hw hD2
            refine lv_iconst (v := 0) hx hb dX2_share_44 (by decide) ?_
            refine lv_istore (lv' := [(4, .int 0), (0, .ref m0), (1, .int v0), (2, .int v1), (3, .int v2)]) hx hb dX2_share_45 hl (by decide) rfl (fun ls hl => ?_)
            refine lv_aload_n hx hb dX2_share_47 rfl (lv_at hl 1 rfl) ?_
            refine va_get (D := D) (ci := 2) (v := .int (nI n)) (C := RX2) (T := TX2) (N := 4) hx hb hts i2_share hown hK hP i (gM_i hi hij) rfl 1 (by decide) f_size (fun _ h9 => h9) rfl dX2_share_48 ?_
            refine lv_istore (lv' := [(5, .int (nI n)), (4, .int 0), (0, .ref m0), (1, .int v0), (2, .int v1), (3, .int v2)]) hx hb dX2_share_51 hl (by decide) rfl (fun ls hl => ?_)
            refine lv_iload hx hb dX2_share_53 (lv_at hl 0 rfl) ?_
            refine lv_iconst (v := 1) hx hb dX2_share_55 (by decide) ?_
            refine lv_icmp_lt (tgt := 100) hx hb dX2_share_56 (by decide) (fun c9 => absurd c9 (nI_nlt (a := n) (b := 1) hn1 (by omega))) (fun _ => ?_)
            refine lv_aload_n hx hb dX2_share_59 rfl (lv_at hl 2 rfl) ?_
            refine va_get (D := D) (ci := 2) (v := .int 2) (C := RX2) (T := TX2) (N := 4) hx hb hts i2_share hown hK hP i (gM_i hi hij) rfl 3 (by decide) f_thrown (fun _ h9 => h9) rfl dX2_share_60 ?_
            refine lv_if_ne (tgt := 100) hx hb dX2_share_63 (by decide) (fun _ => ?_) (fun c9 => absurd c9 (by decide))
            refine lv_iload hx hb dX2_share_100 (lv_at hl 1 rfl) ?_
            exact g_reti hx hb hr hlocks hK (0) ((2 : Int32), row) hP hD hS (Nat.zero_le _) (Nat.zero_le _) (Or.inr (Or.inr ⟨rfl, hg, hg2, Or.inr hno, rfl⟩)) dX2_share_102
    · skip
      refine lv_if_ne (tgt := 19) hx hb dX2_share_12 (by decide) (fun c9 => absurd rfl c9) (fun _ => ?_)
      refine lv_iconst (v := 1) hx hb dX2_share_15 (by decide) ?_
      refine lv_goto (tgt := 41) hx hb dX2_share_16 (by decide) ?_
      have hw := gM_si (w := w) (i := i) (j := j) (m0 := m0) (ar := ar) (cI := cI) (sv := (nI n)) (rv := rv) (tv := tv) (row := row) hij (nI n) rv 1
      refine va_put (D := D) (ci := 2) (v := .int 1) (ty := .int) (C := RX2) (T := TX2) (N := 4) hx hb hts i2_share tyX2 tyX2_ok nmX2 hown hK hP hD hS i (gM_i hi hij) rfl 3 (by decide) f_thrown (fun _ h9 => h9) rfl (by decide +kernel) rfl rfl (Nat.le_of_ble_eq_true rfl) dX2_share_41 (fun H locs hP2 hD2 hS => ?_)
      have hP := g_eqP hw hP2
      have hD := g_eqD hw hD2
      refine lv_iconst (v := 0) hx hb dX2_share_44 (by decide) ?_
      refine lv_istore (lv' := [(4, .int 0), (0, .ref m0), (1, .int v0), (2, .int v1), (3, .int v2)]) hx hb dX2_share_45 hl (by decide) rfl (fun ls hl => ?_)
      refine lv_aload_n hx hb dX2_share_47 rfl (lv_at hl 1 rfl) ?_
      refine va_get (D := D) (ci := 2) (v := .int (nI n)) (C := RX2) (T := TX2) (N := 4) hx hb hts i2_share hown hK hP i (gM_i hi hij) rfl 1 (by decide) f_size (fun _ h9 => h9) rfl dX2_share_48 ?_
      refine lv_istore (lv' := [(5, .int (nI n)), (4, .int 0), (0, .ref m0), (1, .int v0), (2, .int v1), (3, .int v2)]) hx hb dX2_share_51 hl (by decide) rfl (fun ls hl => ?_)
      refine lv_iload hx hb dX2_share_53 (lv_at hl 0 rfl) ?_
      refine lv_iconst (v := 1) hx hb dX2_share_55 (by decide) ?_
      refine lv_icmp_lt (tgt := 100) hx hb dX2_share_56 (by decide) (fun c9 => absurd c9 (nI_nlt (a := n) (b := 1) hn1 (by omega))) (fun _ => ?_)
      refine lv_aload_n hx hb dX2_share_59 rfl (lv_at hl 2 rfl) ?_
      refine va_get (D := D) (ci := 2) (v := .int 1) (C := RX2) (T := TX2) (N := 4) hx hb hts i2_share hown hK hP i (gM_i hi hij) rfl 3 (by decide) f_thrown (fun _ h9 => h9) rfl dX2_share_60 ?_
      refine lv_if_ne (tgt := 100) hx hb dX2_share_63 (by decide) (fun _ => ?_) (fun c9 => absurd c9 (by decide))
      refine lv_iload hx hb dX2_share_100 (lv_at hl 1 rfl) ?_
      exact g_reti hx hb hr hlocks hK (0) ((1 : Int32), row) hP hD hS (Nat.zero_le _) (Nat.zero_le _) (Or.inr (Or.inl ⟨rfl, fun z => hg2 z.2, rfl⟩)) dX2_share_102
  · skip
    refine lv_if_eq (tgt := 15) hx hb dX2_share_5 (by decide) (fun _ => ?_) (fun c9 => absurd rfl c9)
    refine lv_iconst (v := 1) hx hb dX2_share_15 (by decide) ?_
    refine lv_goto (tgt := 41) hx hb dX2_share_16 (by decide) ?_
    have hw := gM_si (w := w) (i := i) (j := j) (m0 := m0) (ar := ar) (cI := cI) (sv := (nI n)) (rv := rv) (tv := tv) (row := row) hij (nI n) rv 1
    refine va_put (D := D) (ci := 2) (v := .int 1) (ty := .int) (C := RX2) (T := TX2) (N := 4) hx hb hts i2_share tyX2 tyX2_ok nmX2 hown hK hP hD hS i (gM_i hi hij) rfl 3 (by decide) f_thrown (fun _ h9 => h9) rfl (by decide +kernel) rfl rfl (Nat.le_of_ble_eq_true rfl) dX2_share_41 (fun H locs hP2 hD2 hS => ?_)
    have hP := g_eqP hw hP2
    have hD := g_eqD hw hD2
    refine lv_iconst (v := 0) hx hb dX2_share_44 (by decide) ?_
    refine lv_istore (lv' := [(4, .int 0), (0, .ref m0), (1, .int v0), (2, .int v1), (3, .int v2)]) hx hb dX2_share_45 hl (by decide) rfl (fun ls hl => ?_)
    refine lv_aload_n hx hb dX2_share_47 rfl (lv_at hl 1 rfl) ?_
    refine va_get (D := D) (ci := 2) (v := .int (nI n)) (C := RX2) (T := TX2) (N := 4) hx hb hts i2_share hown hK hP i (gM_i hi hij) rfl 1 (by decide) f_size (fun _ h9 => h9) rfl dX2_share_48 ?_
    refine lv_istore (lv' := [(5, .int (nI n)), (4, .int 0), (0, .ref m0), (1, .int v0), (2, .int v1), (3, .int v2)]) hx hb dX2_share_51 hl (by decide) rfl (fun ls hl => ?_)
    refine lv_iload hx hb dX2_share_53 (lv_at hl 0 rfl) ?_
    refine lv_iconst (v := 1) hx hb dX2_share_55 (by decide) ?_
    refine lv_icmp_lt (tgt := 100) hx hb dX2_share_56 (by decide) (fun c9 => absurd c9 (nI_nlt (a := n) (b := 1) hn1 (by omega))) (fun _ => ?_)
    refine lv_aload_n hx hb dX2_share_59 rfl (lv_at hl 2 rfl) ?_
    refine va_get (D := D) (ci := 2) (v := .int 1) (C := RX2) (T := TX2) (N := 4) hx hb hts i2_share hown hK hP i (gM_i hi hij) rfl 3 (by decide) f_thrown (fun _ h9 => h9) rfl dX2_share_60 ?_
    refine lv_if_ne (tgt := 100) hx hb dX2_share_63 (by decide) (fun _ => ?_) (fun c9 => absurd c9 (by decide))
    refine lv_iload hx hb dX2_share_100 (lv_at hl 1 rfl) ?_
    exact g_reti hx hb hr hlocks hK (0) ((1 : Int32), row) hP hD hS (Nat.zero_le _) (Nat.zero_le _) (Or.inr (Or.inl ⟨rfl, fun z => hg z.1, rfl⟩)) dX2_share_102
set_option maxHeartbeats 4000000 in
set_option maxRecDepth 100000 in
/-- rangeFrom: its loop -/
theorem rangeFrom_loop {p : Program} {l : Launch} {e : Env} {s : State} {m : MethodId} {args : Array Value} {below : List Frame} {meth : Method} {c : Code} {Q : State → Prop} {D : va_G} {tys : List (ClassId × FieldType)} {cI : ClassId} {t : Nat} (ht : tys[t]? = some (cI, .int)) {w w0 : va_W} {i j : Nat} (hi : i < w.length) (hj : j < w.length) (hij : i ≠ j) {m0 ar : Nat} {rv tv : Int32} {row0 : Nat → Int32} {P : Nat → Int32} {n : Nat} (hn : n ≤ 5000) (hrow : gRow P n row0) (hp0 : ¬ P 0 = 8) {v : Nat} (hv : v < 2 ^ 31) (hx : p.tables.exec = Jvm.exec) (hb : c.code = cX2_rangeFrom) (hml : c.maxLocals = 4) (hts : ∀ w ∈ wsX2_rangeFrom, w.before args s = true) (hown : s.vm.findClass RX2 = some m.cls) (hK : va_K D vwCl tys s) (hA : ∀ q : Nat, s.heap.size ≤ q → va_A w0 s.heap.size q) :
    ∀ (f k : Nat)  (H : Heap) (locs : List Loc) (ls : Array Slot), n + 1 - k < f → 1 ≤ k → k ≤ n + 1 → gbg P 8 (k - 1) ≤ v → (∀ q, 1 ≤ q → q < k → P q = 8 → ¬ P (q - 1) = 8 → ¬ v = gbg P 8 (q - 1)) → va_P D vwCl (wM w i j m0 ar cI (nI n) rv tv row0) H → va_D (va_A w0 s.heap.size) (wM w i j m0 ar cI (nI n) rv tv row0) → va_S (va_A w0 s.heap.size) s.heap H locs → lv_has ls 4 [(0, .ref m0), (1, .int (nI v)), (2, .int (nI (v - gbg P 8 (k - 1)))), (3, .int (nI k))] →
    (∀ (q : Nat) (H : Heap) (locs : List Loc) (ls : Array Slot), 1 ≤ q → q ≤ n → P q = 8 → ¬ P (q - 1) = 8 → v = gbg P 8 (q - 1) → va_P D vwCl (wM w i j m0 ar cI (nI n) rv tv row0) H → va_D (va_A w0 s.heap.size) (wM w i j m0 ar cI (nI n) rv tv row0) → va_S (va_A w0 s.heap.size) s.heap H locs → lv_has ls 4 [(0, .ref m0), (3, .int (nI q))] → W p l e ({ frames := 1, cells := 0, slots := 0, locals := 22 } : Room) s m args below meth c H locs 0 0 Q (F0 m 30 ls [])) → (∀  (H : Heap) (locs : List Loc) (ls : Array Slot), (∀ q, 1 ≤ q → q ≤ n → P q = 8 → ¬ P (q - 1) = 8 → ¬ v = gbg P 8 (q - 1)) → va_P D vwCl (wM w i j m0 ar cI (nI n) rv tv row0) H → va_D (va_A w0 s.heap.size) (wM w i j m0 ar cI (nI n) rv tv row0) → va_S (va_A w0 s.heap.size) s.heap H locs → lv_has ls 4 [(0, .ref m0)] → W p l e ({ frames := 1, cells := 0, slots := 0, locals := 22 } : Room) s m args below meth c H locs 0 0 Q (F0 m 46 ls [])) →
    W p l e ({ frames := 1, cells := 0, slots := 0, locals := 22 } : Room) s m args below meth c H locs 0 0 Q (F0 m 4 ls []) := by
  have f_size := hts (.fieldLink RX2 13 "NumberGobletsModel" "size" "I") (by decide +kernel)
  intro f
  induction f with
  | zero => intro k  H locs ls hf; exact absurd hf (Nat.not_lt_zero _)
  | succ f ih =>
    intro k  H locs ls hf hk1 hk2 hcv hno hP hD hS hl hend1 hend2
    refine lv_iload_n hx hb dX2_rangeFrom_4 rfl (lv_at hl 3 rfl) ?_
    refine lv_aload_n hx hb dX2_rangeFrom_5 rfl (lv_at hl 0 rfl) ?_
    refine va_get (D := D) (ci := 2) (v := .int (nI n)) (C := RX2) (T := TX2) (N := 4) hx hb hts i2_rangeFrom hown hK hP i (gM_i hi hij) rfl 1 (by decide) f_size (fun _ h9 => h9) rfl dX2_rangeFrom_6 ?_
    refine lv_icmp_gt (tgt := 46) hx hb dX2_rangeFrom_9 (by decide) (fun c1 => ?_) (fun c1 => ?_)
    · have hkn : n < k := (nI_ltI (by omega) (by omega)).mp c1
      exact hend2 H locs ls (fun q h1 h2 => hno q h1 (by omega)) hP hD hS (lv_sub hl [0] rfl)
    · have hkn : k ≤ n := Nat.le_of_not_lt (fun z => c1 (nI_lt z (by omega)))
      refine lv_iload_n hx hb dX2_rangeFrom_12 rfl (lv_at hl 1 rfl) ?_
      refine lv_if_lt (tgt := 46) hx hb dX2_rangeFrom_13 (by decide) (fun c9 => absurd c9 (nI_pos hv)) (fun _ => ?_)
      refine lv_aload_n hx hb dX2_rangeFrom_16 rfl (lv_at hl 0 rfl) ?_
      refine lv_iload_n hx hb dX2_rangeFrom_17 rfl (lv_at hl 3 rfl) ?_
      refine lv_bipush (v := 8) hx hb dX2_rangeFrom_18 (by decide) ?_
      refine g_calli (va_runV (As := [.int (nI k), .int 8]) (rest := []) ⟨hx, hb, hml, hown, hts⟩ (m_begins l D tys ht hi hj hij hn hrow H.size hk1 hkn 8 hp0) (cwV 2 hts gX2_rangeFrom_X2_begins rfl rfl rfl (by decide +kernel) ⟨Nat.le_of_ble_eq_true rfl, Nat.le_of_ble_eq_true rfl⟩) (gP_V (va_recv hK hP (ci := 2) rfl (gM_i hi hij)) hP hK hD gBl_T (fun _ _ _ => trivial)) rfl rfl hl.1 rfl (lv_room (Nat.le_of_ble_eq_true rfl)) dX2_rangeFrom_20 ⟨(Nat.zero_le _), (Nat.zero_le _)⟩) hD hS hA (fun r9 u9 H locs hr9 hP hD hS => ?_)
      rcases hr9 with ⟨rfl, h9⟩ | ⟨rfl, h9⟩
      · have h8 : gbg P 8 k = gbg P 8 (k - 1) + 1 := by have := gbg_yes (P := P) (p := 8) (n := k - 1) (by rw [show k - 1 + 1 = k by omega]; exact h9); rwa [show k - 1 + 1 = k by omega] at this
        refine lv_if_eq (tgt := 40) hx hb dX2_rangeFrom_23 (by decide) (fun c9 => absurd c9 (by decide)) (fun _ => ?_)
        refine lv_iload_n hx hb dX2_rangeFrom_26 rfl (lv_at hl 2 rfl) ?_
        refine lv_if_ne (tgt := 37) hx hb dX2_rangeFrom_27 (by decide) (fun c3 => ?_) (fun c3 => ?_)
        · have hlt : gbg P 8 (k - 1) < v := by rcases Nat.lt_or_ge (gbg P 8 (k - 1)) v with z | z; exact z; exact absurd (by rw [show v - gbg P 8 (k - 1) = 0 by omega]; rfl) c3
          refine lv_iinc (v := nI (v - gbg P 8 k)) (lv' := [(2, .int (nI (v - gbg P 8 k))), (0, .ref m0), (1, .int (nI v)), (3, .int (nI k))]) hx hb dX2_rangeFrom_37 hl (k := 2) rfl (by rw [h8, show v - gbg P 8 (k - 1) = v - (gbg P 8 (k - 1) + 1) + 1 by omega]; exact pk_m1 _) (by decide) rfl (fun ls hl => ?_)
          refine lv_iinc (v := nI (k + 1)) (lv' := [(3, .int (nI (k + 1))), (2, .int (nI (v - gbg P 8 k))), (0, .ref m0), (1, .int (nI v))]) hx hb dX2_rangeFrom_40 hl (k := 3) rfl (by rw [← nI_1]; rfl) (by decide) rfl (fun ls hl => ?_)
          refine lv_goto (tgt := 4) hx hb dX2_rangeFrom_43 (by decide) ?_
          exact ih (k + 1) H locs ls (by omega) (by omega) (by omega) (by rw [Nat.add_sub_cancel]; omega) (fun q h1 h2 h3 h4 => by by_cases z : q < k; exact hno q h1 z h3 h4; rw [show q = k by omega]; omega) hP hD hS (by rw [Nat.add_sub_cancel]; exact (lv_sub hl [2, 3, 1, 0] rfl)) hend1 hend2
        · have heq : v = gbg P 8 (k - 1) := by have := (nI_eq (a := v - gbg P 8 (k - 1)) (b := 0) (by omega) (by omega)).mp c3; omega
          exact hend1 k H locs ls hk1 hkn h9.1 h9.2 heq hP hD hS (lv_sub hl [0, 3] rfl)
      · have h8 : gbg P 8 k = gbg P 8 (k - 1) := by have := gbg_no (P := P) (p := 8) (n := k - 1) (by rw [show k - 1 + 1 = k by omega]; exact h9); rwa [show k - 1 + 1 = k by omega] at this
        refine lv_if_eq (tgt := 40) hx hb dX2_rangeFrom_23 (by decide) (fun _ => ?_) (fun c9 => absurd rfl c9)
        refine lv_iinc (v := nI (k + 1)) (lv' := [(3, .int (nI (k + 1))), (0, .ref m0), (1, .int (nI v)), (2, .int (nI (v - gbg P 8 (k - 1))))]) hx hb dX2_rangeFrom_40 hl (k := 3) rfl (by rw [← nI_1]; rfl) (by decide) rfl (fun ls hl => ?_)
        refine lv_goto (tgt := 4) hx hb dX2_rangeFrom_43 (by decide) ?_
        exact ih (k + 1) H locs ls (by omega) (by omega) (by omega) (by rw [Nat.add_sub_cancel]; omega) (fun q h1 h2 h3 h4 => by by_cases z : q < k; exact hno q h1 z h3 h4; obtain rfl : q = k := (by omega); exact absurd ⟨h3, h4⟩ h9) hP hD hS (by rw [Nat.add_sub_cancel, h8]; exact (lv_sub hl [1, 2, 3, 0] rfl)) hend1 hend2
set_option maxHeartbeats 4000000 in
set_option maxRecDepth 100000 in
/-- rangeFrom(range) -/
theorem m_rangeFrom (l : Launch) (D : va_G) (tys : List (ClassId × FieldType)) {cI : ClassId} {t : Nat} (ht : tys[t]? = some (cI, .int)) {w : va_W} {i j : Nat} (hi : i < w.length) (hj : j < w.length) (hij : i ≠ j) {m0 ar : Nat} {rv tv : Int32} {row : Nat → Int32} {P : Nat → Int32} {n : Nat} (hn : n ≤ 5000) (hrow : gRow P n row) (sz : Nat) (hp0 : ¬ P 0 = 8) (hn1 : 1 ≤ n) (v0 : Int32) : Met l yX2_rangeFrom wsX2_rangeFrom ({ frames := 1, cells := 0, slots := 0, locals := 22 } : Room) (gP D tys [.ref m0, .int v0] (wM w i j m0 ar cI (nI n) rv tv row) sz (fun _ => True)) (va_Qi (fun (r : Int32) (u : Int32) => (u = 0 ∧ ∃ q : Nat, 1 ≤ q ∧ q ≤ n ∧ r = nI q ∧ P q = 8 ∧ ¬ P (q - 1) = 8 ∧ v0 = nI (gbg P 8 (q - 1))) ∨ (u = 1 ∧ ∀ q : Nat, 1 ≤ q → q ≤ n → P q = 8 → ¬ P (q - 1) = 8 → ¬ v0 = nI (gbg P 8 (q - 1)))) (fun u t => gWd D tys (va_A (wM w i j m0 ar cI (nI n) rv tv row) sz) (wM w i j m0 ar cI (nI n) rv u row) t) (va_A (wM w i j m0 ar cI (nI n) rv tv row) sz)) 0 0 (va_A (wM w i j m0 ar cI (nI n) rv tv row) sz) := by
  refine g_ofW (cc := cX2_rangeFrom) (maxL := 4) (ret := some .int) (by decide) rfl (Nat.le_of_ble_eq_true rfl) ?_
  intro p e s m below meth c hx hb hr hml hts hown hlocks hin hsz hP hK hD hA hS hG ls hl
  subst hsz
  have hown : s.vm.findClass RX2 = some m.cls := hown
  have hl : lv_has ls 4 [(0, .ref m0), (1, .int v0)] := hl
  have f_thrown := hts (.fieldLink RX2 20 "NumberGobletsModel" "thrown" "I") (by decide +kernel)
  have f_size := hts (.fieldLink RX2 13 "NumberGobletsModel" "size" "I") (by decide +kernel)
  refine lv_iload_n hx hb dX2_rangeFrom_0 rfl (lv_at hl 1 rfl) ?_
  refine lv_istore_n (lv' := [(2, .int v0), (0, .ref m0), (1, .int v0)]) hx hb dX2_rangeFrom_1 rfl hl (by decide) rfl (fun ls hl => ?_)
  refine lv_iconst (v := 1) hx hb dX2_rangeFrom_2 (by decide) ?_
  refine lv_istore_n (lv' := [(3, .int 1), (2, .int v0), (0, .ref m0), (1, .int v0)]) hx hb dX2_rangeFrom_3 rfl hl (by decide) rfl (fun ls hl => ?_)
  by_cases hneg : v0 < 0
  · skip
    refine lv_iload_n hx hb dX2_rangeFrom_4 rfl (lv_at hl 0 rfl) ?_
    refine lv_aload_n hx hb dX2_rangeFrom_5 rfl (lv_at hl 2 rfl) ?_
    refine va_get (D := D) (ci := 2) (v := .int (nI n)) (C := RX2) (T := TX2) (N := 4) hx hb hts i2_rangeFrom hown hK hP i (gM_i hi hij) rfl 1 (by decide) f_size (fun _ h9 => h9) rfl dX2_rangeFrom_6 ?_
    refine lv_icmp_gt (tgt := 46) hx hb dX2_rangeFrom_9 (by decide) (fun c9 => absurd c9 (nI_nlt (a := n) (b := 1) hn1 (by omega))) (fun _ => ?_)
    refine lv_iload_n hx hb dX2_rangeFrom_12 rfl (lv_at hl 3 rfl) ?_
    refine lv_if_lt (tgt := 46) hx hb dX2_rangeFrom_13 (by decide) (fun _ => ?_) (fun c9 => absurd hneg c9)
    refine lv_aload_n hx hb dX2_rangeFrom_46 rfl (lv_at hl 2 rfl) ?_
    refine lv_iconst (v := 1) hx hb dX2_rangeFrom_47 (by decide) ?_
    have hw := gM_si (w := w) (i := i) (j := j) (m0 := m0) (ar := ar) (cI := cI) (sv := (nI n)) (rv := rv) (tv := tv) (row := row) hij (nI n) rv 1
    refine va_put (D := D) (ci := 2) (v := .int 1) (ty := .int) (C := RX2) (T := TX2) (N := 4) hx hb hts i2_rangeFrom tyX2 tyX2_ok nmX2 hown hK hP hD hS i (gM_i hi hij) rfl 3 (by decide) f_thrown (fun _ h9 => h9) rfl (by decide +kernel) rfl rfl (Nat.le_of_ble_eq_true rfl) dX2_rangeFrom_48 (fun H locs hP2 hD2 hS => ?_)
    have hP := g_eqP hw hP2
    have hD := g_eqD hw hD2
    refine lv_iconst (v := 0) hx hb dX2_rangeFrom_51 (by decide) ?_
    have hle := gbg_le P 8
    exact g_reti hx hb hr hlocks hK (0) (1 : Int32) hP hD hS (Nat.zero_le _) (Nat.zero_le _) (Or.inr ⟨rfl, fun q h1 h2 _ _ h5 => by rw [h5] at hneg; have := hle (q - 1); exact nI_pos (by omega) hneg⟩) dX2_rangeFrom_52
  · obtain ⟨v, hv, rfl⟩ := nI_of hneg
    refine rangeFrom_loop ht hi hj hij hn hrow hp0 hv hx hb hml hts hown hK hA (n + 2) 1 _ _ ls (by omega) (Nat.le_refl _) (by omega) (Nat.zero_le _) (fun q h1 h2 => absurd h2 (by omega)) hP hD hS (lv_sub hl [2, 3, 1, 0] rfl) (fun q H locs ls q1 q2 q3 q4 q5 hP hD hS hl => ?_) (fun H locs ls hno hP hD hS hl => ?_)
    · skip
      refine lv_aload_n hx hb dX2_rangeFrom_30 rfl (lv_at hl 0 rfl) ?_
      refine lv_iconst (v := 0) hx hb dX2_rangeFrom_31 (by decide) ?_
      have hw := gM_si (w := w) (i := i) (j := j) (m0 := m0) (ar := ar) (cI := cI) (sv := (nI n)) (rv := rv) (tv := tv) (row := row) hij (nI n) rv 0
      refine va_put (D := D) (ci := 2) (v := .int 0) (ty := .int) (C := RX2) (T := TX2) (N := 4) hx hb hts i2_rangeFrom tyX2 tyX2_ok nmX2 hown hK hP hD hS i (gM_i hi hij) rfl 3 (by decide) f_thrown (fun _ h9 => h9) rfl (by decide +kernel) rfl rfl (Nat.le_of_ble_eq_true rfl) dX2_rangeFrom_32 (fun H locs hP2 hD2 hS => ?_)
      have hP := g_eqP hw hP2
      have hD := g_eqD hw hD2
      refine lv_iload_n hx hb dX2_rangeFrom_35 rfl (lv_at hl 1 rfl) ?_
      exact g_reti hx hb hr hlocks hK (nI q) (0 : Int32) hP hD hS (Nat.zero_le _) (Nat.zero_le _) (Or.inl ⟨rfl, q, q1, q2, rfl, q3, q4, by rw [← q5]⟩) dX2_rangeFrom_36
    · skip
      refine lv_aload_n hx hb dX2_rangeFrom_46 rfl (lv_at hl 0 rfl) ?_
      refine lv_iconst (v := 1) hx hb dX2_rangeFrom_47 (by decide) ?_
      have hw := gM_si (w := w) (i := i) (j := j) (m0 := m0) (ar := ar) (cI := cI) (sv := (nI n)) (rv := rv) (tv := tv) (row := row) hij (nI n) rv 1
      refine va_put (D := D) (ci := 2) (v := .int 1) (ty := .int) (C := RX2) (T := TX2) (N := 4) hx hb hts i2_rangeFrom tyX2 tyX2_ok nmX2 hown hK hP hD hS i (gM_i hi hij) rfl 3 (by decide) f_thrown (fun _ h9 => h9) rfl (by decide +kernel) rfl rfl (Nat.le_of_ble_eq_true rfl) dX2_rangeFrom_48 (fun H locs hP2 hD2 hS => ?_)
      have hP := g_eqP hw hP2
      have hD := g_eqD hw hD2
      refine lv_iconst (v := 0) hx hb dX2_rangeFrom_51 (by decide) ?_
      have hle := gbg_le P 8
      exact g_reti hx hb hr hlocks hK (0) (1 : Int32) hP hD hS (Nat.zero_le _) (Nat.zero_le _) (Or.inr ⟨rfl, fun q h1 h2 h3 h4 h5 => hno q h1 h2 h3 h4 (by have := hle (q - 1); exact (nI_eq hv (by omega)).mp h5)⟩) dX2_rangeFrom_52
set_option maxHeartbeats 4000000 in
set_option maxRecDepth 100000 in
/-- rangeTo: its loop -/
theorem rangeTo_loop {p : Program} {l : Launch} {e : Env} {s : State} {m : MethodId} {args : Array Value} {below : List Frame} {meth : Method} {c : Code} {Q : State → Prop} {D : va_G} {tys : List (ClassId × FieldType)} {cI : ClassId} {t : Nat} (ht : tys[t]? = some (cI, .int)) {w w0 : va_W} {i j : Nat} (hi : i < w.length) (hj : j < w.length) (hij : i ≠ j) {m0 ar : Nat} {rv tv : Int32} {row0 : Nat → Int32} {P : Nat → Int32} {n : Nat} (hn : n ≤ 5000) (hrow : gRow P n row0) (hp0 : ¬ P (n + 1) = 8) {v : Nat} (hv : v < 2 ^ 31) (hx : p.tables.exec = Jvm.exec) (hb : c.code = cX2_rangeTo) (hml : c.maxLocals = 4) (hts : ∀ w ∈ wsX2_rangeTo, w.before args s = true) (hown : s.vm.findClass RX2 = some m.cls) (hK : va_K D vwCl tys s) (hA : ∀ q : Nat, s.heap.size ≤ q → va_A w0 s.heap.size q) :
    ∀ (f k : Nat)  (H : Heap) (locs : List Loc) (ls : Array Slot), n + 1 - k < f → 1 ≤ k → k ≤ n + 1 → gen P 8 (k - 1) ≤ v → (∀ q, 1 ≤ q → q < k → P q = 8 → ¬ P (q + 1) = 8 → ¬ v = gen P 8 (q - 1)) → va_P D vwCl (wM w i j m0 ar cI (nI n) rv tv row0) H → va_D (va_A w0 s.heap.size) (wM w i j m0 ar cI (nI n) rv tv row0) → va_S (va_A w0 s.heap.size) s.heap H locs → lv_has ls 4 [(0, .ref m0), (1, .int (nI v)), (2, .int (nI (v - gen P 8 (k - 1)))), (3, .int (nI k))] →
    (∀ (q : Nat) (H : Heap) (locs : List Loc) (ls : Array Slot), 1 ≤ q → q ≤ n → P q = 8 → ¬ P (q + 1) = 8 → v = gen P 8 (q - 1) → va_P D vwCl (wM w i j m0 ar cI (nI n) rv tv row0) H → va_D (va_A w0 s.heap.size) (wM w i j m0 ar cI (nI n) rv tv row0) → va_S (va_A w0 s.heap.size) s.heap H locs → lv_has ls 4 [(0, .ref m0), (3, .int (nI q))] → W p l e ({ frames := 1, cells := 0, slots := 0, locals := 22 } : Room) s m args below meth c H locs 0 0 Q (F0 m 30 ls [])) → (∀  (H : Heap) (locs : List Loc) (ls : Array Slot), (∀ q, 1 ≤ q → q ≤ n → P q = 8 → ¬ P (q + 1) = 8 → ¬ v = gen P 8 (q - 1)) → va_P D vwCl (wM w i j m0 ar cI (nI n) rv tv row0) H → va_D (va_A w0 s.heap.size) (wM w i j m0 ar cI (nI n) rv tv row0) → va_S (va_A w0 s.heap.size) s.heap H locs → lv_has ls 4 [(0, .ref m0)] → W p l e ({ frames := 1, cells := 0, slots := 0, locals := 22 } : Room) s m args below meth c H locs 0 0 Q (F0 m 46 ls [])) →
    W p l e ({ frames := 1, cells := 0, slots := 0, locals := 22 } : Room) s m args below meth c H locs 0 0 Q (F0 m 4 ls []) := by
  have f_size := hts (.fieldLink RX2 13 "NumberGobletsModel" "size" "I") (by decide +kernel)
  intro f
  induction f with
  | zero => intro k  H locs ls hf; exact absurd hf (Nat.not_lt_zero _)
  | succ f ih =>
    intro k  H locs ls hf hk1 hk2 hcv hno hP hD hS hl hend1 hend2
    refine lv_iload_n hx hb dX2_rangeTo_4 rfl (lv_at hl 3 rfl) ?_
    refine lv_aload_n hx hb dX2_rangeTo_5 rfl (lv_at hl 0 rfl) ?_
    refine va_get (D := D) (ci := 2) (v := .int (nI n)) (C := RX2) (T := TX2) (N := 4) hx hb hts i2_rangeTo hown hK hP i (gM_i hi hij) rfl 1 (by decide) f_size (fun _ h9 => h9) rfl dX2_rangeTo_6 ?_
    refine lv_icmp_gt (tgt := 46) hx hb dX2_rangeTo_9 (by decide) (fun c1 => ?_) (fun c1 => ?_)
    · have hkn : n < k := (nI_ltI (by omega) (by omega)).mp c1
      exact hend2 H locs ls (fun q h1 h2 => hno q h1 (by omega)) hP hD hS (lv_sub hl [0] rfl)
    · have hkn : k ≤ n := Nat.le_of_not_lt (fun z => c1 (nI_lt z (by omega)))
      refine lv_iload_n hx hb dX2_rangeTo_12 rfl (lv_at hl 1 rfl) ?_
      refine lv_if_lt (tgt := 46) hx hb dX2_rangeTo_13 (by decide) (fun c9 => absurd c9 (nI_pos hv)) (fun _ => ?_)
      refine lv_aload_n hx hb dX2_rangeTo_16 rfl (lv_at hl 0 rfl) ?_
      refine lv_iload_n hx hb dX2_rangeTo_17 rfl (lv_at hl 3 rfl) ?_
      refine lv_bipush (v := 8) hx hb dX2_rangeTo_18 (by decide) ?_
      refine g_calli (va_runV (As := [.int (nI k), .int 8]) (rest := []) ⟨hx, hb, hml, hown, hts⟩ (m_ends l D tys ht hi hj hij hn hrow H.size hk1 hkn 8 hp0) (cwV 2 hts gX2_rangeTo_X2_ends rfl rfl rfl (by decide +kernel) ⟨Nat.le_of_ble_eq_true rfl, Nat.le_of_ble_eq_true rfl⟩) (gP_V (va_recv hK hP (ci := 2) rfl (gM_i hi hij)) hP hK hD gBl_T (fun _ _ _ => trivial)) rfl rfl hl.1 rfl (lv_room (Nat.le_of_ble_eq_true rfl)) dX2_rangeTo_20 ⟨(Nat.zero_le _), (Nat.zero_le _)⟩) hD hS hA (fun r9 u9 H locs hr9 hP hD hS => ?_)
      rcases hr9 with ⟨rfl, h9⟩ | ⟨rfl, h9⟩
      · have h8 : gen P 8 k = gen P 8 (k - 1) + 1 := by have := gen_yes (P := P) (p := 8) (n := k - 1) (by rw [show k - 1 + 1 = k by omega, show k - 1 + 2 = k + 1 by omega]; exact h9); rwa [show k - 1 + 1 = k by omega] at this
        refine lv_if_eq (tgt := 40) hx hb dX2_rangeTo_23 (by decide) (fun c9 => absurd c9 (by decide)) (fun _ => ?_)
        refine lv_iload_n hx hb dX2_rangeTo_26 rfl (lv_at hl 2 rfl) ?_
        refine lv_if_ne (tgt := 37) hx hb dX2_rangeTo_27 (by decide) (fun c3 => ?_) (fun c3 => ?_)
        · have hlt : gen P 8 (k - 1) < v := by rcases Nat.lt_or_ge (gen P 8 (k - 1)) v with z | z; exact z; exact absurd (by rw [show v - gen P 8 (k - 1) = 0 by omega]; rfl) c3
          refine lv_iinc (v := nI (v - gen P 8 k)) (lv' := [(2, .int (nI (v - gen P 8 k))), (0, .ref m0), (1, .int (nI v)), (3, .int (nI k))]) hx hb dX2_rangeTo_37 hl (k := 2) rfl (by rw [h8, show v - gen P 8 (k - 1) = v - (gen P 8 (k - 1) + 1) + 1 by omega]; exact pk_m1 _) (by decide) rfl (fun ls hl => ?_)
          refine lv_iinc (v := nI (k + 1)) (lv' := [(3, .int (nI (k + 1))), (2, .int (nI (v - gen P 8 k))), (0, .ref m0), (1, .int (nI v))]) hx hb dX2_rangeTo_40 hl (k := 3) rfl (by rw [← nI_1]; rfl) (by decide) rfl (fun ls hl => ?_)
          refine lv_goto (tgt := 4) hx hb dX2_rangeTo_43 (by decide) ?_
          exact ih (k + 1) H locs ls (by omega) (by omega) (by omega) (by rw [Nat.add_sub_cancel]; omega) (fun q h1 h2 h3 h4 => by by_cases z : q < k; exact hno q h1 z h3 h4; rw [show q = k by omega]; omega) hP hD hS (by rw [Nat.add_sub_cancel]; exact (lv_sub hl [2, 3, 1, 0] rfl)) hend1 hend2
        · have heq : v = gen P 8 (k - 1) := by have := (nI_eq (a := v - gen P 8 (k - 1)) (b := 0) (by omega) (by omega)).mp c3; omega
          exact hend1 k H locs ls hk1 hkn h9.1 h9.2 heq hP hD hS (lv_sub hl [0, 3] rfl)
      · have h8 : gen P 8 k = gen P 8 (k - 1) := by have := gen_no (P := P) (p := 8) (n := k - 1) (by rw [show k - 1 + 1 = k by omega, show k - 1 + 2 = k + 1 by omega]; exact h9); rwa [show k - 1 + 1 = k by omega] at this
        refine lv_if_eq (tgt := 40) hx hb dX2_rangeTo_23 (by decide) (fun _ => ?_) (fun c9 => absurd rfl c9)
        refine lv_iinc (v := nI (k + 1)) (lv' := [(3, .int (nI (k + 1))), (0, .ref m0), (1, .int (nI v)), (2, .int (nI (v - gen P 8 (k - 1))))]) hx hb dX2_rangeTo_40 hl (k := 3) rfl (by rw [← nI_1]; rfl) (by decide) rfl (fun ls hl => ?_)
        refine lv_goto (tgt := 4) hx hb dX2_rangeTo_43 (by decide) ?_
        exact ih (k + 1) H locs ls (by omega) (by omega) (by omega) (by rw [Nat.add_sub_cancel]; omega) (fun q h1 h2 h3 h4 => by by_cases z : q < k; exact hno q h1 z h3 h4; obtain rfl : q = k := (by omega); exact absurd ⟨h3, h4⟩ h9) hP hD hS (by rw [Nat.add_sub_cancel, h8]; exact (lv_sub hl [1, 2, 3, 0] rfl)) hend1 hend2
set_option maxHeartbeats 4000000 in
set_option maxRecDepth 100000 in
/-- rangeTo(range) -/
theorem m_rangeTo (l : Launch) (D : va_G) (tys : List (ClassId × FieldType)) {cI : ClassId} {t : Nat} (ht : tys[t]? = some (cI, .int)) {w : va_W} {i j : Nat} (hi : i < w.length) (hj : j < w.length) (hij : i ≠ j) {m0 ar : Nat} {rv tv : Int32} {row : Nat → Int32} {P : Nat → Int32} {n : Nat} (hn : n ≤ 5000) (hrow : gRow P n row) (sz : Nat) (hp0 : ¬ P (n + 1) = 8) (hn1 : 1 ≤ n) (v0 : Int32) : Met l yX2_rangeTo wsX2_rangeTo ({ frames := 1, cells := 0, slots := 0, locals := 22 } : Room) (gP D tys [.ref m0, .int v0] (wM w i j m0 ar cI (nI n) rv tv row) sz (fun _ => True)) (va_Qi (fun (r : Int32) (u : Int32) => (u = 0 ∧ ∃ q : Nat, 1 ≤ q ∧ q ≤ n ∧ r = nI q ∧ P q = 8 ∧ ¬ P (q + 1) = 8 ∧ v0 = nI (gen P 8 (q - 1))) ∨ (u = 1 ∧ ∀ q : Nat, 1 ≤ q → q ≤ n → P q = 8 → ¬ P (q + 1) = 8 → ¬ v0 = nI (gen P 8 (q - 1)))) (fun u t => gWd D tys (va_A (wM w i j m0 ar cI (nI n) rv tv row) sz) (wM w i j m0 ar cI (nI n) rv u row) t) (va_A (wM w i j m0 ar cI (nI n) rv tv row) sz)) 0 0 (va_A (wM w i j m0 ar cI (nI n) rv tv row) sz) := by
  refine g_ofW (cc := cX2_rangeTo) (maxL := 4) (ret := some .int) (by decide) rfl (Nat.le_of_ble_eq_true rfl) ?_
  intro p e s m below meth c hx hb hr hml hts hown hlocks hin hsz hP hK hD hA hS hG ls hl
  subst hsz
  have hown : s.vm.findClass RX2 = some m.cls := hown
  have hl : lv_has ls 4 [(0, .ref m0), (1, .int v0)] := hl
  have f_thrown := hts (.fieldLink RX2 20 "NumberGobletsModel" "thrown" "I") (by decide +kernel)
  have f_size := hts (.fieldLink RX2 13 "NumberGobletsModel" "size" "I") (by decide +kernel)
  refine lv_iload_n hx hb dX2_rangeTo_0 rfl (lv_at hl 1 rfl) ?_
  refine lv_istore_n (lv' := [(2, .int v0), (0, .ref m0), (1, .int v0)]) hx hb dX2_rangeTo_1 rfl hl (by decide) rfl (fun ls hl => ?_)
  refine lv_iconst (v := 1) hx hb dX2_rangeTo_2 (by decide) ?_
  refine lv_istore_n (lv' := [(3, .int 1), (2, .int v0), (0, .ref m0), (1, .int v0)]) hx hb dX2_rangeTo_3 rfl hl (by decide) rfl (fun ls hl => ?_)
  by_cases hneg : v0 < 0
  · skip
    refine lv_iload_n hx hb dX2_rangeTo_4 rfl (lv_at hl 0 rfl) ?_
    refine lv_aload_n hx hb dX2_rangeTo_5 rfl (lv_at hl 2 rfl) ?_
    refine va_get (D := D) (ci := 2) (v := .int (nI n)) (C := RX2) (T := TX2) (N := 4) hx hb hts i2_rangeTo hown hK hP i (gM_i hi hij) rfl 1 (by decide) f_size (fun _ h9 => h9) rfl dX2_rangeTo_6 ?_
    refine lv_icmp_gt (tgt := 46) hx hb dX2_rangeTo_9 (by decide) (fun c9 => absurd c9 (nI_nlt (a := n) (b := 1) hn1 (by omega))) (fun _ => ?_)
    refine lv_iload_n hx hb dX2_rangeTo_12 rfl (lv_at hl 3 rfl) ?_
    refine lv_if_lt (tgt := 46) hx hb dX2_rangeTo_13 (by decide) (fun _ => ?_) (fun c9 => absurd hneg c9)
    refine lv_aload_n hx hb dX2_rangeTo_46 rfl (lv_at hl 2 rfl) ?_
    refine lv_iconst (v := 1) hx hb dX2_rangeTo_47 (by decide) ?_
    have hw := gM_si (w := w) (i := i) (j := j) (m0 := m0) (ar := ar) (cI := cI) (sv := (nI n)) (rv := rv) (tv := tv) (row := row) hij (nI n) rv 1
    refine va_put (D := D) (ci := 2) (v := .int 1) (ty := .int) (C := RX2) (T := TX2) (N := 4) hx hb hts i2_rangeTo tyX2 tyX2_ok nmX2 hown hK hP hD hS i (gM_i hi hij) rfl 3 (by decide) f_thrown (fun _ h9 => h9) rfl (by decide +kernel) rfl rfl (Nat.le_of_ble_eq_true rfl) dX2_rangeTo_48 (fun H locs hP2 hD2 hS => ?_)
    have hP := g_eqP hw hP2
    have hD := g_eqD hw hD2
    refine lv_iconst (v := 0) hx hb dX2_rangeTo_51 (by decide) ?_
    have hle := gen_le P 8
    exact g_reti hx hb hr hlocks hK (0) (1 : Int32) hP hD hS (Nat.zero_le _) (Nat.zero_le _) (Or.inr ⟨rfl, fun q h1 h2 _ _ h5 => by rw [h5] at hneg; have := hle (q - 1); exact nI_pos (by omega) hneg⟩) dX2_rangeTo_52
  · obtain ⟨v, hv, rfl⟩ := nI_of hneg
    refine rangeTo_loop ht hi hj hij hn hrow hp0 hv hx hb hml hts hown hK hA (n + 2) 1 _ _ ls (by omega) (Nat.le_refl _) (by omega) (Nat.zero_le _) (fun q h1 h2 => absurd h2 (by omega)) hP hD hS (lv_sub hl [2, 3, 1, 0] rfl) (fun q H locs ls q1 q2 q3 q4 q5 hP hD hS hl => ?_) (fun H locs ls hno hP hD hS hl => ?_)
    · skip
      refine lv_aload_n hx hb dX2_rangeTo_30 rfl (lv_at hl 0 rfl) ?_
      refine lv_iconst (v := 0) hx hb dX2_rangeTo_31 (by decide) ?_
      have hw := gM_si (w := w) (i := i) (j := j) (m0 := m0) (ar := ar) (cI := cI) (sv := (nI n)) (rv := rv) (tv := tv) (row := row) hij (nI n) rv 0
      refine va_put (D := D) (ci := 2) (v := .int 0) (ty := .int) (C := RX2) (T := TX2) (N := 4) hx hb hts i2_rangeTo tyX2 tyX2_ok nmX2 hown hK hP hD hS i (gM_i hi hij) rfl 3 (by decide) f_thrown (fun _ h9 => h9) rfl (by decide +kernel) rfl rfl (Nat.le_of_ble_eq_true rfl) dX2_rangeTo_32 (fun H locs hP2 hD2 hS => ?_)
      have hP := g_eqP hw hP2
      have hD := g_eqD hw hD2
      refine lv_iload_n hx hb dX2_rangeTo_35 rfl (lv_at hl 1 rfl) ?_
      exact g_reti hx hb hr hlocks hK (nI q) (0 : Int32) hP hD hS (Nat.zero_le _) (Nat.zero_le _) (Or.inl ⟨rfl, q, q1, q2, rfl, q3, q4, by rw [← q5]⟩) dX2_rangeTo_36
    · skip
      refine lv_aload_n hx hb dX2_rangeTo_46 rfl (lv_at hl 0 rfl) ?_
      refine lv_iconst (v := 1) hx hb dX2_rangeTo_47 (by decide) ?_
      have hw := gM_si (w := w) (i := i) (j := j) (m0 := m0) (ar := ar) (cI := cI) (sv := (nI n)) (rv := rv) (tv := tv) (row := row) hij (nI n) rv 1
      refine va_put (D := D) (ci := 2) (v := .int 1) (ty := .int) (C := RX2) (T := TX2) (N := 4) hx hb hts i2_rangeTo tyX2 tyX2_ok nmX2 hown hK hP hD hS i (gM_i hi hij) rfl 3 (by decide) f_thrown (fun _ h9 => h9) rfl (by decide +kernel) rfl rfl (Nat.le_of_ble_eq_true rfl) dX2_rangeTo_48 (fun H locs hP2 hD2 hS => ?_)
      have hP := g_eqP hw hP2
      have hD := g_eqD hw hD2
      refine lv_iconst (v := 0) hx hb dX2_rangeTo_51 (by decide) ?_
      have hle := gen_le P 8
      exact g_reti hx hb hr hlocks hK (0) (1 : Int32) hP hD hS (Nat.zero_le _) (Nat.zero_le _) (Or.inr ⟨rfl, fun q h1 h2 h3 h4 h5 => hno q h1 h2 h3 h4 (by have := hle (q - 1); exact (nI_eq hv (by omega)).mp h5)⟩) dX2_rangeTo_52
set_option maxHeartbeats 4000000 in
set_option maxRecDepth 100000 in
/-- longestRange: its loop -/
theorem mlong_loop {p : Program} {l : Launch} {e : Env} {s : State} {m : MethodId} {args : Array Value} {below : List Frame} {meth : Method} {c : Code} {Q : State → Prop} {D : va_G} {tys : List (ClassId × FieldType)} {cI : ClassId} {t : Nat} (ht : tys[t]? = some (cI, .int)) {w w0 : va_W} {i j : Nat} (hi : i < w.length) (hj : j < w.length) (hij : i ≠ j) {m0 ar : Nat} {rv tv : Int32} {row0 : Nat → Int32} {P : Nat → Int32} {n : Nat} (hn : n ≤ 5000) (hrow : gRow P n row0) (hp0 : ¬ P 0 = 8) (hx : p.tables.exec = Jvm.exec) (hb : c.code = cX2_longestRange) (hml : c.maxLocals = 6) (hts : ∀ w ∈ wsX2_longestRange, w.before args s = true) (hown : s.vm.findClass RX2 = some m.cls) (hK : va_K D vwCl tys s) (hA : ∀ q : Nat, s.heap.size ≤ q → va_A w0 s.heap.size q) :
    ∀ (f k : Nat)  (H : Heap) (locs : List Loc) (ls : Array Slot), n + 1 - k < f → 1 ≤ k → k ≤ n + 1 → va_P D vwCl (wM w i j m0 ar cI (nI n) rv tv row0) H → va_D (va_A w0 s.heap.size) (wM w i j m0 ar cI (nI n) rv tv row0) → va_S (va_A w0 s.heap.size) s.heap H locs → lv_has ls 6 [(0, .ref m0), (1, .int (nI (glg P (k - 1)).1 - 1)), (2, .int (nI (glg P (k - 1)).2.1)), (3, .int (nI (gbg P 8 (k - 1)) - 1)), (4, .int (nI (glg P (k - 1)).2.2)), (5, .int (nI k))] →
    (∀  (H : Heap) (locs : List Loc) (ls : Array Slot), va_P D vwCl (wM w i j m0 ar cI (nI n) rv tv row0) H → va_D (va_A w0 s.heap.size) (wM w i j m0 ar cI (nI n) rv tv row0) → va_S (va_A w0 s.heap.size) s.heap H locs → lv_has ls 6 [(1, .int (nI (glg P n).1 - 1))] → W p l e ({ frames := 1, cells := 0, slots := 0, locals := 22 } : Room) s m args below meth c H locs 0 0 Q (F0 m 98 ls [])) →
    W p l e ({ frames := 1, cells := 0, slots := 0, locals := 22 } : Room) s m args below meth c H locs 0 0 Q (F0 m 17 ls []) := by
  have f_size := hts (.fieldLink RX2 13 "NumberGobletsModel" "size" "I") (by decide +kernel)
  have f_place := hts (.fieldLink RX2 7 "NumberGobletsModel" "place" "[I") (by decide +kernel)
  intro f
  induction f with
  | zero => intro k  H locs ls hf; exact absurd hf (Nat.not_lt_zero _)
  | succ f ih =>
    intro k  H locs ls hf hk1 hk2 hP hD hS hl hend
    have hle := glg_le P (k - 1)
    refine lv_iload hx hb dX2_longestRange_17 (lv_at hl 5 rfl) ?_
    refine lv_aload_n hx hb dX2_longestRange_19 rfl (lv_at hl 0 rfl) ?_
    refine va_get (D := D) (ci := 2) (v := .int (nI n)) (C := RX2) (T := TX2) (N := 4) hx hb hts i2_longestRange hown hK hP i (gM_i hi hij) rfl 1 (by decide) f_size (fun _ h9 => h9) rfl dX2_longestRange_20 ?_
    refine lv_icmp_gt (tgt := 98) hx hb dX2_longestRange_23 (by decide) (fun c1 => ?_) (fun c1 => ?_)
    · have hkn : n < k := (nI_ltI (by omega) (by omega)).mp c1
      have hk3 : k - 1 = n := by omega
      rw [hk3] at hl
      exact hend H locs ls hP hD hS (lv_sub hl [1] rfl)
    · have hkn : k ≤ n := Nat.le_of_not_lt (fun z => c1 (nI_lt z (by omega)))
      refine lv_iload_n hx hb dX2_longestRange_26 rfl (lv_at hl 3 rfl) ?_
      refine lv_aload_n hx hb dX2_longestRange_27 rfl (lv_at hl 0 rfl) ?_
      refine lv_iload hx hb dX2_longestRange_28 (lv_at hl 5 rfl) ?_
      refine lv_bipush (v := 8) hx hb dX2_longestRange_30 (by decide) ?_
      refine g_calli (va_runV (As := [.int (nI k), .int 8]) (rest := [.int (nI (gbg P 8 (k - 1)) - 1)]) ⟨hx, hb, hml, hown, hts⟩ (m_begins l D tys ht hi hj hij hn hrow H.size hk1 hkn 8 hp0) (cwV 2 hts gX2_longestRange_X2_begins rfl rfl rfl (by decide +kernel) ⟨Nat.le_of_ble_eq_true rfl, Nat.le_of_ble_eq_true rfl⟩) (gP_V (va_recv hK hP (ci := 2) rfl (gM_i hi hij)) hP hK hD gBl_T (fun _ _ _ => trivial)) rfl rfl hl.1 rfl (lv_room (Nat.le_of_ble_eq_true rfl)) dX2_longestRange_32 ⟨(Nat.zero_le _), (Nat.zero_le _)⟩) hD hS hA (fun r9 u9 H locs hr9 hP hD hS => ?_)
      rcases hr9 with ⟨rfl, h9⟩ | ⟨rfl, h9⟩
      · have h7 : gbg P 8 k = gbg P 8 (k - 1) + 1 := by have := gbg_yes (P := P) (p := 8) (n := k - 1) (by rw [show k - 1 + 1 = k by omega]; exact h9); rwa [show k - 1 + 1 = k by omega] at this
        have h8 : P k = 8 := h9.1
        refine lv_if_eq (tgt := 42) hx hb dX2_longestRange_35 (by decide) (fun c9 => absurd c9 (by decide)) (fun _ => ?_)
        refine lv_iconst (v := 1) hx hb dX2_longestRange_38 (by decide) ?_
        refine lv_goto (tgt := 43) hx hb dX2_longestRange_39 (by decide) ?_
        refine lv_iadd hx hb dX2_longestRange_43 ?_
        refine g_top (y := nI (gbg P 8 k) - 1) (by rw [h7, nI_pred, Int32.sub_add_cancel]) ?_
        refine lv_istore_n (lv' := [(3, .int (nI (gbg P 8 k) - 1)), (0, .ref m0), (1, .int (nI (glg P (k - 1)).1 - 1)), (2, .int (nI (glg P (k - 1)).2.1)), (4, .int (nI (glg P (k - 1)).2.2)), (5, .int (nI k))]) hx hb dX2_longestRange_44 rfl hl (by decide) rfl (fun ls hl => ?_)
        refine lv_aload_n hx hb dX2_longestRange_45 rfl (lv_at hl 1 rfl) ?_
        refine va_get (D := D) (ci := 2) (v := .ref ar) (C := RX2) (T := TX2) (N := 4) hx hb hts i2_longestRange hown hK hP i (gM_i hi hij) rfl 0 (by decide) f_place (fun _ h9 => h9) rfl dX2_longestRange_46 ?_
        refine lv_iload hx hb dX2_longestRange_49 (lv_at hl 5 rfl) ?_
        refine va_iald hx hb hK hP j t (gM_j hj) ht (vp_in_nI (n := k) (by omega) (by omega)) dX2_longestRange_51 ?_
        refine g_top (y := P k) (by rw [nI_clamp (by omega)]; exact hrow k hk1 hkn) ?_
        refine lv_bipush (v := 8) hx hb dX2_longestRange_52 (by decide) ?_
        refine lv_icmp_eq (tgt := 61) hx hb dX2_longestRange_54 (by decide) (fun _ => ?_) (fun c9 => absurd h8 c9)
        have hg0 := glg_k1 hk1 h8
        refine lv_iload hx hb dX2_longestRange_61 (lv_at hl 4 rfl) ?_
        refine lv_iconst (v := 1) hx hb dX2_longestRange_63 (by decide) ?_
        refine lv_iadd hx hb dX2_longestRange_64 ?_
        refine g_top (y := nI ((glg P (k - 1)).2.2 + 1)) (nI_1 _) ?_
        refine lv_istore (lv' := [(4, .int (nI ((glg P (k - 1)).2.2 + 1))), (3, .int (nI (gbg P 8 k) - 1)), (0, .ref m0), (1, .int (nI (glg P (k - 1)).1 - 1)), (2, .int (nI (glg P (k - 1)).2.1)), (5, .int (nI k))]) hx hb dX2_longestRange_65 hl (by decide) rfl (fun ls hl => ?_)
        refine lv_iload hx hb dX2_longestRange_67 (lv_at hl 0 rfl) ?_
        refine lv_iload_n hx hb dX2_longestRange_69 rfl (lv_at hl 4 rfl) ?_
        refine lv_icmp_le (tgt := 77) hx hb dX2_longestRange_70 (by decide) (fun c4 => ?_) (fun c4 => ?_)
        · have hng : ¬ (glg P (k - 1)).2.1 < (glg P (k - 1)).2.2 + 1 := fun z => nI_ge z (by omega) c4
          have hg := hg0.trans (if_neg hng)
          refine lv_iload_n hx hb dX2_longestRange_77 rfl (lv_at hl 3 rfl) ?_
          refine lv_istore_n (lv' := [(1, .int (nI (glg P (k - 1)).1 - 1)), (4, .int (nI ((glg P (k - 1)).2.2 + 1))), (3, .int (nI (gbg P 8 k) - 1)), (0, .ref m0), (2, .int (nI (glg P (k - 1)).2.1)), (5, .int (nI k))]) hx hb dX2_longestRange_78 rfl hl (by decide) rfl (fun ls hl => ?_)
          refine lv_iload hx hb dX2_longestRange_79 (lv_at hl 1 rfl) ?_
          refine lv_iload_n hx hb dX2_longestRange_81 rfl (lv_at hl 4 rfl) ?_
          refine lv_icmp_le (tgt := 90) hx hb dX2_longestRange_82 (by decide) (fun _ => ?_) (fun c9 => absurd c4 c9)
          refine lv_iload_n hx hb dX2_longestRange_90 rfl (lv_at hl 4 rfl) ?_
          refine lv_istore_n (lv' := [(2, .int (nI (glg P (k - 1)).2.1)), (1, .int (nI (glg P (k - 1)).1 - 1)), (4, .int (nI ((glg P (k - 1)).2.2 + 1))), (3, .int (nI (gbg P 8 k) - 1)), (0, .ref m0), (5, .int (nI k))]) hx hb dX2_longestRange_91 rfl hl (by decide) rfl (fun ls hl => ?_)
          refine lv_iinc (v := nI (k + 1)) (lv' := [(5, .int (nI (k + 1))), (2, .int (nI (glg P (k - 1)).2.1)), (1, .int (nI (glg P (k - 1)).1 - 1)), (4, .int (nI ((glg P (k - 1)).2.2 + 1))), (3, .int (nI (gbg P 8 k) - 1)), (0, .ref m0)]) hx hb dX2_longestRange_92 hl (k := 5) rfl (by rw [← nI_1]; rfl) (by decide) rfl (fun ls hl => ?_)
          refine lv_goto (tgt := 17) hx hb dX2_longestRange_95 (by decide) ?_
          exact ih (k + 1) H locs ls (by omega) (by omega) (by omega) hP hD hS (by rw [Nat.add_sub_cancel, hg]; exact (lv_sub hl [5, 2, 1, 4, 3, 0] rfl)) hend
        · have hyg : (glg P (k - 1)).2.1 < (glg P (k - 1)).2.2 + 1 := by rcases Nat.lt_or_ge (glg P (k - 1)).2.1 ((glg P (k - 1)).2.2 + 1) with z | z; exact z; exact absurd (nI_le z (by omega)) c4
          have hg := hg0.trans (if_pos hyg)
          refine lv_iload_n hx hb dX2_longestRange_73 rfl (lv_at hl 1 rfl) ?_
          refine lv_goto (tgt := 78) hx hb dX2_longestRange_74 (by decide) ?_
          refine lv_istore_n (lv' := [(1, .int (nI (gbg P 8 k) - 1)), (4, .int (nI ((glg P (k - 1)).2.2 + 1))), (3, .int (nI (gbg P 8 k) - 1)), (0, .ref m0), (2, .int (nI (glg P (k - 1)).2.1)), (5, .int (nI k))]) hx hb dX2_longestRange_78 rfl hl (by decide) rfl (fun ls hl => ?_)
          refine lv_iload hx hb dX2_longestRange_79 (lv_at hl 1 rfl) ?_
          refine lv_iload_n hx hb dX2_longestRange_81 rfl (lv_at hl 4 rfl) ?_
          refine lv_icmp_le (tgt := 90) hx hb dX2_longestRange_82 (by decide) (fun c9 => absurd c9 c4) (fun _ => ?_)
          refine lv_iload hx hb dX2_longestRange_85 (lv_at hl 1 rfl) ?_
          refine lv_goto (tgt := 91) hx hb dX2_longestRange_87 (by decide) ?_
          refine lv_istore_n (lv' := [(2, .int (nI ((glg P (k - 1)).2.2 + 1))), (1, .int (nI (gbg P 8 k) - 1)), (4, .int (nI ((glg P (k - 1)).2.2 + 1))), (3, .int (nI (gbg P 8 k) - 1)), (0, .ref m0), (5, .int (nI k))]) hx hb dX2_longestRange_91 rfl hl (by decide) rfl (fun ls hl => ?_)
          refine lv_iinc (v := nI (k + 1)) (lv' := [(5, .int (nI (k + 1))), (2, .int (nI ((glg P (k - 1)).2.2 + 1))), (1, .int (nI (gbg P 8 k) - 1)), (4, .int (nI ((glg P (k - 1)).2.2 + 1))), (3, .int (nI (gbg P 8 k) - 1)), (0, .ref m0)]) hx hb dX2_longestRange_92 hl (k := 5) rfl (by rw [← nI_1]; rfl) (by decide) rfl (fun ls hl => ?_)
          refine lv_goto (tgt := 17) hx hb dX2_longestRange_95 (by decide) ?_
          exact ih (k + 1) H locs ls (by omega) (by omega) (by omega) hP hD hS (by rw [Nat.add_sub_cancel, hg]; exact (lv_sub hl [5, 2, 1, 4, 3, 0] rfl)) hend
      · have h7 : gbg P 8 k = gbg P 8 (k - 1) := by have := gbg_no (P := P) (p := 8) (n := k - 1) (by rw [show k - 1 + 1 = k by omega]; exact h9); rwa [show k - 1 + 1 = k by omega] at this
        refine lv_if_eq (tgt := 42) hx hb dX2_longestRange_35 (by decide) (fun _ => ?_) (fun c9 => absurd rfl c9)
        refine lv_iconst (v := 0) hx hb dX2_longestRange_42 (by decide) ?_
        refine lv_iadd hx hb dX2_longestRange_43 ?_
        refine g_top (y := nI (gbg P 8 k) - 1) (by rw [h7, Int32.add_zero]) ?_
        refine lv_istore_n (lv' := [(3, .int (nI (gbg P 8 k) - 1)), (0, .ref m0), (1, .int (nI (glg P (k - 1)).1 - 1)), (2, .int (nI (glg P (k - 1)).2.1)), (4, .int (nI (glg P (k - 1)).2.2)), (5, .int (nI k))]) hx hb dX2_longestRange_44 rfl hl (by decide) rfl (fun ls hl => ?_)
        refine lv_aload_n hx hb dX2_longestRange_45 rfl (lv_at hl 1 rfl) ?_
        refine va_get (D := D) (ci := 2) (v := .ref ar) (C := RX2) (T := TX2) (N := 4) hx hb hts i2_longestRange hown hK hP i (gM_i hi hij) rfl 0 (by decide) f_place (fun _ h9 => h9) rfl dX2_longestRange_46 ?_
        refine lv_iload hx hb dX2_longestRange_49 (lv_at hl 5 rfl) ?_
        refine va_iald hx hb hK hP j t (gM_j hj) ht (vp_in_nI (n := k) (by omega) (by omega)) dX2_longestRange_51 ?_
        refine g_top (y := P k) (by rw [nI_clamp (by omega)]; exact hrow k hk1 hkn) ?_
        refine lv_bipush (v := 8) hx hb dX2_longestRange_52 (by decide) ?_
        refine lv_icmp_eq (tgt := 61) hx hb dX2_longestRange_54 (by decide) (fun h8 => ?_) (fun h8 => ?_)
        · skip
          have hg0 := glg_k1 hk1 h8
          refine lv_iload hx hb dX2_longestRange_61 (lv_at hl 4 rfl) ?_
          refine lv_iconst (v := 1) hx hb dX2_longestRange_63 (by decide) ?_
          refine lv_iadd hx hb dX2_longestRange_64 ?_
          refine g_top (y := nI ((glg P (k - 1)).2.2 + 1)) (nI_1 _) ?_
          refine lv_istore (lv' := [(4, .int (nI ((glg P (k - 1)).2.2 + 1))), (3, .int (nI (gbg P 8 k) - 1)), (0, .ref m0), (1, .int (nI (glg P (k - 1)).1 - 1)), (2, .int (nI (glg P (k - 1)).2.1)), (5, .int (nI k))]) hx hb dX2_longestRange_65 hl (by decide) rfl (fun ls hl => ?_)
          refine lv_iload hx hb dX2_longestRange_67 (lv_at hl 0 rfl) ?_
          refine lv_iload_n hx hb dX2_longestRange_69 rfl (lv_at hl 4 rfl) ?_
          refine lv_icmp_le (tgt := 77) hx hb dX2_longestRange_70 (by decide) (fun c4 => ?_) (fun c4 => ?_)
          · have hng : ¬ (glg P (k - 1)).2.1 < (glg P (k - 1)).2.2 + 1 := fun z => nI_ge z (by omega) c4
            have hg := hg0.trans (if_neg hng)
            refine lv_iload_n hx hb dX2_longestRange_77 rfl (lv_at hl 3 rfl) ?_
            refine lv_istore_n (lv' := [(1, .int (nI (glg P (k - 1)).1 - 1)), (4, .int (nI ((glg P (k - 1)).2.2 + 1))), (3, .int (nI (gbg P 8 k) - 1)), (0, .ref m0), (2, .int (nI (glg P (k - 1)).2.1)), (5, .int (nI k))]) hx hb dX2_longestRange_78 rfl hl (by decide) rfl (fun ls hl => ?_)
            refine lv_iload hx hb dX2_longestRange_79 (lv_at hl 1 rfl) ?_
            refine lv_iload_n hx hb dX2_longestRange_81 rfl (lv_at hl 4 rfl) ?_
            refine lv_icmp_le (tgt := 90) hx hb dX2_longestRange_82 (by decide) (fun _ => ?_) (fun c9 => absurd c4 c9)
            refine lv_iload_n hx hb dX2_longestRange_90 rfl (lv_at hl 4 rfl) ?_
            refine lv_istore_n (lv' := [(2, .int (nI (glg P (k - 1)).2.1)), (1, .int (nI (glg P (k - 1)).1 - 1)), (4, .int (nI ((glg P (k - 1)).2.2 + 1))), (3, .int (nI (gbg P 8 k) - 1)), (0, .ref m0), (5, .int (nI k))]) hx hb dX2_longestRange_91 rfl hl (by decide) rfl (fun ls hl => ?_)
            refine lv_iinc (v := nI (k + 1)) (lv' := [(5, .int (nI (k + 1))), (2, .int (nI (glg P (k - 1)).2.1)), (1, .int (nI (glg P (k - 1)).1 - 1)), (4, .int (nI ((glg P (k - 1)).2.2 + 1))), (3, .int (nI (gbg P 8 k) - 1)), (0, .ref m0)]) hx hb dX2_longestRange_92 hl (k := 5) rfl (by rw [← nI_1]; rfl) (by decide) rfl (fun ls hl => ?_)
            refine lv_goto (tgt := 17) hx hb dX2_longestRange_95 (by decide) ?_
            exact ih (k + 1) H locs ls (by omega) (by omega) (by omega) hP hD hS (by rw [Nat.add_sub_cancel, hg]; exact (lv_sub hl [5, 2, 1, 4, 3, 0] rfl)) hend
          · have hyg : (glg P (k - 1)).2.1 < (glg P (k - 1)).2.2 + 1 := by rcases Nat.lt_or_ge (glg P (k - 1)).2.1 ((glg P (k - 1)).2.2 + 1) with z | z; exact z; exact absurd (nI_le z (by omega)) c4
            have hg := hg0.trans (if_pos hyg)
            refine lv_iload_n hx hb dX2_longestRange_73 rfl (lv_at hl 1 rfl) ?_
            refine lv_goto (tgt := 78) hx hb dX2_longestRange_74 (by decide) ?_
            refine lv_istore_n (lv' := [(1, .int (nI (gbg P 8 k) - 1)), (4, .int (nI ((glg P (k - 1)).2.2 + 1))), (3, .int (nI (gbg P 8 k) - 1)), (0, .ref m0), (2, .int (nI (glg P (k - 1)).2.1)), (5, .int (nI k))]) hx hb dX2_longestRange_78 rfl hl (by decide) rfl (fun ls hl => ?_)
            refine lv_iload hx hb dX2_longestRange_79 (lv_at hl 1 rfl) ?_
            refine lv_iload_n hx hb dX2_longestRange_81 rfl (lv_at hl 4 rfl) ?_
            refine lv_icmp_le (tgt := 90) hx hb dX2_longestRange_82 (by decide) (fun c9 => absurd c9 c4) (fun _ => ?_)
            refine lv_iload hx hb dX2_longestRange_85 (lv_at hl 1 rfl) ?_
            refine lv_goto (tgt := 91) hx hb dX2_longestRange_87 (by decide) ?_
            refine lv_istore_n (lv' := [(2, .int (nI ((glg P (k - 1)).2.2 + 1))), (1, .int (nI (gbg P 8 k) - 1)), (4, .int (nI ((glg P (k - 1)).2.2 + 1))), (3, .int (nI (gbg P 8 k) - 1)), (0, .ref m0), (5, .int (nI k))]) hx hb dX2_longestRange_91 rfl hl (by decide) rfl (fun ls hl => ?_)
            refine lv_iinc (v := nI (k + 1)) (lv' := [(5, .int (nI (k + 1))), (2, .int (nI ((glg P (k - 1)).2.2 + 1))), (1, .int (nI (gbg P 8 k) - 1)), (4, .int (nI ((glg P (k - 1)).2.2 + 1))), (3, .int (nI (gbg P 8 k) - 1)), (0, .ref m0)]) hx hb dX2_longestRange_92 hl (k := 5) rfl (by rw [← nI_1]; rfl) (by decide) rfl (fun ls hl => ?_)
            refine lv_goto (tgt := 17) hx hb dX2_longestRange_95 (by decide) ?_
            exact ih (k + 1) H locs ls (by omega) (by omega) (by omega) hP hD hS (by rw [Nat.add_sub_cancel, hg]; exact (lv_sub hl [5, 2, 1, 4, 3, 0] rfl)) hend
        · skip
          have hg := glg_k0 hk1 h8
          refine lv_iconst (v := 0) hx hb dX2_longestRange_57 (by decide) ?_
          refine lv_goto (tgt := 65) hx hb dX2_longestRange_58 (by decide) ?_
          refine lv_istore (lv' := [(4, .int 0), (3, .int (nI (gbg P 8 k) - 1)), (0, .ref m0), (1, .int (nI (glg P (k - 1)).1 - 1)), (2, .int (nI (glg P (k - 1)).2.1)), (5, .int (nI k))]) hx hb dX2_longestRange_65 hl (by decide) rfl (fun ls hl => ?_)
          refine lv_iload hx hb dX2_longestRange_67 (lv_at hl 0 rfl) ?_
          refine lv_iload_n hx hb dX2_longestRange_69 rfl (lv_at hl 4 rfl) ?_
          refine lv_icmp_le (tgt := 77) hx hb dX2_longestRange_70 (by decide) (fun _ => ?_) (fun c9 => absurd (nI_pos' (by omega)) c9)
          refine lv_iload_n hx hb dX2_longestRange_77 rfl (lv_at hl 3 rfl) ?_
          refine lv_istore_n (lv' := [(1, .int (nI (glg P (k - 1)).1 - 1)), (4, .int 0), (3, .int (nI (gbg P 8 k) - 1)), (0, .ref m0), (2, .int (nI (glg P (k - 1)).2.1)), (5, .int (nI k))]) hx hb dX2_longestRange_78 rfl hl (by decide) rfl (fun ls hl => ?_)
          refine lv_iload hx hb dX2_longestRange_79 (lv_at hl 1 rfl) ?_
          refine lv_iload_n hx hb dX2_longestRange_81 rfl (lv_at hl 4 rfl) ?_
          refine lv_icmp_le (tgt := 90) hx hb dX2_longestRange_82 (by decide) (fun _ => ?_) (fun c9 => absurd (nI_pos' (by omega)) c9)
          refine lv_iload_n hx hb dX2_longestRange_90 rfl (lv_at hl 4 rfl) ?_
          refine lv_istore_n (lv' := [(2, .int (nI (glg P (k - 1)).2.1)), (1, .int (nI (glg P (k - 1)).1 - 1)), (4, .int 0), (3, .int (nI (gbg P 8 k) - 1)), (0, .ref m0), (5, .int (nI k))]) hx hb dX2_longestRange_91 rfl hl (by decide) rfl (fun ls hl => ?_)
          refine lv_iinc (v := nI (k + 1)) (lv' := [(5, .int (nI (k + 1))), (2, .int (nI (glg P (k - 1)).2.1)), (1, .int (nI (glg P (k - 1)).1 - 1)), (4, .int 0), (3, .int (nI (gbg P 8 k) - 1)), (0, .ref m0)]) hx hb dX2_longestRange_92 hl (k := 5) rfl (by rw [← nI_1]; rfl) (by decide) rfl (fun ls hl => ?_)
          refine lv_goto (tgt := 17) hx hb dX2_longestRange_95 (by decide) ?_
          exact ih (k + 1) H locs ls (by omega) (by omega) (by omega) hP hD hS (by rw [Nat.add_sub_cancel, hg]; exact (lv_sub hl [5, 2, 1, 4, 3, 0] rfl)) hend
set_option maxHeartbeats 4000000 in
set_option maxRecDepth 100000 in
/-- longestRange() -/
theorem m_longestRange (l : Launch) (D : va_G) (tys : List (ClassId × FieldType)) {cI : ClassId} {t : Nat} (ht : tys[t]? = some (cI, .int)) {w : va_W} {i j : Nat} (hi : i < w.length) (hj : j < w.length) (hij : i ≠ j) {m0 ar : Nat} {rv tv : Int32} {row : Nat → Int32} {P : Nat → Int32} {n : Nat} (hn : n ≤ 5000) (hrow : gRow P n row) (sz : Nat) (hp0 : ¬ P 0 = 8) : Met l yX2_longestRange wsX2_longestRange ({ frames := 1, cells := 0, slots := 0, locals := 22 } : Room) (gP D tys [.ref m0] (wM w i j m0 ar cI (nI n) rv tv row) sz (fun _ => True)) (va_Qi (fun (r : Int32) (_ : Unit) => r = nI (glg P n).1 - 1) (fun _ t => gWd D tys (va_A (wM w i j m0 ar cI (nI n) rv tv row) sz) (wM w i j m0 ar cI (nI n) rv 0 row) t) (va_A (wM w i j m0 ar cI (nI n) rv tv row) sz)) 0 0 (va_A (wM w i j m0 ar cI (nI n) rv tv row) sz) := by
  refine g_ofW (cc := cX2_longestRange) (maxL := 6) (ret := some .int) (by decide) rfl (Nat.le_of_ble_eq_true rfl) ?_
  intro p e s m below meth c hx hb hr hml hts hown hlocks hin hsz hP hK hD hA hS hG ls hl
  subst hsz
  have hown : s.vm.findClass RX2 = some m.cls := hown
  have hl : lv_has ls 6 [(0, .ref m0)] := hl
  have f_thrown := hts (.fieldLink RX2 20 "NumberGobletsModel" "thrown" "I") (by decide +kernel)
  refine lv_aload_n hx hb dX2_longestRange_0 rfl (lv_at hl 0 rfl) ?_
  refine lv_iconst (v := 0) hx hb dX2_longestRange_1 (by decide) ?_
  have hw := gM_si (w := w) (i := i) (j := j) (m0 := m0) (ar := ar) (cI := cI) (sv := (nI n)) (rv := rv) (tv := tv) (row := row) hij (nI n) rv 0
  refine va_put (D := D) (ci := 2) (v := .int 0) (ty := .int) (C := RX2) (T := TX2) (N := 4) hx hb hts i2_longestRange tyX2 tyX2_ok nmX2 hown hK hP hD hS i (gM_i hi hij) rfl 3 (by decide) f_thrown (fun _ h9 => h9) rfl (by decide +kernel) rfl rfl (Nat.le_of_ble_eq_true rfl) dX2_longestRange_2 (fun H locs hP2 hD2 hS => ?_)
  have hP := g_eqP hw hP2
  have hD := g_eqD hw hD2
  refine lv_iconst (v := -1) hx hb dX2_longestRange_5 (by decide) ?_
  refine lv_istore_n (lv' := [(1, .int (-1)), (0, .ref m0)]) hx hb dX2_longestRange_6 rfl hl (by decide) rfl (fun ls hl => ?_)
  refine lv_iconst (v := 0) hx hb dX2_longestRange_7 (by decide) ?_
  refine lv_istore_n (lv' := [(2, .int 0), (1, .int (-1)), (0, .ref m0)]) hx hb dX2_longestRange_8 rfl hl (by decide) rfl (fun ls hl => ?_)
  refine lv_iconst (v := -1) hx hb dX2_longestRange_9 (by decide) ?_
  refine lv_istore_n (lv' := [(3, .int (-1)), (2, .int 0), (1, .int (-1)), (0, .ref m0)]) hx hb dX2_longestRange_10 rfl hl (by decide) rfl (fun ls hl => ?_)
  refine lv_iconst (v := 0) hx hb dX2_longestRange_11 (by decide) ?_
  refine lv_istore (lv' := [(4, .int 0), (3, .int (-1)), (2, .int 0), (1, .int (-1)), (0, .ref m0)]) hx hb dX2_longestRange_12 hl (by decide) rfl (fun ls hl => ?_)
  refine lv_iconst (v := 1) hx hb dX2_longestRange_14 (by decide) ?_
  refine lv_istore (lv' := [(5, .int 1), (4, .int 0), (3, .int (-1)), (2, .int 0), (1, .int (-1)), (0, .ref m0)]) hx hb dX2_longestRange_15 hl (by decide) rfl (fun ls hl => ?_)
  refine mlong_loop ht hi hj hij hn hrow hp0 hx hb hml hts hown hK hA (n + 2) 1 _ _ ls (by omega) (Nat.le_refl _) (by omega) hP hD hS (lv_sub hl [5, 4, 3, 2, 1, 0] rfl) (fun H locs ls hP hD hS hl => ?_)
  refine lv_iload_n hx hb dX2_longestRange_98 rfl (lv_at hl 0 rfl) ?_
  exact g_reti hx hb hr hlocks hK (nI (glg P n).1 - 1) () hP hD hS (Nat.zero_le _) (Nat.zero_le _) (rfl) dX2_longestRange_99
