/-! NumberGoblets: move, moveAll -/
theorem gct_step {P : Nat → Int32} {p : Int32} {k j : Nat} (hk : 1 ≤ k) (h : k ≤ j) (hj : P j = p) : gct P p (k - 1) + 1 ≤ gct P p j := by
  have h1 := gct_mono' P p (m := k - 1) (n := j - 1) (by omega)
  have h2 : gct P p j = gct P p (j - 1) + 1 := by
    have := gct_yes (P := P) (p := p) (n := j - 1) (by rw [show j - 1 + 1 = j by omega]; exact hj)
    rwa [show j - 1 + 1 = j by omega] at this
  omega
set_option maxHeartbeats 4000000 in
set_option maxRecDepth 100000 in
/-- move: its loop, from its head on; what lies behind it is the caller's -/
theorem move_loop {p : Program} {l : Launch} {e : Env} {s : State} {m : MethodId} {args : Array Value} {below : List Frame} {meth : Method} {c : Code} {Q : State → Prop} {R : Room} {D : va_G} {tys : List (ClassId × FieldType)} {X w0 : va_W} {P : Nat → Int32} {h0 stay cnt : Nat} {fr to : Int32} (hstay : stay ≤ 5000) (hc1 : 1 ≤ cnt) (hc2 : cnt ≤ 5000) (hR : 3 ≤ R.frames ∧ 58 ≤ R.locals ∧ 2 ≤ R.cells ∧ 8 ≤ R.slots) (hx : p.tables.exec = Jvm.exec) (hb : c.code = cX1_move) (hml : c.maxLocals = 8) (hts : ∀ w ∈ wsX1_move, w.before args s = true) (hown : s.vm.findClass RX1 = some m.cls) (hK : va_K D vwCl tys s) (hG : gN s) (hA : ∀ q : Nat, s.heap.size ≤ q → va_A w0 s.heap.size q) :
    ∀ (n k : Nat) (g : List (Nat × Nat × Int32)) (x : Option Nat) (L : List Nat) (S : gS) (st mv kc ns : Nat) (H : Heap) (locs : List Loc) (ls : Array Slot), 5001 - k < n → 1 ≤ k → gwf P k g → gch L S x g → st = stay - gct P fr (k - 1) → mv = cnt - (gct P fr (k - 1) - stay) → kc + min st 1 + min mv 1 ≤ 2 → ns + 4 * min st 1 + 4 * min mv 1 ≤ 8 → va_P D vwCl (X ++ va_pl L (gE S)) H → va_D (va_A w0 s.heap.size) (X ++ va_pl L (gE S)) → va_S (va_A w0 s.heap.size) s.heap H locs → lv_has ls 8 [(0, .ref h0), (1, .int fr), (2, .int to), (3, .int (nI stay)), (4, .int (nI cnt)), (5, .int (nI st)), (6, .int (nI mv)), (7, va_rf x)] →
    (∀ (L' : List Nat) (S' : gS) (g' : List (Nat × Nat × Int32)) (mv' kc' ns' : Nat) (H : Heap) (locs : List Loc) (ls : Array Slot), gch L' S' x g' → gwf (gmv P fr to stay cnt) k g' → (∀ b ∈ L, (S b).1 < k → b ∈ L' ∧ S' b = S b) → mv' ≤ cnt → cnt - mv' = min cnt (gct P fr 5000 - stay) → kc' ≤ 2 → ns' ≤ 8 → va_P D vwCl (X ++ va_pl L' (gE S')) H → va_D (va_A w0 s.heap.size) (X ++ va_pl L' (gE S')) → va_S (va_A w0 s.heap.size) s.heap H locs → lv_has ls 8 [(0, .ref h0), (4, .int (nI cnt)), (6, .int (nI mv'))] → W p l e R s m args below meth c H locs kc' ns' Q (F0 m 99 ls [])) →
    W p l e R s m args below meth c H locs kc ns Q (F0 m 13 ls []) := by
  have hi0 := i0_move
  obtain ⟨⟨nf_first, nf_last, nf_place, nf_next⟩, nm_init, nm_length, nm_short, nm_absorb⟩ := id hG
  have f_place := va_Nw.use (A := args) rfl nf_place
  have f_next := va_Nw.use (A := args) rfl nf_next
  intro n
  induction n with
  | zero => intro k g x L S st mv kc ns H locs ls hn; exact absurd hn (Nat.not_lt_zero _)
  | succ n ih =>
    intro k g x L S st mv kc ns H locs ls hn hk1 hw0 hch hst hmv hkc hns hP hD hS hl hend
    have hk5 := gwf_le hw0
    have hgc := gct_le P fr (k - 1)
    cases g with
    | nil =>
      have hx0 : x = none := hch
      subst hx0
      have hk6 : k = 5001 := hw0
      refine lv_aloadN hx hb dX1_move_13 (lv_at hl 7 rfl) ?_
      refine lv_ifnullN (tgt := 99) hx hb dX1_move_15 (by decide) ?_
      refine hend L S [] mv kc ns H locs ls rfl hk6 (fun b hb _ => ⟨hb, rfl⟩) (by omega) ?_ (by omega) (by omega) hP hD hS (lv_sub hl [0, 4, 6] rfl)
      have hmv : mv = cnt - (gct P fr 5000 - stay) := by rw [hmv, hk6]
      omega
    | cons d r =>
      obtain ⟨a1, nx1, rfl, e2, e3, e4⟩ := id hch
      obtain ⟨df, dl, dp⟩ := d
      obtain ⟨x1, x2, x3, x4, x5⟩ := id hw0
      have x1 : df = k := x1
      subst x1
      have x2 : df ≤ dl := x2
      have x3 : dl ≤ 5000 := x3
      have x4 : ∀ j, df ≤ j → j ≤ dl → P j = dp := x4
      have x5 : gwf P (dl + 1) r := x5
      have e3 : S a1 = (df, dl, dp, nx1) := e3
      have e4 : gch L S nx1 r := e4
      obtain ⟨k1, hk10, hk1x⟩ := gE_get (X := X) e2 e3
      have hfin : ∀ (L1 : List Nat) (S1 : gS) (en : Nat) (np : Int32) (nx2 : Option Nat) (g1 : List (Nat × Nat × Int32)) (st2 mv2 kc2 ns2 : Nat) (H : Heap) (locs : List Loc) (ls : Array Slot), df ≤ en → en ≤ 5000 → gwf P (en + 1) g1 → (∀ j, df ≤ j → j ≤ en → gmv P fr to stay cnt j = np) → S1 a1 = (df, en, np, nx2) → a1 ∈ L1 → gch L1 S1 nx2 g1 → (∀ b ∈ L, b ≠ a1 → b ∈ L1 ∧ S1 b = S b) → st2 = stay - gct P fr en → mv2 = cnt - (gct P fr en - stay) → kc2 + min st2 1 + min mv2 1 ≤ 2 → ns2 + 4 * min st2 1 + 4 * min mv2 1 ≤ 8 → va_P D vwCl (X ++ va_pl L1 (gE S1)) H → va_D (va_A w0 s.heap.size) (X ++ va_pl L1 (gE S1)) → va_S (va_A w0 s.heap.size) s.heap H locs → lv_has ls 8 [(0, .ref h0), (1, .int fr), (2, .int to), (3, .int (nI stay)), (4, .int (nI cnt)), (5, .int (nI st2)), (6, .int (nI mv2)), (7, .ref a1)] → W p l e R s m args below meth c H locs kc2 ns2 Q (F0 m 89 ls []) := by
        intro L1 S1 en np nx2 g1 st2 mv2 kc2 ns2 H locs ls f1 f2 f3 f4 f5 f6 f7 f8 f9 f10 f11 f12 hP hD hS hl
        obtain ⟨k2, hk20, hk2⟩ := gE_get (X := X) f6 f5
        refine lv_aload hx hb dX1_move_89 (lv_at hl 7 rfl) ?_
        refine va_getN (D := D) (ci := 0) (v := va_rf nx2) (C := RX0) (T := TX0) (N := 4) hx hb hts hi0 hown hK hP k2 hk2 rfl 3 (by decide) f_next (fun _ h9 => h9) rfl dX1_move_91 ?_
        refine lq_astore (lv' := [(7, va_rf nx2), (0, .ref h0), (1, .int fr), (2, .int to), (3, .int (nI stay)), (4, .int (nI cnt)), (5, .int (nI st2)), (6, .int (nI mv2))]) hx hb dX1_move_94 hl (by decide) rfl (fun ls hl => ?_)
        refine lv_goto (tgt := 13) hx hb dX1_move_96 (by decide) ?_
        refine ih (en + 1) g1 nx2 L1 S1 st2 mv2 kc2 ns2 H locs ls (by omega) (by omega) f3 f7 (by rw [Nat.add_sub_cancel]; exact f9) (by rw [Nat.add_sub_cancel]; exact f10) f11 f12 hP hD hS (lv_sub hl [1, 2, 3, 4, 5, 6, 7, 0] rfl) ?_
        intro L' S' g' mv' kc' ns' H locs ls q1 q2 q3 q4 q5 q6 q7 hP hD hS hl
        obtain ⟨r1, r2⟩ := q3 a1 f6 (by rw [f5]; show df < en + 1; omega)
        refine hend L' S' ((df, en, np) :: g') mv' kc' ns' H locs ls ⟨a1, nx2, rfl, r1, r2.trans f5, q1⟩ ⟨rfl, f1, f2, f4, q2⟩ (fun b hb hk => ?_) q4 q5 q6 q7 hP hD hS hl
        have hba : b ≠ a1 := fun z => by subst z; rw [e3] at hk; have hk : df < df := hk; omega
        obtain ⟨t1, t2⟩ := f8 b hb hba
        obtain ⟨t3, t4⟩ := q3 b t1 (by rw [t2]; omega)
        exact ⟨t3, t4.trans t2⟩
      refine lv_aload hx hb dX1_move_13 (lv_at hl 7 rfl) ?_
      refine lv_ifnull hx hb dX1_move_15 ?_
      refine lv_iload hx hb dX1_move_18 (lv_at hl 6 rfl) ?_
      refine lv_if_le (tgt := 99) hx hb dX1_move_20 (by decide) (fun c1 => ?_) (fun c1 => ?_)
      · have hmv0 : mv = 0 := by rcases Nat.eq_zero_or_pos mv with z | z; exact z; exact absurd c1 (nI_nle z (by omega))
        have hm := gct_mono' P fr (m := df - 1) (n := 5000) (by omega)
        refine hend L S ((df, dl, dp) :: r) mv kc ns H locs ls hch (gwf_cong _ df hw0 (fun j h1 h2 => gmv_out ?_)) (fun b hb _ => ⟨hb, rfl⟩) (by omega) (by omega) (by omega) (by omega) hP hD hS (lv_sub hl [0, 4, 6] rfl)
        by_cases z : P j = fr
        · have := gct_step hk1 h1 z; exact Or.inr (Or.inr (by omega))
        · exact Or.inl z
      · have hmv1 : 1 ≤ mv := by rcases Nat.eq_zero_or_pos mv with z | z; exact absurd (by rw [z]; exact Int32.le_refl _) c1; exact z
        have hskip : ¬ dp = fr → ∀ (ls : Array Slot), lv_has ls 8 [(0, .ref h0), (1, .int fr), (2, .int to), (3, .int (nI stay)), (4, .int (nI cnt)), (5, .int (nI st)), (6, .int (nI mv)), (7, .ref a1)] → W p l e R s m args below meth c H locs kc ns Q (F0 m 57 ls []) := by
          intro hne ls hl
          have h9 : gct P fr dl = gct P fr (df - 1) := gct_past (by omega) (fun j h1 h2 => by rw [x4 j h1 h2]; exact hne)
          refine lv_aload hx hb dX1_move_57 (lv_at hl 7 rfl) ?_
          refine va_getN (D := D) (ci := 0) (v := .int dp) (C := RX0) (T := TX0) (N := 4) hx hb hts hi0 hown hK hP k1 hk1x rfl 2 (by decide) f_place (fun _ h9 => h9) rfl dX1_move_59 ?_
          refine lv_iload_n hx hb dX1_move_62 rfl (lv_at hl 1 rfl) ?_
          refine lv_icmp_ne (tgt := 89) hx hb dX1_move_63 (by decide) (fun c2 => ?_) (fun c2 => ?_)
          · exact hfin L S dl dp nx1 r st mv kc ns H locs ls x2 x3 x5 (fun j h1 h2 => by rw [gmv_out (Or.inl (by rw [x4 j h1 h2]; exact hne)), x4 j h1 h2]) e3 e2 e4 (fun b hb _ => ⟨hb, rfl⟩) (by rw [h9]; exact hst) (by rw [h9]; exact hmv) hkc hns hP hD hS hl
          · exact absurd c2 hne
        refine lv_aload hx hb dX1_move_23 (lv_at hl 7 rfl) ?_
        refine va_getN (D := D) (ci := 0) (v := .int dp) (C := RX0) (T := TX0) (N := 4) hx hb hts hi0 hown hK hP k1 hk1x rfl 2 (by decide) f_place (fun _ h9 => h9) rfl dX1_move_25 ?_
        refine lv_iload_n hx hb dX1_move_28 rfl (lv_at hl 1 rfl) ?_
        refine lv_icmp_ne (tgt := 57) hx hb dX1_move_29 (by decide) (fun c2 => ?_) (fun c2 => ?_)
        · exact hskip c2 ls hl
        · have c2 := c2.symm
          subst c2
          have h9 : ∀ e, df ≤ e → e ≤ dl → gct P fr e = gct P fr (df - 1) + (e - df + 1) := fun e h1 h2 => gct_to hk1 h1 (fun j h3 h4 => x4 j h3 (by omega))
          refine lv_iload hx hb dX1_move_32 (lv_at hl 5 rfl) ?_
          refine lv_if_le (tgt := 57) hx hb dX1_move_34 (by decide) (fun c3 => ?_) (fun c3 => ?_)
          · have hst0 : st = 0 := by rcases Nat.eq_zero_or_pos st with z | z; exact z; exact absurd c3 (nI_nle z (by omega))
            refine lv_aload hx hb dX1_move_57 (lv_at hl 7 rfl) ?_
            refine va_getN (D := D) (ci := 0) (v := .int fr) (C := RX0) (T := TX0) (N := 4) hx hb hts hi0 hown hK hP k1 hk1x rfl 2 (by decide) f_place (fun _ h9 => h9) rfl dX1_move_59 ?_
            refine lv_iload_n hx hb dX1_move_62 rfl (lv_at hl 1 rfl) ?_
            refine lv_icmp_ne (tgt := 89) hx hb dX1_move_63 (by decide) (fun c4 => ?_) (fun c4 => ?_)
            · exact absurd rfl c4
            · skip
              refine lv_aload hx hb dX1_move_66 (lv_at hl 7 rfl) ?_
              refine lv_iload hx hb dX1_move_68 (lv_at hl 6 rfl) ?_
              rcases Nat.lt_or_ge mv (dl - df + 1) with hlt | hle
              · skip
                refine g_callv (va_runVN (C := RX0) (As := [.int (nI mv)]) (rest := []) ⟨hx, hb, hml, hown, hts⟩ (c_shortB l D tys X L S H.size e2 e3 x2 (by omega) hlt (by omega)) ⟨va_cnB 1 hts gX1_move_X0_shortenTo_n110 rfl rfl rfl nm_short (hts (.initialized RX0) (by decide +kernel)) (by decide +kernel) ⟨by show 2 + 1 ≤ R.frames; omega, by show 8 + (3 + 11) + 36 ≤ R.locals; omega⟩, hts (.instanceMethod yX0_shortenTo) (by decide +kernel), hts (.selects RX0 yX0_shortenTo yX0_shortenTo) (by decide +kernel)⟩ (gP_V (va_recv hK hP (ci := 0) rfl hk1x) hP hK hD gBl_T (fun _ _ _ => trivial)) rfl rfl hl.1 rfl (lv_room (Nat.le_of_ble_eq_true rfl)) dX1_move_70 ⟨by omega, by omega⟩) hD hS hA (fun q H locs hq hP hD hS => ?_)
                have hqa : a1 ≠ q := fun z => hq (z ▸ e2)
                have hL1 : a1 ∈ L ++ [q] := List.mem_append_left _ e2
                obtain ⟨S1, hS1⟩ : ∃ z, z = va_up (va_up S q (df + mv, dl, fr, nx1)) a1 (df, df + mv - 1, fr, some q) := ⟨_, rfl⟩
                rw [← hS1] at hP hD
                have g1 : S1 a1 = (df, df + mv - 1, fr, some q) := by rw [hS1, va_up_self]
                have g2 : S1 q = (df + mv, dl, fr, nx1) := by rw [hS1, va_up_ne _ _ (Ne.symm hqa), va_up_self]
                have g3 : ∀ b ∈ L, b ≠ a1 → b ∈ L ++ [q] ∧ S1 b = S b := fun b hb hba => ⟨List.mem_append_left _ hb, by rw [hS1, va_up_ne _ _ hba, va_up_ne _ _ (show b ≠ q from fun z => hq (by rw [← z]; exact hb))]⟩
                obtain ⟨k3, hk30, hk3⟩ := gE_get (X := X) hL1 g1
                refine lv_iload hx hb dX1_move_73 (lv_at hl 6 rfl) ?_
                refine lv_aload hx hb dX1_move_75 (lv_at hl 7 rfl) ?_
                refine g_calli (va_runVN (C := RX0) (As := []) (rest := [.int (nI mv)]) ⟨hx, hb, hml, hown, hts⟩ (c_len l D tys X (L ++ [q]) S1 H.size hL1 g1 (by omega)) ⟨va_cnB 0 hts gX1_move_X0_length_n99 rfl rfl rfl nm_length (hts (.initialized RX0) (by decide +kernel)) (by decide +kernel) ⟨by show 0 + 1 ≤ R.frames; omega, by show 8 + (1 + 11) + 0 ≤ R.locals; omega⟩, hts (.instanceMethod yX0_length) (by decide +kernel), hts (.selects RX0 yX0_length yX0_length) (by decide +kernel)⟩ (gP_V (va_recv hK hP (ci := 0) rfl hk3) hP hK hD gBl_T (fun _ _ _ => trivial)) rfl rfl hl.1 rfl (lv_room (Nat.le_of_ble_eq_true rfl)) dX1_move_77 ⟨by omega, by omega⟩) hD hS hA (fun r9 u H locs hr1 hP hD hS => ?_)
                subst hr1
                refine lv_isub hx hb dX1_move_80 ?_
                refine g_top (y := nI 0) (by rw [show df + mv - 1 - df + 1 = mv by omega, pk_sub (Nat.le_refl _), Nat.sub_self]) ?_
                refine lv_istore (lv' := [(6, .int (nI 0)), (0, .ref h0), (1, .int fr), (2, .int to), (3, .int (nI stay)), (4, .int (nI cnt)), (5, .int (nI st)), (7, .ref a1)]) hx hb dX1_move_81 hl (by decide) rfl (fun ls hl => ?_)
                refine lv_aload hx hb dX1_move_83 (lv_at hl 7 rfl) ?_
                refine lv_iload_n hx hb dX1_move_85 rfl (lv_at hl 3 rfl) ?_
                have hw := gE_put (f := df) (la := df + mv - 1) (pl := to) (nx := some q) hD hL1 hk30
                refine va_putN (D := D) (ci := 0) (v := .int to) (ty := .int) (C := RX0) (T := TX0) (N := 4) hx hb hts hi0 tyX0 tyX0_ok nmX0 hown hK hP hD hS k3 hk3 rfl 2 (by decide) f_place (fun _ h9 => h9) rfl (by decide +kernel) rfl rfl (Nat.le_of_ble_eq_true rfl) dX1_move_86 (fun H locs hP2 hD2 hS => ?_)
                have hP := g_eqP hw hP2
                have hD := g_eqD hw hD2
                refine hfin (L ++ [q]) _ (df + mv - 1) to (some q) ((df + mv, dl, fr) :: r) st 0 (kc + 1) (ns + 4) H locs ls (by omega) (by omega) ⟨by show df + mv = df + mv - 1 + 1; omega, by show df + mv - 1 + 1 ≤ dl; omega, x3, fun j h1 h2 => x4 j (by omega) h2, x5⟩ (fun j h1 h2 => ?_) (va_up_self _ _ _) hL1 ⟨q, nx1, rfl, List.mem_append_right _ (List.mem_singleton.mpr rfl), ?_, ?_⟩ (fun b hb hba => ⟨(g3 b hb hba).1, by rw [va_up_ne _ _ hba]; exact (g3 b hb hba).2⟩) ?_ ?_ (by omega) (by omega) hP hD hS (lv_sub hl [1, 2, 3, 4, 5, 6, 0, 7] rfl)
                · have := h9 j h1 (by omega); exact gmv_in (x4 j h1 (by omega)) (by omega) (by omega)
                · rw [va_up_ne _ _ (Ne.symm hqa)]; exact g2
                · refine gch_frame r (dl + 1) nx1 x5 (fun b hb hk => ?_) e4
                  have hba : b ≠ a1 := fun z => by subst z; rw [e3] at hk; have hk : dl + 1 ≤ df := hk; omega
                  exact ⟨(g3 b hb hba).1, by rw [va_up_ne _ _ hba]; exact (g3 b hb hba).2⟩
                · have := h9 (df + mv - 1) (by omega) (by omega); omega
                · have := h9 (df + mv - 1) (by omega) (by omega); omega
              · skip
                refine g_callv (va_runVN (C := RX0) (As := [.int (nI mv)]) (rest := []) ⟨hx, hb, hml, hown, hts⟩ (c_shortA l D tys X L S H.size e2 e3 x2 (by omega) hle) ⟨va_cnB 1 hts gX1_move_X0_shortenTo_n110 rfl rfl rfl nm_short (hts (.initialized RX0) (by decide +kernel)) (by decide +kernel) ⟨by show 1 + 1 ≤ R.frames; omega, by show 8 + (3 + 11) + 20 ≤ R.locals; omega⟩, hts (.instanceMethod yX0_shortenTo) (by decide +kernel), hts (.selects RX0 yX0_shortenTo yX0_shortenTo) (by decide +kernel)⟩ (gP_V (va_recv hK hP (ci := 0) rfl hk1x) hP hK hD gBl_T (fun _ _ _ => trivial)) rfl rfl hl.1 rfl (lv_room (Nat.le_of_ble_eq_true rfl)) dX1_move_70 ⟨by omega, by omega⟩) hD hS hA (fun u H locs _ hP hD hS => ?_)
                refine lv_iload hx hb dX1_move_73 (lv_at hl 6 rfl) ?_
                refine lv_aload hx hb dX1_move_75 (lv_at hl 7 rfl) ?_
                refine g_calli (va_runVN (C := RX0) (As := []) (rest := [.int (nI mv)]) ⟨hx, hb, hml, hown, hts⟩ (c_len l D tys X L S H.size e2 e3 x2) ⟨va_cnB 0 hts gX1_move_X0_length_n99 rfl rfl rfl nm_length (hts (.initialized RX0) (by decide +kernel)) (by decide +kernel) ⟨by show 0 + 1 ≤ R.frames; omega, by show 8 + (1 + 11) + 0 ≤ R.locals; omega⟩, hts (.instanceMethod yX0_length) (by decide +kernel), hts (.selects RX0 yX0_length yX0_length) (by decide +kernel)⟩ (gP_V (va_recv hK hP (ci := 0) rfl hk1x) hP hK hD gBl_T (fun _ _ _ => trivial)) rfl rfl hl.1 rfl (lv_room (Nat.le_of_ble_eq_true rfl)) dX1_move_77 ⟨by omega, by omega⟩) hD hS hA (fun r9 u H locs hr1 hP hD hS => ?_)
                subst hr1
                refine lv_isub hx hb dX1_move_80 ?_
                refine g_top (y := nI (mv - (dl - df + 1))) (pk_sub hle) ?_
                refine lv_istore (lv' := [(6, .int (nI (mv - (dl - df + 1)))), (0, .ref h0), (1, .int fr), (2, .int to), (3, .int (nI stay)), (4, .int (nI cnt)), (5, .int (nI st)), (7, .ref a1)]) hx hb dX1_move_81 hl (by decide) rfl (fun ls hl => ?_)
                refine lv_aload hx hb dX1_move_83 (lv_at hl 7 rfl) ?_
                refine lv_iload_n hx hb dX1_move_85 rfl (lv_at hl 3 rfl) ?_
                have hw := gE_put (f := df) (la := dl) (pl := to) (nx := nx1) hD e2 hk10
                refine va_putN (D := D) (ci := 0) (v := .int to) (ty := .int) (C := RX0) (T := TX0) (N := 4) hx hb hts hi0 tyX0 tyX0_ok nmX0 hown hK hP hD hS k1 hk1x rfl 2 (by decide) f_place (fun _ h9 => h9) rfl (by decide +kernel) rfl rfl (Nat.le_of_ble_eq_true rfl) dX1_move_86 (fun H locs hP2 hD2 hS => ?_)
                have hP := g_eqP hw hP2
                have hD := g_eqD hw hD2
                have h8 := h9 dl x2 (Nat.le_refl _)
                refine hfin L _ dl to nx1 r st (mv - (dl - df + 1)) kc ns H locs ls x2 x3 x5 (fun j h1 h2 => ?_) (va_up_self _ _ _) e2 ?_ (fun b hb hba => ⟨hb, va_up_ne _ _ hba⟩) (by omega) (by omega) (by omega) (by omega) hP hD hS (lv_sub hl [1, 2, 3, 4, 5, 6, 0, 7] rfl)
                · have := h9 j h1 h2; exact gmv_in (x4 j h1 h2) (by omega) (by omega)
                · refine gch_frame r (dl + 1) nx1 x5 (fun b hb hk => ⟨hb, ?_⟩) e4
                  have hba : b ≠ a1 := fun z => by subst z; rw [e3] at hk; have hk : dl + 1 ≤ df := hk; omega
                  exact va_up_ne _ _ hba
          · have hst1 : 1 ≤ st := by rcases Nat.eq_zero_or_pos st with z | z; exact absurd (by rw [z]; exact Int32.le_refl _) c3; exact z
            refine lv_aload hx hb dX1_move_37 (lv_at hl 7 rfl) ?_
            refine lv_iload hx hb dX1_move_39 (lv_at hl 5 rfl) ?_
            rcases Nat.lt_or_ge st (dl - df + 1) with hlt | hle
            · skip
              refine g_callv (va_runVN (C := RX0) (As := [.int (nI st)]) (rest := []) ⟨hx, hb, hml, hown, hts⟩ (c_shortB l D tys X L S H.size e2 e3 x2 (by omega) hlt (by omega)) ⟨va_cnB 1 hts gX1_move_X0_shortenTo_n110 rfl rfl rfl nm_short (hts (.initialized RX0) (by decide +kernel)) (by decide +kernel) ⟨by show 2 + 1 ≤ R.frames; omega, by show 8 + (3 + 11) + 36 ≤ R.locals; omega⟩, hts (.instanceMethod yX0_shortenTo) (by decide +kernel), hts (.selects RX0 yX0_shortenTo yX0_shortenTo) (by decide +kernel)⟩ (gP_V (va_recv hK hP (ci := 0) rfl hk1x) hP hK hD gBl_T (fun _ _ _ => trivial)) rfl rfl hl.1 rfl (lv_room (Nat.le_of_ble_eq_true rfl)) dX1_move_41 ⟨by omega, by omega⟩) hD hS hA (fun q H locs hq hP hD hS => ?_)
              have hqa : a1 ≠ q := fun z => hq (z ▸ e2)
              have hL1 : a1 ∈ L ++ [q] := List.mem_append_left _ e2
              obtain ⟨S1, hS1⟩ : ∃ z, z = va_up (va_up S q (df + st, dl, fr, nx1)) a1 (df, df + st - 1, fr, some q) := ⟨_, rfl⟩
              rw [← hS1] at hP hD
              have g1 : S1 a1 = (df, df + st - 1, fr, some q) := by rw [hS1, va_up_self]
              have g2 : S1 q = (df + st, dl, fr, nx1) := by rw [hS1, va_up_ne _ _ (Ne.symm hqa), va_up_self]
              have g3 : ∀ b ∈ L, b ≠ a1 → b ∈ L ++ [q] ∧ S1 b = S b := fun b hb hba => ⟨List.mem_append_left _ hb, by rw [hS1, va_up_ne _ _ hba, va_up_ne _ _ (show b ≠ q from fun z => hq (by rw [← z]; exact hb))]⟩
              obtain ⟨k3, hk30, hk3⟩ := gE_get (X := X) hL1 g1
              refine lv_iload hx hb dX1_move_44 (lv_at hl 5 rfl) ?_
              refine lv_aload hx hb dX1_move_46 (lv_at hl 7 rfl) ?_
              refine g_calli (va_runVN (C := RX0) (As := []) (rest := [.int (nI st)]) ⟨hx, hb, hml, hown, hts⟩ (c_len l D tys X (L ++ [q]) S1 H.size hL1 g1 (by omega)) ⟨va_cnB 0 hts gX1_move_X0_length_n99 rfl rfl rfl nm_length (hts (.initialized RX0) (by decide +kernel)) (by decide +kernel) ⟨by show 0 + 1 ≤ R.frames; omega, by show 8 + (1 + 11) + 0 ≤ R.locals; omega⟩, hts (.instanceMethod yX0_length) (by decide +kernel), hts (.selects RX0 yX0_length yX0_length) (by decide +kernel)⟩ (gP_V (va_recv hK hP (ci := 0) rfl hk3) hP hK hD gBl_T (fun _ _ _ => trivial)) rfl rfl hl.1 rfl (lv_room (Nat.le_of_ble_eq_true rfl)) dX1_move_48 ⟨by omega, by omega⟩) hD hS hA (fun r9 u H locs hr1 hP hD hS => ?_)
              subst hr1
              refine lv_isub hx hb dX1_move_51 ?_
              refine g_top (y := nI 0) (by rw [show df + st - 1 - df + 1 = st by omega, pk_sub (Nat.le_refl _), Nat.sub_self]) ?_
              refine lv_istore (lv' := [(5, .int (nI 0)), (0, .ref h0), (1, .int fr), (2, .int to), (3, .int (nI stay)), (4, .int (nI cnt)), (6, .int (nI mv)), (7, .ref a1)]) hx hb dX1_move_52 hl (by decide) rfl (fun ls hl => ?_)
              refine lv_goto (tgt := 89) hx hb dX1_move_54 (by decide) ?_
              refine hfin (L ++ [q]) S1 (df + st - 1) fr (some q) ((df + st, dl, fr) :: r) 0 mv (kc + 1) (ns + 4) H locs ls (by omega) (by omega) ⟨by show df + st = df + st - 1 + 1; omega, by show df + st - 1 + 1 ≤ dl; omega, x3, fun j h1 h2 => x4 j (by omega) h2, x5⟩ (fun j h1 h2 => ?_) g1 hL1 ⟨q, nx1, rfl, List.mem_append_right _ (List.mem_singleton.mpr rfl), g2, ?_⟩ g3 ?_ ?_ (by omega) (by omega) hP hD hS (lv_sub hl [1, 2, 3, 4, 5, 0, 6, 7] rfl)
              · have := h9 j h1 (by omega); rw [gmv_out (Or.inr (Or.inl (by omega))), x4 j h1 (by omega)]
              · refine gch_frame r (dl + 1) nx1 x5 (fun b hb hk => ?_) e4
                have hba : b ≠ a1 := fun z => by subst z; rw [e3] at hk; have hk : dl + 1 ≤ df := hk; omega
                exact g3 b hb hba
              · have := h9 (df + st - 1) (by omega) (by omega); omega
              · have := h9 (df + st - 1) (by omega) (by omega); omega
            · skip
              refine g_callv (va_runVN (C := RX0) (As := [.int (nI st)]) (rest := []) ⟨hx, hb, hml, hown, hts⟩ (c_shortA l D tys X L S H.size e2 e3 x2 (by omega) hle) ⟨va_cnB 1 hts gX1_move_X0_shortenTo_n110 rfl rfl rfl nm_short (hts (.initialized RX0) (by decide +kernel)) (by decide +kernel) ⟨by show 1 + 1 ≤ R.frames; omega, by show 8 + (3 + 11) + 20 ≤ R.locals; omega⟩, hts (.instanceMethod yX0_shortenTo) (by decide +kernel), hts (.selects RX0 yX0_shortenTo yX0_shortenTo) (by decide +kernel)⟩ (gP_V (va_recv hK hP (ci := 0) rfl hk1x) hP hK hD gBl_T (fun _ _ _ => trivial)) rfl rfl hl.1 rfl (lv_room (Nat.le_of_ble_eq_true rfl)) dX1_move_41 ⟨by omega, by omega⟩) hD hS hA (fun u H locs _ hP hD hS => ?_)
              refine lv_iload hx hb dX1_move_44 (lv_at hl 5 rfl) ?_
              refine lv_aload hx hb dX1_move_46 (lv_at hl 7 rfl) ?_
              refine g_calli (va_runVN (C := RX0) (As := []) (rest := [.int (nI st)]) ⟨hx, hb, hml, hown, hts⟩ (c_len l D tys X L S H.size e2 e3 x2) ⟨va_cnB 0 hts gX1_move_X0_length_n99 rfl rfl rfl nm_length (hts (.initialized RX0) (by decide +kernel)) (by decide +kernel) ⟨by show 0 + 1 ≤ R.frames; omega, by show 8 + (1 + 11) + 0 ≤ R.locals; omega⟩, hts (.instanceMethod yX0_length) (by decide +kernel), hts (.selects RX0 yX0_length yX0_length) (by decide +kernel)⟩ (gP_V (va_recv hK hP (ci := 0) rfl hk1x) hP hK hD gBl_T (fun _ _ _ => trivial)) rfl rfl hl.1 rfl (lv_room (Nat.le_of_ble_eq_true rfl)) dX1_move_48 ⟨by omega, by omega⟩) hD hS hA (fun r9 u H locs hr1 hP hD hS => ?_)
              subst hr1
              refine lv_isub hx hb dX1_move_51 ?_
              refine g_top (y := nI (st - (dl - df + 1))) (pk_sub hle) ?_
              refine lv_istore (lv' := [(5, .int (nI (st - (dl - df + 1)))), (0, .ref h0), (1, .int fr), (2, .int to), (3, .int (nI stay)), (4, .int (nI cnt)), (6, .int (nI mv)), (7, .ref a1)]) hx hb dX1_move_52 hl (by decide) rfl (fun ls hl => ?_)
              refine lv_goto (tgt := 89) hx hb dX1_move_54 (by decide) ?_
              have h8 := h9 dl x2 (Nat.le_refl _)
              refine hfin L S dl fr nx1 r (st - (dl - df + 1)) mv kc ns H locs ls x2 x3 x5 (fun j h1 h2 => ?_) e3 e2 e4 (fun b hb _ => ⟨hb, rfl⟩) (by omega) (by omega) (by omega) (by omega) hP hD hS (lv_sub hl [1, 2, 3, 4, 5, 0, 6, 7] rfl)
              have := h9 j h1 h2; rw [gmv_out (Or.inr (Or.inl (by omega))), x4 j h1 h2]
set_option maxHeartbeats 4000000 in
set_option maxRecDepth 100000 in
/-- move(from, to, staying, count) -/
theorem c_move (l : Launch) (D : va_G) (tys : List (ClassId × FieldType)) (X : va_W) (L : List Nat) (S : gS) (sz : Nat) {P : Nat → Int32} {i h0 lo : Nat} {sv rv : Int32} {g : List (Nat × Nat × Int32)} (hX : X[i]? = some (gO h0 lo sv rv)) (hw0 : gwf P 1 g) (hmx : gmx P g) (hch : gch L S (some lo) g) (fr to : Int32) {stay cnt : Nat} (hstay : stay ≤ 5000) (hc1 : 1 ≤ cnt) (hc2 : cnt ≤ 5000) : Met l yX1_move wsX1_move ({ frames := 3, cells := 2, slots := 8, locals := 58 } : Room) (gP D tys [.ref h0, .int fr, .int to, .int (nI stay), .int (nI cnt)] (X ++ va_pl L (gE S)) sz gN) (va_Qi (fun (r : Int32) (u : List Nat × gS) => r = nI (min cnt (gct P fr 5000 - stay)) ∧ ∃ g', gch u.1 u.2 (some lo) g' ∧ gwf (gmv P fr to stay cnt) 1 g' ∧ gmx (gmv P fr to stay cnt) g') (fun u t => gWd D tys (va_A (X ++ va_pl L (gE S)) sz) (X ++ va_pl u.1 (gE u.2)) t) (va_A (X ++ va_pl L (gE S)) sz)) 2 8 (va_A (X ++ va_pl L (gE S)) sz) := by
  refine g_ofW (cc := cX1_move) (maxL := 8) (ret := some .int) (by decide) rfl (Nat.le_of_ble_eq_true rfl) ?_
  intro p e s m below meth c hx hb hr hml hts hown hlocks hin hsz hP hK hD hA hS hG ls hl
  subst hsz
  have hown : s.vm.findClass RX1 = some m.cls := hown
  have hl : lv_has ls 8 [(0, .ref h0), (1, .int fr), (2, .int to), (3, .int (nI stay)), (4, .int (nI cnt))] := hl
  refine lv_iload_n hx hb dX1_move_0 rfl (lv_at hl 3 rfl) ?_
  refine lv_istore (lv' := [(5, .int (nI stay)), (0, .ref h0), (1, .int fr), (2, .int to), (3, .int (nI stay)), (4, .int (nI cnt))]) hx hb dX1_move_1 hl (by decide) rfl (fun ls hl => ?_)
  refine lv_iload hx hb dX1_move_3 (lv_at hl 5 rfl) ?_
  refine lv_istore (lv' := [(6, .int (nI cnt)), (5, .int (nI stay)), (0, .ref h0), (1, .int fr), (2, .int to), (3, .int (nI stay)), (4, .int (nI cnt))]) hx hb dX1_move_5 hl (by decide) rfl (fun ls hl => ?_)
  refine lv_aload_n hx hb dX1_move_7 rfl (lv_at hl 2 rfl) ?_
  refine va_get (D := D) (ci := 1) (v := .ref lo) (C := RX1) (T := TX1) (N := 3) hx hb hts i1_move hown hK hP i (g_inX hX) rfl 0 (by decide) (hts (.fieldLink RX1 14 "NumberGoblets" "lowest" "LNumberGoblets$Stretch;") (by decide +kernel)) (fun _ h9 => h9) rfl dX1_move_8 ?_
  refine lv_astore (lv' := [(7, .ref lo), (6, .int (nI cnt)), (5, .int (nI stay)), (0, .ref h0), (1, .int fr), (2, .int to), (3, .int (nI stay)), (4, .int (nI cnt))]) hx hb dX1_move_11 hl (by decide) rfl (fun ls hl => ?_)
  refine move_loop hstay hc1 hc2 ⟨Nat.le_refl _, Nat.le_refl _, Nat.le_refl _, Nat.le_refl _⟩ hx hb hml hts hown hK hG hA 5001 1 g (some lo) L S stay cnt 0 0 _ _ ls (by omega) (Nat.le_refl _) hw0 hch (by show stay = stay - 0; omega) (by show cnt = cnt - (0 - stay); omega) (by omega) (by omega) hP hD hS (lv_sub hl [3, 4, 5, 6, 7, 2, 1, 0] rfl) (fun L' S' g' mv' kc' ns' H locs ls q1 q2 _ q4 q5 q6 q7 hP hD hS hl => ?_)
  refine lv_aload_n hx hb dX1_move_99 rfl (lv_at hl 0 rfl) ?_
  refine W.widen q6 q7 ?_
  refine g_callv (va_runV (As := []) (rest := []) ⟨hx, hb, hml, hown, hts⟩ (c_join l D tys X L' S' H.size hX q2 q1) (cwV 0 hts gX1_move_X1_joinNeighbours rfl rfl rfl (by decide +kernel) ⟨Nat.le_of_ble_eq_true rfl, Nat.le_of_ble_eq_true rfl⟩) (gP_V (va_recv hK hP (ci := 1) rfl (g_inX hX)) hP hK hD gBl_N (fun U _ hW => hG.warm hW)) rfl rfl hl.1 rfl (lv_room (Nat.le_of_ble_eq_true rfl)) dX1_move_100 ⟨Nat.le_of_ble_eq_true rfl, Nat.le_of_ble_eq_true rfl⟩) hD hS hA (fun S2 H locs hu hP hD hS => ?_)
  obtain ⟨g2, t1, t2, t3⟩ := hu
  refine lv_iload hx hb dX1_move_103 (lv_at hl 1 rfl) ?_
  refine lv_iload hx hb dX1_move_105 (lv_at hl 2 rfl) ?_
  refine lv_isub hx hb dX1_move_107 ?_
  refine g_top (y := nI (cnt - mv')) (pk_sub q4) ?_
  exact g_reti hx hb hr hlocks hK _ (L', S2) hP hD hS (Nat.le_refl _) (Nat.le_refl _) ⟨by rw [q5], g2, t1, t2, t3⟩ dX1_move_108
set_option maxHeartbeats 4000000 in
set_option maxRecDepth 100000 in
/-- moveAll(from, to) -/
theorem c_moveAll (l : Launch) (D : va_G) (tys : List (ClassId × FieldType)) (X : va_W) (L : List Nat) (S : gS) (sz : Nat) {P : Nat → Int32} {i h0 lo : Nat} {sv rv : Int32} {g : List (Nat × Nat × Int32)} (hX : X[i]? = some (gO h0 lo sv rv)) (hw0 : gwf P 1 g) (hmx : gmx P g) (hch : gch L S (some lo) g) (fr to : Int32) : Met l yX1_moveAll wsX1_moveAll ({ frames := 4, cells := 2, slots := 8, locals := 86 } : Room) (gP D tys [.ref h0, .int fr, .int to] (X ++ va_pl L (gE S)) sz gN) (va_Qi (fun (r : Int32) (u : List Nat × gS) => r = nI (gct P fr 5000) ∧ ∃ g', gch u.1 u.2 (some lo) g' ∧ gwf (gmv P fr to 0 5000) 1 g' ∧ gmx (gmv P fr to 0 5000) g') (fun u t => gWd D tys (va_A (X ++ va_pl L (gE S)) sz) (X ++ va_pl u.1 (gE u.2)) t) (va_A (X ++ va_pl L (gE S)) sz)) 2 8 (va_A (X ++ va_pl L (gE S)) sz) := by
  refine g_ofW (cc := cX1_moveAll) (maxL := 3) (ret := some .int) (by decide) rfl (Nat.le_of_ble_eq_true rfl) ?_
  intro p e s m below meth c hx hb hr hml hts hown hlocks hin hsz hP hK hD hA hS hG ls hl
  subst hsz
  have hown : s.vm.findClass RX1 = some m.cls := hown
  have hl : lv_has ls 3 [(0, .ref h0), (1, .int fr), (2, .int to)] := hl
  refine lv_aload_n hx hb dX1_moveAll_0 rfl (lv_at hl 0 rfl) ?_
  refine lv_iload_n hx hb dX1_moveAll_1 rfl (lv_at hl 1 rfl) ?_
  refine lv_iload_n hx hb dX1_moveAll_2 rfl (lv_at hl 2 rfl) ?_
  refine lv_iconst (v := 0) hx hb dX1_moveAll_3 (by decide) ?_
  refine lv_sipush (v := 5000) hx hb dX1_moveAll_4 (by decide) ?_
  refine g_calli (va_runV (As := [.int fr, .int to, .int 0, .int 5000]) (rest := []) ⟨hx, hb, hml, hown, hts⟩ (c_move l D tys X L S s.heap.size hX hw0 hmx hch fr to (stay := 0) (cnt := 5000) (by omega) (by omega) (Nat.le_refl _)) (cwV 4 hts gX1_moveAll_X1_move rfl rfl rfl (by decide +kernel) ⟨Nat.le_of_ble_eq_true rfl, Nat.le_of_ble_eq_true rfl⟩) (gP_V (va_recv hK hP (ci := 1) rfl (g_inX hX)) hP hK hD gBl_N (fun U _ hW => hG.warm hW)) rfl rfl hl.1 rfl (lv_room (Nat.le_of_ble_eq_true rfl)) dX1_moveAll_7 ⟨Nat.le_of_ble_eq_true rfl, Nat.le_of_ble_eq_true rfl⟩) hD hS hA (fun r u H locs hu hP hD hS => ?_)
  have hle := gct_le P fr 5000
  exact g_reti hx hb hr hlocks hK _ u hP hD hS (Nat.le_refl _) (Nat.le_refl _) ⟨by rw [hu.1, Nat.sub_zero, Nat.min_eq_right hle], hu.2⟩ dX1_moveAll_10
