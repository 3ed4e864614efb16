/-! NumberGoblets: what asks the chain -/
theorem g_inX {X Y : va_W} {i : Nat} {q : Nat × va_E} (h : X[i]? = some q) : (X ++ Y)[i]? = some q := by rw [List.getElem?_append_left (List.getElem?_eq_some_iff.mp h).1]; exact h
/-- the object itself: its lowest stretch, size, round -/
abbrev gO (h0 lo : Nat) (sv rv : Int32) : Nat × va_E := (h0, .inr (1, [.ref lo, .int sv, .int rv]))
theorem i0_numbersAtBelow : ∀ w ∈ u_ws RX0 TX0 4, w ∈ wsX1_numbersAtBelow := by decide +kernel
theorem i1_numbersAtBelow : ∀ w ∈ u_ws RX1 TX1 3, w ∈ wsX1_numbersAtBelow := by decide +kernel
theorem i0_rangesAt : ∀ w ∈ u_ws RX0 TX0 4, w ∈ wsX1_rangesAt := by decide +kernel
theorem i1_rangesAt : ∀ w ∈ u_ws RX1 TX1 3, w ∈ wsX1_rangesAt := by decide +kernel
theorem i0_lowestAt : ∀ w ∈ u_ws RX0 TX0 4, w ∈ wsX1_lowestAt := by decide +kernel
theorem i1_lowestAt : ∀ w ∈ u_ws RX1 TX1 3, w ∈ wsX1_lowestAt := by decide +kernel
theorem i0_rangeOfJug : ∀ w ∈ u_ws RX0 TX0 4, w ∈ wsX1_rangeOfJug := by decide +kernel
theorem i1_rangeOfJug : ∀ w ∈ u_ws RX1 TX1 3, w ∈ wsX1_rangeOfJug := by decide +kernel
theorem i0_placeOf : ∀ w ∈ u_ws RX0 TX0 4, w ∈ wsX1_placeOf := by decide +kernel
theorem i1_placeOf : ∀ w ∈ u_ws RX1 TX1 3, w ∈ wsX1_placeOf := by decide +kernel
theorem i0_longestRange : ∀ w ∈ u_ws RX0 TX0 4, w ∈ wsX1_longestRange := by decide +kernel
theorem i1_longestRange : ∀ w ∈ u_ws RX1 TX1 3, w ∈ wsX1_longestRange := by decide +kernel
theorem i0_lowestLeft : ∀ w ∈ u_ws RX0 TX0 4, w ∈ wsX1_lowestLeft := by decide +kernel
theorem i1_lowestLeft : ∀ w ∈ u_ws RX1 TX1 3, w ∈ wsX1_lowestLeft := by decide +kernel
theorem i0_joinNeighbours : ∀ w ∈ u_ws RX0 TX0 4, w ∈ wsX1_joinNeighbours := by decide +kernel
theorem i1_joinNeighbours : ∀ w ∈ u_ws RX1 TX1 3, w ∈ wsX1_joinNeighbours := by decide +kernel
theorem i0_move : ∀ w ∈ u_ws RX0 TX0 4, w ∈ wsX1_move := by decide +kernel
theorem i1_move : ∀ w ∈ u_ws RX1 TX1 3, w ∈ wsX1_move := by decide +kernel
set_option maxHeartbeats 4000000 in
set_option maxRecDepth 100000 in
/-- numbersAtBelow: its loop, from its head to the end -/
theorem nab_loop {p : Program} {l : Launch} {e : Env} {s : State} {m : MethodId} {args : Array Value} {below : List Frame} {meth : Method} {c : Code} {D : va_G} {tys : List (ClassId × FieldType)} {X : va_W} {L : List Nat} {S : gS} {P : Nat → Int32} {h0 : Nat} {p0 : Int32} {nu : Nat} (hnu : 1 ≤ nu) (hnu2 : nu ≤ 5001) (hx : p.tables.exec = Jvm.exec) (hb : c.code = cX1_numbersAtBelow) (hr : meth.sig.returnType = some .int) (hml : c.maxLocals = 5) (hts : ∀ w ∈ wsX1_numbersAtBelow, w.before args s = true) (hown : s.vm.findClass RX1 = some m.cls) (hlocks : meth.locks = false) (hK : va_K D vwCl tys s) (hG : gN s) (hA : ∀ q : Nat, s.heap.size ≤ q → va_A (X ++ va_pl L (gE S)) s.heap.size q) :
    ∀ (n k : Nat) (g : List (Nat × Nat × Int32)) (x : Option Nat) (acc : Int32) (H : Heap) (locs : List Loc) (ls : Array Slot), 5001 - k < n → 1 ≤ k → gwf P k g → gmx P g → gch L S x g → acc = nI (gct P p0 (min (k - 1) (nu - 1))) → va_P D vwCl (X ++ va_pl L (gE S)) H → va_D (va_A (X ++ va_pl L (gE S)) s.heap.size) (X ++ va_pl L (gE S)) → va_S (va_A (X ++ va_pl L (gE S)) s.heap.size) s.heap H locs → lv_has ls 5 [(0, .ref h0), (1, .int p0), (2, .int (nI nu)), (3, .int acc), (4, va_rf x)] →
    W p l e ({ frames := 1, cells := 0, slots := 0, locals := 16 } : Room) s m args below meth c H locs 0 0 (MQ below (va_Qi (fun (r : Int32) (_ : Unit) => r = nI (gct P p0 (nu - 1))) (fun _ t => gWd D tys (va_A (X ++ va_pl L (gE S)) s.heap.size) (X ++ va_pl L (gE S)) t) (va_A (X ++ va_pl L (gE S)) s.heap.size)) args s 0 0 (va_A (X ++ va_pl L (gE S)) s.heap.size)) (F0 m 8 ls []) := by
  have hi0 := i0_numbersAtBelow
  obtain ⟨⟨nf_first, nf_last, nf_place, nf_next⟩, nm_init, nm_length, nm_short, nm_absorb⟩ := hG
  have f_first := va_Nw.use (A := args) rfl nf_first
  have f_last := va_Nw.use (A := args) rfl nf_last
  have f_place := va_Nw.use (A := args) rfl nf_place
  have f_next := va_Nw.use (A := args) rfl nf_next
  intro n
  induction n with
  | zero => intro k g x acc H locs ls hn; exact absurd hn (Nat.not_lt_zero _)
  | succ n ih =>
    intro k g x acc H locs ls hn hk1 hw0 hmx hch hacc hP hD hS hl
    cases g with
    | nil =>
      have hk5 : k = 5001 := hw0
      have hch : x = none := hch
      subst hch
      refine lv_aloadN hx hb dX1_numbersAtBelow_8 (lv_at hl 4 rfl) ?_
      refine lv_ifnullN (tgt := 63) hx hb dX1_numbersAtBelow_10 (by decide) ?_
      refine lv_iload_n hx hb dX1_numbersAtBelow_63 rfl (lv_at hl 3 rfl) ?_
      exact g_reti hx hb hr hlocks hK (acc) () hP hD hS (Nat.le_refl _) (Nat.le_refl _) (by rw [hacc, hk5, show min (5001 - 1) (nu - 1) = nu - 1 by omega]) dX1_numbersAtBelow_64
    | cons d r =>
      obtain ⟨a1, nx1, rfl, e2, e3, e4⟩ := hch
      obtain ⟨df, dl, dp⟩ := d
      obtain ⟨x1, x2, x3, x4, x5⟩ := hw0
      obtain ⟨m1, m2⟩ := hmx
      have x1 : df = k := x1
      subst x1
      have x2 : df ≤ dl := x2
      have x3 : dl ≤ 5000 := x3
      have x4 : ∀ j, df ≤ j → j ≤ dl → P j = dp := x4
      have x5 : gwf P (dl + 1) r := x5
      have m1 : df = 1 ∨ ¬ P (df - 1) = dp := m1
      obtain ⟨k1, hk10, hk1x⟩ := gE_get (X := X) e2 e3
      refine lv_aload hx hb dX1_numbersAtBelow_8 (lv_at hl 4 rfl) ?_
      refine lv_ifnull hx hb dX1_numbersAtBelow_10 ?_
      refine lv_aload hx hb dX1_numbersAtBelow_13 (lv_at hl 4 rfl) ?_
      refine va_getN (D := D) (ci := 0) (v := .int (nI df)) (C := RX0) (T := TX0) (N := 4) hx hb hts hi0 hown hK hP k1 hk1x rfl 0 (by decide) f_first (fun _ h9 => h9) rfl dX1_numbersAtBelow_15 ?_
      refine lv_iload_n hx hb dX1_numbersAtBelow_18 rfl (lv_at hl 2 rfl) ?_
      refine lv_icmp_ge (tgt := 63) hx hb dX1_numbersAtBelow_19 (by decide) (fun c1 => ?_) (fun c1 => ?_)
      · have hge : nu ≤ df := by rcases Nat.lt_or_ge df nu with z | z; exact absurd c1 (nI_ge z (by omega)); exact z
        refine lv_iload_n hx hb dX1_numbersAtBelow_63 rfl (lv_at hl 3 rfl) ?_
        exact g_reti hx hb hr hlocks hK (acc) () hP hD hS (Nat.le_refl _) (Nat.le_refl _) (by rw [hacc, show min (df - 1) (nu - 1) = nu - 1 by omega]) dX1_numbersAtBelow_64
      · have hlt : df < nu := by rcases Nat.lt_or_ge df nu with z | z; exact z; exact absurd (nI_le z (by omega)) c1
        rw [show min (df - 1) (nu - 1) = df - 1 by omega] at hacc
        refine lv_aload hx hb dX1_numbersAtBelow_22 (lv_at hl 4 rfl) ?_
        refine va_getN (D := D) (ci := 0) (v := .int dp) (C := RX0) (T := TX0) (N := 4) hx hb hts hi0 hown hK hP k1 hk1x rfl 2 (by decide) f_place (fun _ h9 => h9) rfl dX1_numbersAtBelow_24 ?_
        refine lv_iload_n hx hb dX1_numbersAtBelow_27 rfl (lv_at hl 1 rfl) ?_
        refine lv_icmp_ne (tgt := 53) hx hb dX1_numbersAtBelow_28 (by decide) (fun c2 => ?_) (fun c2 => ?_)
        · have h9 : gct P p0 (min dl (nu - 1)) = gct P p0 (df - 1) := gct_past (by omega) (fun j h1 h2 => by rw [x4 j h1 (by omega)]; exact c2)
          refine lv_aload hx hb dX1_numbersAtBelow_53 (lv_at hl 4 rfl) ?_
          refine va_getN (D := D) (ci := 0) (v := va_rf nx1) (C := RX0) (T := TX0) (N := 4) hx hb hts hi0 hown hK hP k1 hk1x rfl 3 (by decide) f_next (fun _ h9 => h9) rfl dX1_numbersAtBelow_55 ?_
          refine lq_astore (lv' := [(4, va_rf nx1), (0, .ref h0), (1, .int p0), (2, .int (nI nu)), (3, .int acc)]) hx hb dX1_numbersAtBelow_58 hl (by decide) rfl (fun ls hl => ?_)
          refine lv_goto (tgt := 8) hx hb dX1_numbersAtBelow_60 (by decide) ?_
          exact ih (dl + 1) r nx1 acc H locs ls (by omega) (by omega) x5 m2 e4 (by rw [hacc, show dl + 1 - 1 = dl by omega, h9]) hP hD hS (lv_sub hl [1, 2, 3, 4, 0] rfl)
        · have c2 := c2.symm
          subst c2
          have h9 : gct P p0 (min dl (nu - 1)) = gct P p0 (df - 1) + (min dl (nu - 1) - df + 1) := gct_to hk1 (by omega) (fun j h1 h2 => x4 j h1 (by omega))
          refine lv_iload_n hx hb dX1_numbersAtBelow_31 rfl (lv_at hl 3 rfl) ?_
          refine lv_aload hx hb dX1_numbersAtBelow_32 (lv_at hl 4 rfl) ?_
          refine va_getN (D := D) (ci := 0) (v := .int (nI dl)) (C := RX0) (T := TX0) (N := 4) hx hb hts hi0 hown hK hP k1 hk1x rfl 1 (by decide) f_last (fun _ h9 => h9) rfl dX1_numbersAtBelow_34 ?_
          refine lv_iload_n hx hb dX1_numbersAtBelow_37 rfl (lv_at hl 2 rfl) ?_
          refine lv_iconst (v := 1) hx hb dX1_numbersAtBelow_38 (by decide) ?_
          refine lv_isub hx hb dX1_numbersAtBelow_39 ?_
          refine g_top (y := nI (nu - 1)) (by rw [show (1 : Int32) = nI 1 from rfl]; exact pk_sub hnu) ?_
          refine va_mmin hx hb (hml.trans hl.1.symm) hown (hts (.methodLink RX1 119 Lib.Math.min.name) (by decide +kernel)) (hts (.static Lib.Math.min.name) (by decide +kernel)) (hts (.initialized "java/lang/Math") (by decide +kernel)) (hts (.code Lib.Math.min.name Lib.Math.min.code 2 (some .int)) (by decide +kernel)) (Nat.le_of_ble_eq_true rfl) (Nat.le_of_ble_eq_true rfl) (Nat.zero_le _) (Nat.zero_le _) dX1_numbersAtBelow_40 ?_
          refine g_top (y := nI (min dl (nu - 1))) (by by_cases z : nu - 1 < dl; rw [if_pos (nI_lt z (by omega)), show min dl (nu - 1) = nu - 1 by omega]; rw [if_neg (nI_nlt (by omega) (by omega)), show min dl (nu - 1) = dl by omega]) ?_
          refine lv_aload hx hb dX1_numbersAtBelow_43 (lv_at hl 4 rfl) ?_
          refine va_getN (D := D) (ci := 0) (v := .int (nI df)) (C := RX0) (T := TX0) (N := 4) hx hb hts hi0 hown hK hP k1 hk1x rfl 0 (by decide) f_first (fun _ h9 => h9) rfl dX1_numbersAtBelow_45 ?_
          refine lv_isub hx hb dX1_numbersAtBelow_48 ?_
          refine g_top (y := nI (min dl (nu - 1) - df)) (pk_sub (by omega)) ?_
          refine lv_iconst (v := 1) hx hb dX1_numbersAtBelow_49 (by decide) ?_
          refine lv_iadd hx hb dX1_numbersAtBelow_50 ?_
          refine g_top (y := nI (min dl (nu - 1) - df + 1)) (nI_1 _) ?_
          refine lv_iadd hx hb dX1_numbersAtBelow_51 ?_
          refine g_top (y := nI (gct P p0 (min dl (nu - 1)))) (by rw [hacc, nI_add, h9]) ?_
          refine lv_istore_n (lv' := [(3, .int (nI (gct P p0 (min dl (nu - 1))))), (0, .ref h0), (1, .int p0), (2, .int (nI nu)), (4, .ref a1)]) hx hb dX1_numbersAtBelow_52 rfl hl (by decide) rfl (fun ls hl => ?_)
          refine lv_aload hx hb dX1_numbersAtBelow_53 (lv_at hl 4 rfl) ?_
          refine va_getN (D := D) (ci := 0) (v := va_rf nx1) (C := RX0) (T := TX0) (N := 4) hx hb hts hi0 hown hK hP k1 hk1x rfl 3 (by decide) f_next (fun _ h9 => h9) rfl dX1_numbersAtBelow_55 ?_
          refine lq_astore (lv' := [(4, va_rf nx1), (3, .int (nI (gct P p0 (min dl (nu - 1))))), (0, .ref h0), (1, .int p0), (2, .int (nI nu))]) hx hb dX1_numbersAtBelow_58 hl (by decide) rfl (fun ls hl => ?_)
          refine lv_goto (tgt := 8) hx hb dX1_numbersAtBelow_60 (by decide) ?_
          exact ih (dl + 1) r nx1 _ H locs ls (by omega) (by omega) x5 m2 e4 (by rw [show dl + 1 - 1 = dl by omega]) hP hD hS (lv_sub hl [2, 3, 4, 1, 0] rfl)
set_option maxHeartbeats 4000000 in
set_option maxRecDepth 100000 in
/-- numbersAtBelow(place, number) -/
theorem c_nab (l : Launch) (D : va_G) (tys : List (ClassId × FieldType)) (X : va_W) (L : List Nat) (S : gS) (sz : Nat) {P : Nat → Int32} {i h0 lo : Nat} {sv rv : Int32} {g : List (Nat × Nat × Int32)} (hX : X[i]? = some (gO h0 lo sv rv)) (hw0 : gwf P 1 g) (hmx : gmx P g) (hch : gch L S (some lo) g) (p0 : Int32) {nu : Nat} (hnu : 1 ≤ nu) (hnu2 : nu ≤ 5001) : Met l yX1_numbersAtBelow wsX1_numbersAtBelow ({ frames := 1, cells := 0, slots := 0, locals := 16 } : Room) (gP D tys [.ref h0, .int p0, .int (nI nu)] (X ++ va_pl L (gE S)) sz gN) (va_Qi (fun (r : Int32) (_ : Unit) => r = nI (gct P p0 (nu - 1))) (fun _ t => gWd D tys (va_A (X ++ va_pl L (gE S)) sz) (X ++ va_pl L (gE S)) t) (va_A (X ++ va_pl L (gE S)) sz)) 0 0 (va_A (X ++ va_pl L (gE S)) sz) := by
  refine g_ofW (cc := cX1_numbersAtBelow) (maxL := 5) (ret := some .int) (by decide) rfl (Nat.le_of_ble_eq_true rfl) ?_
  intro p e s m below meth c hx hb hr hml hts hown hlocks hin hsz hP hK hD hA hS hG ls hl
  subst hsz
  have hown : s.vm.findClass RX1 = some m.cls := hown
  have hl : lv_has ls 5 [(0, .ref h0), (1, .int p0), (2, .int (nI nu))] := hl
  refine lv_iconst (v := 0) hx hb dX1_numbersAtBelow_0 (by decide) ?_
  refine lv_istore_n (lv' := [(3, .int 0), (0, .ref h0), (1, .int p0), (2, .int (nI nu))]) hx hb dX1_numbersAtBelow_1 rfl hl (by decide) rfl (fun ls hl => ?_)
  refine lv_aload_n hx hb dX1_numbersAtBelow_2 rfl (lv_at hl 1 rfl) ?_
  refine va_get (D := D) (ci := 1) (v := .ref lo) (C := RX1) (T := TX1) (N := 3) hx hb hts i1_numbersAtBelow hown hK hP i (g_inX hX) rfl 0 (by decide) (hts (.fieldLink RX1 14 "NumberGoblets" "lowest" "LNumberGoblets$Stretch;") (by decide +kernel)) (fun _ h9 => h9) rfl dX1_numbersAtBelow_3 ?_
  refine lv_astore (lv' := [(4, .ref lo), (3, .int 0), (0, .ref h0), (1, .int p0), (2, .int (nI nu))]) hx hb dX1_numbersAtBelow_6 hl (by decide) rfl (fun ls hl => ?_)
  exact nab_loop hnu hnu2 hx hb hr hml hts hown hlocks hK hG hA 5001 1 g (some lo) 0 _ _ ls (by omega) (Nat.le_refl _) hw0 hmx hch (by rw [show min (1 - 1) (nu - 1) = 0 by omega]; rfl) hP hD hS (lv_sub hl [2, 3, 4, 1, 0] rfl)
set_option maxHeartbeats 4000000 in
set_option maxRecDepth 100000 in
/-- rangesAt: its loop, from its head to the end -/
theorem ranges_loop {p : Program} {l : Launch} {e : Env} {s : State} {m : MethodId} {args : Array Value} {below : List Frame} {meth : Method} {c : Code} {D : va_G} {tys : List (ClassId × FieldType)} {X : va_W} {L : List Nat} {S : gS} {P : Nat → Int32} {h0 : Nat} {p0 : Int32} (hp0 : ¬ P 0 = p0) (hx : p.tables.exec = Jvm.exec) (hb : c.code = cX1_rangesAt) (hr : meth.sig.returnType = some .int) (hml : c.maxLocals = 4) (hts : ∀ w ∈ wsX1_rangesAt, w.before args s = true) (hown : s.vm.findClass RX1 = some m.cls) (hlocks : meth.locks = false) (hK : va_K D vwCl tys s) (hG : gN s) (hA : ∀ q : Nat, s.heap.size ≤ q → va_A (X ++ va_pl L (gE S)) s.heap.size q) :
    ∀ (n k : Nat) (g : List (Nat × Nat × Int32)) (x : Option Nat) (acc : Int32) (H : Heap) (locs : List Loc) (ls : Array Slot), 5001 - k < n → 1 ≤ k → gwf P k g → gmx P g → gch L S x g → acc = nI (gbg P p0 (k - 1)) → va_P D vwCl (X ++ va_pl L (gE S)) H → va_D (va_A (X ++ va_pl L (gE S)) s.heap.size) (X ++ va_pl L (gE S)) → va_S (va_A (X ++ va_pl L (gE S)) s.heap.size) s.heap H locs → lv_has ls 4 [(0, .ref h0), (1, .int p0), (2, .int acc), (3, va_rf x)] →
    W p l e ({ frames := 0, cells := 0, slots := 0, locals := 0 } : Room) s m args below meth c H locs 0 0 (MQ below (va_Qi (fun (r : Int32) (_ : Unit) => r = nI (gbg P p0 5000)) (fun _ t => gWd D tys (va_A (X ++ va_pl L (gE S)) s.heap.size) (X ++ va_pl L (gE S)) t) (va_A (X ++ va_pl L (gE S)) s.heap.size)) args s 0 0 (va_A (X ++ va_pl L (gE S)) s.heap.size)) (F0 m 7 ls []) := by
  have hi0 := i0_rangesAt
  obtain ⟨⟨nf_first, nf_last, nf_place, nf_next⟩, nm_init, nm_length, nm_short, nm_absorb⟩ := hG
  have f_place := va_Nw.use (A := args) rfl nf_place
  have f_next := va_Nw.use (A := args) rfl nf_next
  intro n
  induction n with
  | zero => intro k g x acc H locs ls hn; exact absurd hn (Nat.not_lt_zero _)
  | succ n ih =>
    intro k g x acc H locs ls hn hk1 hw0 hmx hch hacc hP hD hS hl
    cases g with
    | nil =>
      have hk5 : k = 5001 := hw0
      have hch : x = none := hch
      subst hch
      refine lv_aload_nN hx hb dX1_rangesAt_7 rfl (lv_at hl 3 rfl) ?_
      refine lv_ifnullN (tgt := 30) hx hb dX1_rangesAt_8 (by decide) ?_
      refine lv_iload_n hx hb dX1_rangesAt_30 rfl (lv_at hl 2 rfl) ?_
      exact g_reti hx hb hr hlocks hK (acc) () hP hD hS (Nat.le_refl _) (Nat.le_refl _) (by rw [hacc, hk5]) dX1_rangesAt_31
    | cons d r =>
      obtain ⟨a1, nx1, rfl, e2, e3, e4⟩ := hch
      obtain ⟨df, dl, dp⟩ := d
      obtain ⟨x1, x2, x3, x4, x5⟩ := hw0
      obtain ⟨m1, m2⟩ := hmx
      have x1 : df = k := x1
      subst x1
      have x2 : df ≤ dl := x2
      have x3 : dl ≤ 5000 := x3
      have x4 : ∀ j, df ≤ j → j ≤ dl → P j = dp := x4
      have x5 : gwf P (dl + 1) r := x5
      have m1 : df = 1 ∨ ¬ P (df - 1) = dp := m1
      obtain ⟨k1, hk10, hk1x⟩ := gE_get (X := X) e2 e3
      refine lv_aload_n hx hb dX1_rangesAt_7 rfl (lv_at hl 3 rfl) ?_
      refine lv_ifnull hx hb dX1_rangesAt_8 ?_
      refine lv_aload_n hx hb dX1_rangesAt_11 rfl (lv_at hl 3 rfl) ?_
      refine va_getN (D := D) (ci := 0) (v := .int dp) (C := RX0) (T := TX0) (N := 4) hx hb hts hi0 hown hK hP k1 hk1x rfl 2 (by decide) f_place (fun _ h9 => h9) rfl dX1_rangesAt_12 ?_
      refine lv_iload_n hx hb dX1_rangesAt_15 rfl (lv_at hl 1 rfl) ?_
      refine lv_icmp_ne (tgt := 22) hx hb dX1_rangesAt_16 (by decide) (fun c2 => ?_) (fun c2 => ?_)
      · have h9 : gbg P p0 dl = gbg P p0 (df - 1) := gbg_past hk1 (by omega) (fun j h1 h2 => by rw [x4 j h1 h2]; exact c2)
        refine lv_aload_n hx hb dX1_rangesAt_22 rfl (lv_at hl 3 rfl) ?_
        refine va_getN (D := D) (ci := 0) (v := va_rf nx1) (C := RX0) (T := TX0) (N := 4) hx hb hts hi0 hown hK hP k1 hk1x rfl 3 (by decide) f_next (fun _ h9 => h9) rfl dX1_rangesAt_23 ?_
        refine lq_astore_n (lv' := [(3, va_rf nx1), (0, .ref h0), (1, .int p0), (2, .int acc)]) hx hb dX1_rangesAt_26 rfl hl (by decide) rfl (fun ls hl => ?_)
        refine lv_goto (tgt := 7) hx hb dX1_rangesAt_27 (by decide) ?_
        exact ih (dl + 1) r nx1 acc H locs ls (by omega) (by omega) x5 m2 e4 (by rw [hacc, show dl + 1 - 1 = dl by omega, h9]) hP hD hS (lv_sub hl [1, 2, 3, 0] rfl)
      · have c2 := c2.symm
        subst c2
        have h9 : gbg P p0 dl = gbg P p0 (df - 1) + 1 := gbg_to hk1 x2 x4 (by rcases m1 with z | z; rw [z]; exact hp0; exact z)
        refine lv_iinc (v := nI (gbg P p0 dl)) (lv' := [(2, .int (nI (gbg P p0 dl))), (0, .ref h0), (1, .int p0), (3, .ref a1)]) hx hb dX1_rangesAt_19 hl (k := 2) rfl (by rw [hacc, h9, ← nI_1]; rfl) (by decide) rfl (fun ls hl => ?_)
        refine lv_aload_n hx hb dX1_rangesAt_22 rfl (lv_at hl 3 rfl) ?_
        refine va_getN (D := D) (ci := 0) (v := va_rf nx1) (C := RX0) (T := TX0) (N := 4) hx hb hts hi0 hown hK hP k1 hk1x rfl 3 (by decide) f_next (fun _ h9 => h9) rfl dX1_rangesAt_23 ?_
        refine lq_astore_n (lv' := [(3, va_rf nx1), (2, .int (nI (gbg P p0 dl))), (0, .ref h0), (1, .int p0)]) hx hb dX1_rangesAt_26 rfl hl (by decide) rfl (fun ls hl => ?_)
        refine lv_goto (tgt := 7) hx hb dX1_rangesAt_27 (by decide) ?_
        exact ih (dl + 1) r nx1 _ H locs ls (by omega) (by omega) x5 m2 e4 (by rw [show dl + 1 - 1 = dl by omega]) hP hD hS (lv_sub hl [2, 3, 1, 0] rfl)
set_option maxHeartbeats 4000000 in
set_option maxRecDepth 100000 in
/-- rangesAt(place) -/
theorem c_ranges (l : Launch) (D : va_G) (tys : List (ClassId × FieldType)) (X : va_W) (L : List Nat) (S : gS) (sz : Nat) {P : Nat → Int32} {i h0 lo : Nat} {sv rv : Int32} {g : List (Nat × Nat × Int32)} (hX : X[i]? = some (gO h0 lo sv rv)) (hw0 : gwf P 1 g) (hmx : gmx P g) (hch : gch L S (some lo) g) (p0 : Int32) (hp0 : ¬ P 0 = p0) : Met l yX1_rangesAt wsX1_rangesAt ({ frames := 0, cells := 0, slots := 0, locals := 0 } : Room) (gP D tys [.ref h0, .int p0] (X ++ va_pl L (gE S)) sz gN) (va_Qi (fun (r : Int32) (_ : Unit) => r = nI (gbg P p0 5000)) (fun _ t => gWd D tys (va_A (X ++ va_pl L (gE S)) sz) (X ++ va_pl L (gE S)) t) (va_A (X ++ va_pl L (gE S)) sz)) 0 0 (va_A (X ++ va_pl L (gE S)) sz) := by
  refine g_ofW (cc := cX1_rangesAt) (maxL := 4) (ret := some .int) (by decide) rfl (Nat.le_of_ble_eq_true rfl) ?_
  intro p e s m below meth c hx hb hr hml hts hown hlocks hin hsz hP hK hD hA hS hG ls hl
  subst hsz
  have hown : s.vm.findClass RX1 = some m.cls := hown
  have hl : lv_has ls 4 [(0, .ref h0), (1, .int p0)] := hl
  refine lv_iconst (v := 0) hx hb dX1_rangesAt_0 (by decide) ?_
  refine lv_istore_n (lv' := [(2, .int 0), (0, .ref h0), (1, .int p0)]) hx hb dX1_rangesAt_1 rfl hl (by decide) rfl (fun ls hl => ?_)
  refine lv_aload_n hx hb dX1_rangesAt_2 rfl (lv_at hl 1 rfl) ?_
  refine va_get (D := D) (ci := 1) (v := .ref lo) (C := RX1) (T := TX1) (N := 3) hx hb hts i1_rangesAt hown hK hP i (g_inX hX) rfl 0 (by decide) (hts (.fieldLink RX1 14 "NumberGoblets" "lowest" "LNumberGoblets$Stretch;") (by decide +kernel)) (fun _ h9 => h9) rfl dX1_rangesAt_3 ?_
  refine lv_astore_n (lv' := [(3, .ref lo), (2, .int 0), (0, .ref h0), (1, .int p0)]) hx hb dX1_rangesAt_6 rfl hl (by decide) rfl (fun ls hl => ?_)
  exact ranges_loop hp0 hx hb hr hml hts hown hlocks hK hG hA 5001 1 g (some lo) 0 _ _ ls (by omega) (Nat.le_refl _) hw0 hmx hch rfl hP hD hS (lv_sub hl [2, 3, 1, 0] rfl)
set_option maxHeartbeats 4000000 in
set_option maxRecDepth 100000 in
/-- lowestAt: its loop, from its head to the end -/
theorem lowest_loop {p : Program} {l : Launch} {e : Env} {s : State} {m : MethodId} {args : Array Value} {below : List Frame} {meth : Method} {c : Code} {D : va_G} {tys : List (ClassId × FieldType)} {X : va_W} {L : List Nat} {S : gS} {P : Nat → Int32} {h0 : Nat} {p0 : Int32} (hx : p.tables.exec = Jvm.exec) (hb : c.code = cX1_lowestAt) (hr : meth.sig.returnType = some .int) (hml : c.maxLocals = 3) (hts : ∀ w ∈ wsX1_lowestAt, w.before args s = true) (hown : s.vm.findClass RX1 = some m.cls) (hlocks : meth.locks = false) (hK : va_K D vwCl tys s) (hG : gN s) (hA : ∀ q : Nat, s.heap.size ≤ q → va_A (X ++ va_pl L (gE S)) s.heap.size q) :
    ∀ (n k : Nat) (g : List (Nat × Nat × Int32)) (x : Option Nat)  (H : Heap) (locs : List Loc) (ls : Array Slot), 5001 - k < n → 1 ≤ k → gwf P k g → gmx P g → gch L S x g → (∀ j, 1 ≤ j → j < k → ¬ P j = p0) → va_P D vwCl (X ++ va_pl L (gE S)) H → va_D (va_A (X ++ va_pl L (gE S)) s.heap.size) (X ++ va_pl L (gE S)) → va_S (va_A (X ++ va_pl L (gE S)) s.heap.size) s.heap H locs → lv_has ls 3 [(0, .ref h0), (1, .int p0), (2, va_rf x)] →
    W p l e ({ frames := 0, cells := 0, slots := 0, locals := 0 } : Room) s m args below meth c H locs 0 0 (MQ below (va_Qi (fun (r : Int32) (_ : Unit) => ∃ v, r = nI v ∧ glow (fun j => P j = p0) 5000 v) (fun _ t => gWd D tys (va_A (X ++ va_pl L (gE S)) s.heap.size) (X ++ va_pl L (gE S)) t) (va_A (X ++ va_pl L (gE S)) s.heap.size)) args s 0 0 (va_A (X ++ va_pl L (gE S)) s.heap.size)) (F0 m 5 ls []) := by
  have hi0 := i0_lowestAt
  obtain ⟨⟨nf_first, nf_last, nf_place, nf_next⟩, nm_init, nm_length, nm_short, nm_absorb⟩ := hG
  have f_first := va_Nw.use (A := args) rfl nf_first
  have f_place := va_Nw.use (A := args) rfl nf_place
  have f_next := va_Nw.use (A := args) rfl nf_next
  intro n
  induction n with
  | zero => intro k g x  H locs ls hn; exact absurd hn (Nat.not_lt_zero _)
  | succ n ih =>
    intro k g x  H locs ls hn hk1 hw0 hmx hch hno hP hD hS hl
    cases g with
    | nil =>
      have hk5 : k = 5001 := hw0
      have hch : x = none := hch
      subst hch
      refine lv_aload_nN hx hb dX1_lowestAt_5 rfl (lv_at hl 2 rfl) ?_
      refine lv_ifnullN (tgt := 30) hx hb dX1_lowestAt_6 (by decide) ?_
      refine lv_iconst (v := 0) hx hb dX1_lowestAt_30 (by decide) ?_
      exact g_reti hx hb hr hlocks hK (0) () hP hD hS (Nat.le_refl _) (Nat.le_refl _) (⟨0, rfl, Or.inl ⟨rfl, fun j h1 h2 => hno j h1 (by omega)⟩⟩) dX1_lowestAt_31
    | cons d r =>
      obtain ⟨a1, nx1, rfl, e2, e3, e4⟩ := hch
      obtain ⟨df, dl, dp⟩ := d
      obtain ⟨x1, x2, x3, x4, x5⟩ := hw0
      obtain ⟨m1, m2⟩ := hmx
      have x1 : df = k := x1
      subst x1
      have x2 : df ≤ dl := x2
      have x3 : dl ≤ 5000 := x3
      have x4 : ∀ j, df ≤ j → j ≤ dl → P j = dp := x4
      have x5 : gwf P (dl + 1) r := x5
      have m1 : df = 1 ∨ ¬ P (df - 1) = dp := m1
      obtain ⟨k1, hk10, hk1x⟩ := gE_get (X := X) e2 e3
      refine lv_aload_n hx hb dX1_lowestAt_5 rfl (lv_at hl 2 rfl) ?_
      refine lv_ifnull hx hb dX1_lowestAt_6 ?_
      refine lv_aload_n hx hb dX1_lowestAt_9 rfl (lv_at hl 2 rfl) ?_
      refine va_getN (D := D) (ci := 0) (v := .int dp) (C := RX0) (T := TX0) (N := 4) hx hb hts hi0 hown hK hP k1 hk1x rfl 2 (by decide) f_place (fun _ h9 => h9) rfl dX1_lowestAt_10 ?_
      refine lv_iload_n hx hb dX1_lowestAt_13 rfl (lv_at hl 1 rfl) ?_
      refine lv_icmp_ne (tgt := 22) hx hb dX1_lowestAt_14 (by decide) (fun c2 => ?_) (fun c2 => ?_)
      · skip
        refine lv_aload_n hx hb dX1_lowestAt_22 rfl (lv_at hl 2 rfl) ?_
        refine va_getN (D := D) (ci := 0) (v := va_rf nx1) (C := RX0) (T := TX0) (N := 4) hx hb hts hi0 hown hK hP k1 hk1x rfl 3 (by decide) f_next (fun _ h9 => h9) rfl dX1_lowestAt_23 ?_
        refine lq_astore_n (lv' := [(2, va_rf nx1), (0, .ref h0), (1, .int p0)]) hx hb dX1_lowestAt_26 rfl hl (by decide) rfl (fun ls hl => ?_)
        refine lv_goto (tgt := 5) hx hb dX1_lowestAt_27 (by decide) ?_
        exact ih (dl + 1) r nx1 H locs ls (by omega) (by omega) x5 m2 e4 (fun j h1 h2 => by by_cases z : j < df; exact hno j h1 z; rw [x4 j (by omega) (by omega)]; exact c2) hP hD hS (lv_sub hl [1, 2, 0] rfl)
      · have c2 := c2.symm
        subst c2
        refine lv_aload_n hx hb dX1_lowestAt_17 rfl (lv_at hl 2 rfl) ?_
        refine va_getN (D := D) (ci := 0) (v := .int (nI df)) (C := RX0) (T := TX0) (N := 4) hx hb hts hi0 hown hK hP k1 hk1x rfl 0 (by decide) f_first (fun _ h9 => h9) rfl dX1_lowestAt_18 ?_
        exact g_reti hx hb hr hlocks hK (nI df) () hP hD hS (Nat.le_refl _) (Nat.le_refl _) (⟨df, rfl, Or.inr ⟨hk1, by omega, x4 df (Nat.le_refl _) x2, hno⟩⟩) dX1_lowestAt_21
set_option maxHeartbeats 4000000 in
set_option maxRecDepth 100000 in
/-- lowestAt(place) -/
theorem c_lowest (l : Launch) (D : va_G) (tys : List (ClassId × FieldType)) (X : va_W) (L : List Nat) (S : gS) (sz : Nat) {P : Nat → Int32} {i h0 lo : Nat} {sv rv : Int32} {g : List (Nat × Nat × Int32)} (hX : X[i]? = some (gO h0 lo sv rv)) (hw0 : gwf P 1 g) (hmx : gmx P g) (hch : gch L S (some lo) g) (p0 : Int32) : Met l yX1_lowestAt wsX1_lowestAt ({ frames := 0, cells := 0, slots := 0, locals := 0 } : Room) (gP D tys [.ref h0, .int p0] (X ++ va_pl L (gE S)) sz gN) (va_Qi (fun (r : Int32) (_ : Unit) => ∃ v, r = nI v ∧ glow (fun j => P j = p0) 5000 v) (fun _ t => gWd D tys (va_A (X ++ va_pl L (gE S)) sz) (X ++ va_pl L (gE S)) t) (va_A (X ++ va_pl L (gE S)) sz)) 0 0 (va_A (X ++ va_pl L (gE S)) sz) := by
  refine g_ofW (cc := cX1_lowestAt) (maxL := 3) (ret := some .int) (by decide) rfl (Nat.le_of_ble_eq_true rfl) ?_
  intro p e s m below meth c hx hb hr hml hts hown hlocks hin hsz hP hK hD hA hS hG ls hl
  subst hsz
  have hown : s.vm.findClass RX1 = some m.cls := hown
  have hl : lv_has ls 3 [(0, .ref h0), (1, .int p0)] := hl
  refine lv_aload_n hx hb dX1_lowestAt_0 rfl (lv_at hl 0 rfl) ?_
  refine va_get (D := D) (ci := 1) (v := .ref lo) (C := RX1) (T := TX1) (N := 3) hx hb hts i1_lowestAt hown hK hP i (g_inX hX) rfl 0 (by decide) (hts (.fieldLink RX1 14 "NumberGoblets" "lowest" "LNumberGoblets$Stretch;") (by decide +kernel)) (fun _ h9 => h9) rfl dX1_lowestAt_1 ?_
  refine lv_astore_n (lv' := [(2, .ref lo), (0, .ref h0), (1, .int p0)]) hx hb dX1_lowestAt_4 rfl hl (by decide) rfl (fun ls hl => ?_)
  exact lowest_loop hx hb hr hml hts hown hlocks hK hG hA 5001 1 g (some lo) _ _ ls (by omega) (Nat.le_refl _) hw0 hmx hch (fun j h1 h2 => absurd h2 (by omega)) hP hD hS (lv_sub hl [1, 2, 0] rfl)
theorem g_between {v : Int32} {f la : Nat} (hf : f ≤ 5000) (hl : la ≤ 5000) (h1 : ¬ v < nI f) (h2 : ¬ nI la < v) : ∃ j : Nat, j ≤ 5000 ∧ v = nI j := by
  rw [Int32.lt_iff_toInt_lt] at h1 h2
  rw [nI_toInt (by omega)] at h1 h2
  refine ⟨v.toInt.toNat, by omega, ?_⟩
  rw [← Int32.toInt_inj, nI_toInt (by omega)]
  omega
set_option maxHeartbeats 4000000 in
set_option maxRecDepth 100000 in
/-- placeOf: its loop, from its head to the end -/
theorem place_loop {p : Program} {l : Launch} {e : Env} {s : State} {m : MethodId} {args : Array Value} {below : List Frame} {meth : Method} {c : Code} {D : va_G} {tys : List (ClassId × FieldType)} {X : va_W} {L : List Nat} {S : gS} {P : Nat → Int32} {h0 : Nat} {v0 : Int32} (hx : p.tables.exec = Jvm.exec) (hb : c.code = cX1_placeOf) (hr : meth.sig.returnType = some .int) (hml : c.maxLocals = 3) (hts : ∀ w ∈ wsX1_placeOf, w.before args s = true) (hown : s.vm.findClass RX1 = some m.cls) (hlocks : meth.locks = false) (hK : va_K D vwCl tys s) (hG : gN s) (hA : ∀ q : Nat, s.heap.size ≤ q → va_A (X ++ va_pl L (gE S)) s.heap.size q) :
    ∀ (n k : Nat) (g : List (Nat × Nat × Int32)) (x : Option Nat)  (H : Heap) (locs : List Loc) (ls : Array Slot), 5001 - k < n → 1 ≤ k → gwf P k g → gmx P g → gch L S x g → (∀ j, 1 ≤ j → j < k → ¬ v0 = nI j) → va_P D vwCl (X ++ va_pl L (gE S)) H → va_D (va_A (X ++ va_pl L (gE S)) s.heap.size) (X ++ va_pl L (gE S)) → va_S (va_A (X ++ va_pl L (gE S)) s.heap.size) s.heap H locs → lv_has ls 3 [(0, .ref h0), (1, .int v0), (2, va_rf x)] →
    W p l e ({ frames := 0, cells := 0, slots := 0, locals := 0 } : Room) s m args below meth c H locs 0 0 (MQ below (va_Qi (fun (r : Int32) (_ : Unit) => (∃ j : Nat, 1 ≤ j ∧ j ≤ 5000 ∧ v0 = nI j ∧ r = P j) ∨ (r = -1 ∧ ∀ j : Nat, 1 ≤ j → j ≤ 5000 → ¬ v0 = nI j)) (fun _ t => gWd D tys (va_A (X ++ va_pl L (gE S)) s.heap.size) (X ++ va_pl L (gE S)) t) (va_A (X ++ va_pl L (gE S)) s.heap.size)) args s 0 0 (va_A (X ++ va_pl L (gE S)) s.heap.size)) (F0 m 5 ls []) := by
  have hi0 := i0_placeOf
  obtain ⟨⟨nf_first, nf_last, nf_place, nf_next⟩, nm_init, nm_length, nm_short, nm_absorb⟩ := hG
  have f_first := va_Nw.use (A := args) rfl nf_first
  have f_last := va_Nw.use (A := args) rfl nf_last
  have f_place := va_Nw.use (A := args) rfl nf_place
  have f_next := va_Nw.use (A := args) rfl nf_next
  intro n
  induction n with
  | zero => intro k g x  H locs ls hn; exact absurd hn (Nat.not_lt_zero _)
  | succ n ih =>
    intro k g x  H locs ls hn hk1 hw0 hmx hch hno hP hD hS hl
    cases g with
    | nil =>
      have hk5 : k = 5001 := hw0
      have hch : x = none := hch
      subst hch
      refine lv_aload_nN hx hb dX1_placeOf_5 rfl (lv_at hl 2 rfl) ?_
      refine lv_ifnullN (tgt := 38) hx hb dX1_placeOf_6 (by decide) ?_
      refine lv_iconst (v := -1) hx hb dX1_placeOf_38 (by decide) ?_
      exact g_reti hx hb hr hlocks hK (-1) () hP hD hS (Nat.le_refl _) (Nat.le_refl _) (Or.inr ⟨rfl, fun j h1 h2 z => hno j h1 (by omega) z⟩) dX1_placeOf_39
    | cons d r =>
      obtain ⟨a1, nx1, rfl, e2, e3, e4⟩ := hch
      obtain ⟨df, dl, dp⟩ := d
      obtain ⟨x1, x2, x3, x4, x5⟩ := hw0
      obtain ⟨m1, m2⟩ := hmx
      have x1 : df = k := x1
      subst x1
      have x2 : df ≤ dl := x2
      have x3 : dl ≤ 5000 := x3
      have x4 : ∀ j, df ≤ j → j ≤ dl → P j = dp := x4
      have x5 : gwf P (dl + 1) r := x5
      have m1 : df = 1 ∨ ¬ P (df - 1) = dp := m1
      obtain ⟨k1, hk10, hk1x⟩ := gE_get (X := X) e2 e3
      refine lv_aload_n hx hb dX1_placeOf_5 rfl (lv_at hl 2 rfl) ?_
      refine lv_ifnull hx hb dX1_placeOf_6 ?_
      refine lv_iload_n hx hb dX1_placeOf_9 rfl (lv_at hl 1 rfl) ?_
      refine lv_aload_n hx hb dX1_placeOf_10 rfl (lv_at hl 2 rfl) ?_
      refine va_getN (D := D) (ci := 0) (v := .int (nI df)) (C := RX0) (T := TX0) (N := 4) hx hb hts hi0 hown hK hP k1 hk1x rfl 0 (by decide) f_first (fun _ h9 => h9) rfl dX1_placeOf_11 ?_
      refine lv_icmp_lt (tgt := 30) hx hb dX1_placeOf_14 (by decide) (fun c1 => ?_) (fun c1 => ?_)
      · skip
        refine lv_aload_n hx hb dX1_placeOf_30 rfl (lv_at hl 2 rfl) ?_
        refine va_getN (D := D) (ci := 0) (v := va_rf nx1) (C := RX0) (T := TX0) (N := 4) hx hb hts hi0 hown hK hP k1 hk1x rfl 3 (by decide) f_next (fun _ h9 => h9) rfl dX1_placeOf_31 ?_
        refine lq_astore_n (lv' := [(2, va_rf nx1), (0, .ref h0), (1, .int v0)]) hx hb dX1_placeOf_34 rfl hl (by decide) rfl (fun ls hl => ?_)
        refine lv_goto (tgt := 5) hx hb dX1_placeOf_35 (by decide) ?_
        exact ih (dl + 1) r nx1 H locs ls (by omega) (by omega) x5 m2 e4 (fun j h1 h2 z => by subst z; by_cases y : j < df; exact hno j h1 y rfl; exact absurd c1 (nI_nlt (by omega) (by omega))) hP hD hS (lv_sub hl [1, 2, 0] rfl)
      · skip
        refine lv_iload_n hx hb dX1_placeOf_17 rfl (lv_at hl 1 rfl) ?_
        refine lv_aload_n hx hb dX1_placeOf_18 rfl (lv_at hl 2 rfl) ?_
        refine va_getN (D := D) (ci := 0) (v := .int (nI dl)) (C := RX0) (T := TX0) (N := 4) hx hb hts hi0 hown hK hP k1 hk1x rfl 1 (by decide) f_last (fun _ h9 => h9) rfl dX1_placeOf_19 ?_
        refine lv_icmp_gt (tgt := 30) hx hb dX1_placeOf_22 (by decide) (fun c2 => ?_) (fun c2 => ?_)
        · skip
          refine lv_aload_n hx hb dX1_placeOf_30 rfl (lv_at hl 2 rfl) ?_
          refine va_getN (D := D) (ci := 0) (v := va_rf nx1) (C := RX0) (T := TX0) (N := 4) hx hb hts hi0 hown hK hP k1 hk1x rfl 3 (by decide) f_next (fun _ h9 => h9) rfl dX1_placeOf_31 ?_
          refine lq_astore_n (lv' := [(2, va_rf nx1), (0, .ref h0), (1, .int v0)]) hx hb dX1_placeOf_34 rfl hl (by decide) rfl (fun ls hl => ?_)
          refine lv_goto (tgt := 5) hx hb dX1_placeOf_35 (by decide) ?_
          exact ih (dl + 1) r nx1 H locs ls (by omega) (by omega) x5 m2 e4 (fun j h1 h2 z => by subst z; by_cases y : j < df; exact hno j h1 y rfl; exact absurd c2 (nI_nlt (by omega) (by omega))) hP hD hS (lv_sub hl [1, 2, 0] rfl)
        · obtain ⟨j, hj, rfl⟩ : ∃ j : Nat, j ≤ 5000 ∧ v0 = nI j := g_between (by omega) x3 c1 c2
          have h1 : df ≤ j := by rcases Nat.lt_or_ge j df with z | z; exact absurd (nI_lt z (by omega)) c1; exact z
          have h2 : j ≤ dl := by rcases Nat.lt_or_ge dl j with z | z; exact absurd (nI_lt z (by omega)) c2; exact z
          refine lv_aload_n hx hb dX1_placeOf_25 rfl (lv_at hl 2 rfl) ?_
          refine va_getN (D := D) (ci := 0) (v := .int dp) (C := RX0) (T := TX0) (N := 4) hx hb hts hi0 hown hK hP k1 hk1x rfl 2 (by decide) f_place (fun _ h9 => h9) rfl dX1_placeOf_26 ?_
          exact g_reti hx hb hr hlocks hK (dp) () hP hD hS (Nat.le_refl _) (Nat.le_refl _) (Or.inl ⟨j, by omega, hj, rfl, (x4 j h1 h2).symm⟩) dX1_placeOf_29
set_option maxHeartbeats 4000000 in
set_option maxRecDepth 100000 in
/-- placeOf(number) -/
theorem c_place (l : Launch) (D : va_G) (tys : List (ClassId × FieldType)) (X : va_W) (L : List Nat) (S : gS) (sz : Nat) {P : Nat → Int32} {i h0 lo : Nat} {sv rv : Int32} {g : List (Nat × Nat × Int32)} (hX : X[i]? = some (gO h0 lo sv rv)) (hw0 : gwf P 1 g) (hmx : gmx P g) (hch : gch L S (some lo) g) (v0 : Int32) : Met l yX1_placeOf wsX1_placeOf ({ frames := 0, cells := 0, slots := 0, locals := 0 } : Room) (gP D tys [.ref h0, .int v0] (X ++ va_pl L (gE S)) sz gN) (va_Qi (fun (r : Int32) (_ : Unit) => (∃ j : Nat, 1 ≤ j ∧ j ≤ 5000 ∧ v0 = nI j ∧ r = P j) ∨ (r = -1 ∧ ∀ j : Nat, 1 ≤ j → j ≤ 5000 → ¬ v0 = nI j)) (fun _ t => gWd D tys (va_A (X ++ va_pl L (gE S)) sz) (X ++ va_pl L (gE S)) t) (va_A (X ++ va_pl L (gE S)) sz)) 0 0 (va_A (X ++ va_pl L (gE S)) sz) := by
  refine g_ofW (cc := cX1_placeOf) (maxL := 3) (ret := some .int) (by decide) rfl (Nat.le_of_ble_eq_true rfl) ?_
  intro p e s m below meth c hx hb hr hml hts hown hlocks hin hsz hP hK hD hA hS hG ls hl
  subst hsz
  have hown : s.vm.findClass RX1 = some m.cls := hown
  have hl : lv_has ls 3 [(0, .ref h0), (1, .int v0)] := hl
  refine lv_aload_n hx hb dX1_placeOf_0 rfl (lv_at hl 0 rfl) ?_
  refine va_get (D := D) (ci := 1) (v := .ref lo) (C := RX1) (T := TX1) (N := 3) hx hb hts i1_placeOf hown hK hP i (g_inX hX) rfl 0 (by decide) (hts (.fieldLink RX1 14 "NumberGoblets" "lowest" "LNumberGoblets$Stretch;") (by decide +kernel)) (fun _ h9 => h9) rfl dX1_placeOf_1 ?_
  refine lv_astore_n (lv' := [(2, .ref lo), (0, .ref h0), (1, .int v0)]) hx hb dX1_placeOf_4 rfl hl (by decide) rfl (fun ls hl => ?_)
  exact place_loop hx hb hr hml hts hown hlocks hK hG hA 5001 1 g (some lo) _ _ ls (by omega) (Nat.le_refl _) hw0 hmx hch (fun j h1 h2 => absurd h2 (by omega)) hP hD hS (lv_sub hl [1, 2, 0] rfl)
set_option maxHeartbeats 4000000 in
set_option maxRecDepth 100000 in
/-- lowestLeft: its loop, from its head to the end -/
theorem left_loop {p : Program} {l : Launch} {e : Env} {s : State} {m : MethodId} {args : Array Value} {below : List Frame} {meth : Method} {c : Code} {D : va_G} {tys : List (ClassId × FieldType)} {X : va_W} {L : List Nat} {S : gS} {P : Nat → Int32} {h0 : Nat} (hx : p.tables.exec = Jvm.exec) (hb : c.code = cX1_lowestLeft) (hr : meth.sig.returnType = some .int) (hml : c.maxLocals = 2) (hts : ∀ w ∈ wsX1_lowestLeft, w.before args s = true) (hown : s.vm.findClass RX1 = some m.cls) (hlocks : meth.locks = false) (hK : va_K D vwCl tys s) (hG : gN s) (hA : ∀ q : Nat, s.heap.size ≤ q → va_A (X ++ va_pl L (gE S)) s.heap.size q) :
    ∀ (n k : Nat) (g : List (Nat × Nat × Int32)) (x : Option Nat)  (H : Heap) (locs : List Loc) (ls : Array Slot), 5001 - k < n → 1 ≤ k → gwf P k g → gmx P g → gch L S x g → (∀ j, 1 ≤ j → j < k → ¬ (¬ P j = 9 ∧ ¬ P j = -1)) → va_P D vwCl (X ++ va_pl L (gE S)) H → va_D (va_A (X ++ va_pl L (gE S)) s.heap.size) (X ++ va_pl L (gE S)) → va_S (va_A (X ++ va_pl L (gE S)) s.heap.size) s.heap H locs → lv_has ls 2 [(0, .ref h0), (1, va_rf x)] →
    W p l e ({ frames := 0, cells := 0, slots := 0, locals := 0 } : Room) s m args below meth c H locs 0 0 (MQ below (va_Qi (fun (r : Int32) (_ : Unit) => ∃ v, r = nI v ∧ glow (fun j => ¬ P j = 9 ∧ ¬ P j = -1) 5000 v) (fun _ t => gWd D tys (va_A (X ++ va_pl L (gE S)) s.heap.size) (X ++ va_pl L (gE S)) t) (va_A (X ++ va_pl L (gE S)) s.heap.size)) args s 0 0 (va_A (X ++ va_pl L (gE S)) s.heap.size)) (F0 m 5 ls []) := by
  have hi0 := i0_lowestLeft
  obtain ⟨⟨nf_first, nf_last, nf_place, nf_next⟩, nm_init, nm_length, nm_short, nm_absorb⟩ := hG
  have f_first := va_Nw.use (A := args) rfl nf_first
  have f_place := va_Nw.use (A := args) rfl nf_place
  have f_next := va_Nw.use (A := args) rfl nf_next
  intro n
  induction n with
  | zero => intro k g x  H locs ls hn; exact absurd hn (Nat.not_lt_zero _)
  | succ n ih =>
    intro k g x  H locs ls hn hk1 hw0 hmx hch hno hP hD hS hl
    cases g with
    | nil =>
      have hk5 : k = 5001 := hw0
      have hch : x = none := hch
      subst hch
      refine lv_aload_nN hx hb dX1_lowestLeft_5 rfl (lv_at hl 1 rfl) ?_
      refine lv_ifnullN (tgt := 39) hx hb dX1_lowestLeft_6 (by decide) ?_
      refine lv_iconst (v := 0) hx hb dX1_lowestLeft_39 (by decide) ?_
      exact g_reti hx hb hr hlocks hK (0) () hP hD hS (Nat.le_refl _) (Nat.le_refl _) (⟨0, rfl, Or.inl ⟨rfl, fun j h1 h2 => hno j h1 (by omega)⟩⟩) dX1_lowestLeft_40
    | cons d r =>
      obtain ⟨a1, nx1, rfl, e2, e3, e4⟩ := hch
      obtain ⟨df, dl, dp⟩ := d
      obtain ⟨x1, x2, x3, x4, x5⟩ := hw0
      obtain ⟨m1, m2⟩ := hmx
      have x1 : df = k := x1
      subst x1
      have x2 : df ≤ dl := x2
      have x3 : dl ≤ 5000 := x3
      have x4 : ∀ j, df ≤ j → j ≤ dl → P j = dp := x4
      have x5 : gwf P (dl + 1) r := x5
      have m1 : df = 1 ∨ ¬ P (df - 1) = dp := m1
      obtain ⟨k1, hk10, hk1x⟩ := gE_get (X := X) e2 e3
      refine lv_aload_n hx hb dX1_lowestLeft_5 rfl (lv_at hl 1 rfl) ?_
      refine lv_ifnull hx hb dX1_lowestLeft_6 ?_
      refine lv_aload_n hx hb dX1_lowestLeft_9 rfl (lv_at hl 1 rfl) ?_
      refine va_getN (D := D) (ci := 0) (v := .int dp) (C := RX0) (T := TX0) (N := 4) hx hb hts hi0 hown hK hP k1 hk1x rfl 2 (by decide) f_place (fun _ h9 => h9) rfl dX1_lowestLeft_10 ?_
      refine lv_bipush (v := 9) hx hb dX1_lowestLeft_13 (by decide) ?_
      refine lv_icmp_eq (tgt := 31) hx hb dX1_lowestLeft_15 (by decide) (fun c2 => ?_) (fun c2 => ?_)
      · skip
        refine lv_aload_n hx hb dX1_lowestLeft_31 rfl (lv_at hl 1 rfl) ?_
        refine va_getN (D := D) (ci := 0) (v := va_rf nx1) (C := RX0) (T := TX0) (N := 4) hx hb hts hi0 hown hK hP k1 hk1x rfl 3 (by decide) f_next (fun _ h9 => h9) rfl dX1_lowestLeft_32 ?_
        refine lq_astore_n (lv' := [(1, va_rf nx1), (0, .ref h0)]) hx hb dX1_lowestLeft_35 rfl hl (by decide) rfl (fun ls hl => ?_)
        refine lv_goto (tgt := 5) hx hb dX1_lowestLeft_36 (by decide) ?_
        exact ih (dl + 1) r nx1 H locs ls (by omega) (by omega) x5 m2 e4 (fun j h1 h2 => by by_cases z : j < df; exact hno j h1 z; rw [x4 j (by omega) (by omega)]; exact fun q => q.1 c2) hP hD hS (lv_sub hl [1, 0] rfl)
      · skip
        refine lv_aload_n hx hb dX1_lowestLeft_18 rfl (lv_at hl 1 rfl) ?_
        refine va_getN (D := D) (ci := 0) (v := .int dp) (C := RX0) (T := TX0) (N := 4) hx hb hts hi0 hown hK hP k1 hk1x rfl 2 (by decide) f_place (fun _ h9 => h9) rfl dX1_lowestLeft_19 ?_
        refine lv_iconst (v := -1) hx hb dX1_lowestLeft_22 (by decide) ?_
        refine lv_icmp_eq (tgt := 31) hx hb dX1_lowestLeft_23 (by decide) (fun c3 => ?_) (fun c3 => ?_)
        · skip
          refine lv_aload_n hx hb dX1_lowestLeft_31 rfl (lv_at hl 1 rfl) ?_
          refine va_getN (D := D) (ci := 0) (v := va_rf nx1) (C := RX0) (T := TX0) (N := 4) hx hb hts hi0 hown hK hP k1 hk1x rfl 3 (by decide) f_next (fun _ h9 => h9) rfl dX1_lowestLeft_32 ?_
          refine lq_astore_n (lv' := [(1, va_rf nx1), (0, .ref h0)]) hx hb dX1_lowestLeft_35 rfl hl (by decide) rfl (fun ls hl => ?_)
          refine lv_goto (tgt := 5) hx hb dX1_lowestLeft_36 (by decide) ?_
          exact ih (dl + 1) r nx1 H locs ls (by omega) (by omega) x5 m2 e4 (fun j h1 h2 => by by_cases z : j < df; exact hno j h1 z; rw [x4 j (by omega) (by omega)]; exact fun q => q.2 c3) hP hD hS (lv_sub hl [1, 0] rfl)
        · skip
          refine lv_aload_n hx hb dX1_lowestLeft_26 rfl (lv_at hl 1 rfl) ?_
          refine va_getN (D := D) (ci := 0) (v := .int (nI df)) (C := RX0) (T := TX0) (N := 4) hx hb hts hi0 hown hK hP k1 hk1x rfl 0 (by decide) f_first (fun _ h9 => h9) rfl dX1_lowestLeft_27 ?_
          exact g_reti hx hb hr hlocks hK (nI df) () hP hD hS (Nat.le_refl _) (Nat.le_refl _) (⟨df, rfl, Or.inr ⟨hk1, by omega, by show ¬ P df = 9 ∧ ¬ P df = -1; rw [x4 df (Nat.le_refl _) x2]; exact ⟨c2, c3⟩, hno⟩⟩) dX1_lowestLeft_30
set_option maxHeartbeats 4000000 in
set_option maxRecDepth 100000 in
/-- lowestLeft() -/
theorem c_left (l : Launch) (D : va_G) (tys : List (ClassId × FieldType)) (X : va_W) (L : List Nat) (S : gS) (sz : Nat) {P : Nat → Int32} {i h0 lo : Nat} {sv rv : Int32} {g : List (Nat × Nat × Int32)} (hX : X[i]? = some (gO h0 lo sv rv)) (hw0 : gwf P 1 g) (hmx : gmx P g) (hch : gch L S (some lo) g)  : Met l yX1_lowestLeft wsX1_lowestLeft ({ frames := 0, cells := 0, slots := 0, locals := 0 } : Room) (gP D tys [.ref h0] (X ++ va_pl L (gE S)) sz gN) (va_Qi (fun (r : Int32) (_ : Unit) => ∃ v, r = nI v ∧ glow (fun j => ¬ P j = 9 ∧ ¬ P j = -1) 5000 v) (fun _ t => gWd D tys (va_A (X ++ va_pl L (gE S)) sz) (X ++ va_pl L (gE S)) t) (va_A (X ++ va_pl L (gE S)) sz)) 0 0 (va_A (X ++ va_pl L (gE S)) sz) := by
  refine g_ofW (cc := cX1_lowestLeft) (maxL := 2) (ret := some .int) (by decide) rfl (Nat.le_of_ble_eq_true rfl) ?_
  intro p e s m below meth c hx hb hr hml hts hown hlocks hin hsz hP hK hD hA hS hG ls hl
  subst hsz
  have hown : s.vm.findClass RX1 = some m.cls := hown
  have hl : lv_has ls 2 [(0, .ref h0)] := hl
  refine lv_aload_n hx hb dX1_lowestLeft_0 rfl (lv_at hl 0 rfl) ?_
  refine va_get (D := D) (ci := 1) (v := .ref lo) (C := RX1) (T := TX1) (N := 3) hx hb hts i1_lowestLeft hown hK hP i (g_inX hX) rfl 0 (by decide) (hts (.fieldLink RX1 14 "NumberGoblets" "lowest" "LNumberGoblets$Stretch;") (by decide +kernel)) (fun _ h9 => h9) rfl dX1_lowestLeft_1 ?_
  refine lv_astore_n (lv' := [(1, .ref lo), (0, .ref h0)]) hx hb dX1_lowestLeft_4 rfl hl (by decide) rfl (fun ls hl => ?_)
  exact left_loop hx hb hr hml hts hown hlocks hK hG hA 5001 1 g (some lo) _ _ ls (by omega) (Nat.le_refl _) hw0 hmx hch (fun j h1 h2 => absurd h2 (by omega)) hP hD hS (lv_sub hl [1, 0] rfl)
set_option maxHeartbeats 4000000 in
set_option maxRecDepth 100000 in
/-- rangeOfJug: its loop, from its head to the end -/
theorem jug_loop {p : Program} {l : Launch} {e : Env} {s : State} {m : MethodId} {args : Array Value} {below : List Frame} {meth : Method} {c : Code} {D : va_G} {tys : List (ClassId × FieldType)} {X : va_W} {L : List Nat} {S : gS} {P : Nat → Int32} {h0 : Nat} {v0 : Int32} (h00 : P 0 = -1) (h51 : P 5001 = -1) (hx : p.tables.exec = Jvm.exec) (hb : c.code = cX1_rangeOfJug) (hr : meth.sig.returnType = some (.object "NumberGoblets$Stretch")) (hml : c.maxLocals = 4) (hts : ∀ w ∈ wsX1_rangeOfJug, w.before args s = true) (hown : s.vm.findClass RX1 = some m.cls) (hlocks : meth.locks = false) (hK : va_K D vwCl tys s) (hG : gN s) (hA : ∀ q : Nat, s.heap.size ≤ q → va_A (X ++ va_pl L (gE S)) s.heap.size q) :
    ∀ (n k : Nat) (g : List (Nat × Nat × Int32)) (x : Option Nat) (acc : Int32) (H : Heap) (locs : List Loc) (ls : Array Slot), 5001 - k < n → 1 ≤ k → gwf P k g → gmx P g → gch L S x g → acc = nI (gbg P 8 (k - 1)) → gen P 8 (k - 1) = gbg P 8 (k - 1) → (∀ j, 1 ≤ j → j < k → P j = 8 → ¬ P (j - 1) = 8 → ¬ v0 = nI (gbg P 8 (j - 1))) → va_P D vwCl (X ++ va_pl L (gE S)) H → va_D (va_A (X ++ va_pl L (gE S)) s.heap.size) (X ++ va_pl L (gE S)) → va_S (va_A (X ++ va_pl L (gE S)) s.heap.size) s.heap H locs → lv_has ls 4 [(0, .ref h0), (1, .int v0), (2, .int acc), (3, va_rf x)] →
    W p l e ({ frames := 0, cells := 0, slots := 0, locals := 0 } : Room) s m args below meth c H locs 0 0 (MQ below (va_Qq (fun (r : Option Nat) (_ : Unit) => (r = none ∧ ∀ j, 1 ≤ j → j ≤ 5000 → P j = 8 → ¬ P (j - 1) = 8 → ¬ v0 = nI (gbg P 8 (j - 1))) ∨ (∃ a f la nx, r = some a ∧ a ∈ L ∧ S a = (f, la, 8, nx) ∧ 1 ≤ f ∧ f ≤ la ∧ la ≤ 5000 ∧ (∀ j, f ≤ j → j ≤ la → P j = 8) ∧ ¬ P (f - 1) = 8 ∧ ¬ P (la + 1) = 8 ∧ v0 = nI (gbg P 8 (f - 1)) ∧ v0 = nI (gen P 8 (la - 1)))) (fun _ t => gWd D tys (va_A (X ++ va_pl L (gE S)) s.heap.size) (X ++ va_pl L (gE S)) t) (va_A (X ++ va_pl L (gE S)) s.heap.size)) args s 0 0 (va_A (X ++ va_pl L (gE S)) s.heap.size)) (F0 m 7 ls []) := by
  have hi0 := i0_rangeOfJug
  obtain ⟨⟨nf_first, nf_last, nf_place, nf_next⟩, nm_init, nm_length, nm_short, nm_absorb⟩ := hG
  have f_place := va_Nw.use (A := args) rfl nf_place
  have f_next := va_Nw.use (A := args) rfl nf_next
  intro n
  induction n with
  | zero => intro k g x acc H locs ls hn; exact absurd hn (Nat.not_lt_zero _)
  | succ n ih =>
    intro k g x acc H locs ls hn hk1 hw0 hmx hch hacc heq hno hP hD hS hl
    cases g with
    | nil =>
      have hk5 : k = 5001 := hw0
      have hch : x = none := hch
      subst hch
      refine lv_aload_nN hx hb dX1_rangeOfJug_7 rfl (lv_at hl 3 rfl) ?_
      refine lv_ifnullN (tgt := 38) hx hb dX1_rangeOfJug_8 (by decide) ?_
      refine lv_null hx hb dX1_rangeOfJug_38 ?_
      exact g_retq (r := none) hx hb hr hlocks hK () hP hD hS (Nat.le_refl _) (Nat.le_refl _) (Or.inl ⟨rfl, fun j h1 h2 h3 h4 => hno j h1 (by omega) h3 h4⟩) dX1_rangeOfJug_39
    | cons d r =>
      obtain ⟨a1, nx1, rfl, e2, e3, e4⟩ := hch
      obtain ⟨df, dl, dp⟩ := d
      obtain ⟨x1, x2, x3, x4, x5⟩ := hw0
      obtain ⟨m1, m2⟩ := hmx
      have x1 : df = k := x1
      subst x1
      have x2 : df ≤ dl := x2
      have x3 : dl ≤ 5000 := x3
      have x4 : ∀ j, df ≤ j → j ≤ dl → P j = dp := x4
      have x5 : gwf P (dl + 1) r := x5
      have m1 : df = 1 ∨ ¬ P (df - 1) = dp := m1
      obtain ⟨k1, hk10, hk1x⟩ := gE_get (X := X) e2 e3
      refine lv_aload_n hx hb dX1_rangeOfJug_7 rfl (lv_at hl 3 rfl) ?_
      refine lv_ifnull hx hb dX1_rangeOfJug_8 ?_
      refine lv_aload_n hx hb dX1_rangeOfJug_11 rfl (lv_at hl 3 rfl) ?_
      refine va_getN (D := D) (ci := 0) (v := .int dp) (C := RX0) (T := TX0) (N := 4) hx hb hts hi0 hown hK hP k1 hk1x rfl 2 (by decide) f_place (fun _ h9 => h9) rfl dX1_rangeOfJug_12 ?_
      refine lv_bipush (v := 8) hx hb dX1_rangeOfJug_15 (by decide) ?_
      refine lv_icmp_ne (tgt := 30) hx hb dX1_rangeOfJug_17 (by decide) (fun c2 => ?_) (fun c2 => ?_)
      · have h9 : gbg P 8 dl = gbg P 8 (df - 1) := gbg_past hk1 (by omega) (fun j h1 h2 => by rw [x4 j h1 h2]; exact c2)
        have h8 : gen P 8 dl = gen P 8 (df - 1) := gen_past hk1 (by omega) (fun j h1 h2 => by rw [x4 j h1 h2]; exact c2)
        refine lv_aload_n hx hb dX1_rangeOfJug_30 rfl (lv_at hl 3 rfl) ?_
        refine va_getN (D := D) (ci := 0) (v := va_rf nx1) (C := RX0) (T := TX0) (N := 4) hx hb hts hi0 hown hK hP k1 hk1x rfl 3 (by decide) f_next (fun _ h9 => h9) rfl dX1_rangeOfJug_31 ?_
        refine lq_astore_n (lv' := [(3, va_rf nx1), (0, .ref h0), (1, .int v0), (2, .int acc)]) hx hb dX1_rangeOfJug_34 rfl hl (by decide) rfl (fun ls hl => ?_)
        refine lv_goto (tgt := 7) hx hb dX1_rangeOfJug_35 (by decide) ?_
        exact ih (dl + 1) r nx1 acc H locs ls (by omega) (by omega) x5 m2 e4 (by rw [hacc, show dl + 1 - 1 = dl by omega, h9]) (by rw [show dl + 1 - 1 = dl by omega, h9, h8, heq]) (fun j h1 h2 h3 h4 => by by_cases z : j < df; exact hno j h1 z h3 h4; exact absurd ((x4 j (by omega) (by omega)).symm.trans h3) c2) hP hD hS (lv_sub hl [1, 2, 3, 0] rfl)
      · subst c2
        have hp1 : ¬ P (dl + 1) = 8 := by
          cases r with
          | nil => have z : dl + 1 = 5001 := x5; rw [z, h51]; decide
          | cons d2 r2 =>
            obtain ⟨y1, y2, y3, y4, y5⟩ := x5
            obtain ⟨z1, z2⟩ := m2
            rw [y4 (dl + 1) (Nat.le_refl _) y2]
            rw [y1] at z1
            rcases z1 with z | z
            · exact absurd z (by omega)
            · rw [Nat.add_sub_cancel, x4 dl x2 (Nat.le_refl _)] at z; exact fun q => z q.symm
        have m3 : ¬ P (df - 1) = 8 := by rcases m1 with z | z; rw [z, Nat.sub_self, h00]; decide; exact z
        have h9 : gbg P 8 dl = gbg P 8 (df - 1) + 1 := gbg_to hk1 x2 x4 m3
        obtain ⟨h8, h7⟩ := gen_to hk1 x2 x4 hp1
        refine lv_iload_n hx hb dX1_rangeOfJug_20 rfl (lv_at hl 2 rfl) ?_
        refine lv_iload_n hx hb dX1_rangeOfJug_21 rfl (lv_at hl 1 rfl) ?_
        refine lv_icmp_ne (tgt := 27) hx hb dX1_rangeOfJug_22 (by decide) (fun c3 => ?_) (fun c3 => ?_)
        · skip
          refine lv_iinc (v := nI (gbg P 8 dl)) (lv' := [(2, .int (nI (gbg P 8 dl))), (0, .ref h0), (1, .int v0), (3, .ref a1)]) hx hb dX1_rangeOfJug_27 hl (k := 2) rfl (by rw [hacc, h9, ← nI_1]; rfl) (by decide) rfl (fun ls hl => ?_)
          refine lv_aload_n hx hb dX1_rangeOfJug_30 rfl (lv_at hl 3 rfl) ?_
          refine va_getN (D := D) (ci := 0) (v := va_rf nx1) (C := RX0) (T := TX0) (N := 4) hx hb hts hi0 hown hK hP k1 hk1x rfl 3 (by decide) f_next (fun _ h9 => h9) rfl dX1_rangeOfJug_31 ?_
          refine lq_astore_n (lv' := [(3, va_rf nx1), (2, .int (nI (gbg P 8 dl))), (0, .ref h0), (1, .int v0)]) hx hb dX1_rangeOfJug_34 rfl hl (by decide) rfl (fun ls hl => ?_)
          refine lv_goto (tgt := 7) hx hb dX1_rangeOfJug_35 (by decide) ?_
          refine ih (dl + 1) r nx1 _ H locs ls (by omega) (by omega) x5 m2 e4 (by rw [show dl + 1 - 1 = dl by omega]) (by rw [show dl + 1 - 1 = dl by omega, h9, h8, heq]) (fun j h1 h2 h3 h4 => ?_) hP hD hS (lv_sub hl [2, 3, 1, 0] rfl)
          by_cases z : j < df
          · exact hno j h1 z h3 h4
          · by_cases y : j = df
            · subst y; exact fun q => c3 (by rw [hacc, q])
            · exact absurd (x4 (j - 1) (by omega) (by omega)) h4
        · skip
          refine lv_aload_n hx hb dX1_rangeOfJug_25 rfl (lv_at hl 3 rfl) ?_
          exact g_retq (r := some a1) hx hb hr hlocks hK () hP hD hS (Nat.le_refl _) (Nat.le_refl _) (Or.inr ⟨a1, df, dl, nx1, rfl, e2, e3, hk1, x2, x3, x4, m3, hp1, by rw [← hacc]; exact c3.symm, by rw [h7, heq, ← hacc]; exact c3.symm⟩) dX1_rangeOfJug_26
set_option maxHeartbeats 4000000 in
set_option maxRecDepth 100000 in
/-- rangeOfJug(range) -/
theorem c_jug (l : Launch) (D : va_G) (tys : List (ClassId × FieldType)) (X : va_W) (L : List Nat) (S : gS) (sz : Nat) {P : Nat → Int32} {i h0 lo : Nat} {sv rv : Int32} {g : List (Nat × Nat × Int32)} (hX : X[i]? = some (gO h0 lo sv rv)) (hw0 : gwf P 1 g) (hmx : gmx P g) (hch : gch L S (some lo) g) (v0 : Int32) (h00 : P 0 = -1) (h51 : P 5001 = -1) : Met l yX1_rangeOfJug wsX1_rangeOfJug ({ frames := 0, cells := 0, slots := 0, locals := 0 } : Room) (gP D tys [.ref h0, .int v0] (X ++ va_pl L (gE S)) sz gN) (va_Qq (fun (r : Option Nat) (_ : Unit) => (r = none ∧ ∀ j, 1 ≤ j → j ≤ 5000 → P j = 8 → ¬ P (j - 1) = 8 → ¬ v0 = nI (gbg P 8 (j - 1))) ∨ (∃ a f la nx, r = some a ∧ a ∈ L ∧ S a = (f, la, 8, nx) ∧ 1 ≤ f ∧ f ≤ la ∧ la ≤ 5000 ∧ (∀ j, f ≤ j → j ≤ la → P j = 8) ∧ ¬ P (f - 1) = 8 ∧ ¬ P (la + 1) = 8 ∧ v0 = nI (gbg P 8 (f - 1)) ∧ v0 = nI (gen P 8 (la - 1)))) (fun _ t => gWd D tys (va_A (X ++ va_pl L (gE S)) sz) (X ++ va_pl L (gE S)) t) (va_A (X ++ va_pl L (gE S)) sz)) 0 0 (va_A (X ++ va_pl L (gE S)) sz) := by
  refine g_ofW (cc := cX1_rangeOfJug) (maxL := 4) (ret := some (.object "NumberGoblets$Stretch")) (by decide) rfl (Nat.le_of_ble_eq_true rfl) ?_
  intro p e s m below meth c hx hb hr hml hts hown hlocks hin hsz hP hK hD hA hS hG ls hl
  subst hsz
  have hown : s.vm.findClass RX1 = some m.cls := hown
  have hl : lv_has ls 4 [(0, .ref h0), (1, .int v0)] := hl
  refine lv_iconst (v := 0) hx hb dX1_rangeOfJug_0 (by decide) ?_
  refine lv_istore_n (lv' := [(2, .int 0), (0, .ref h0), (1, .int v0)]) hx hb dX1_rangeOfJug_1 rfl hl (by decide) rfl (fun ls hl => ?_)
  refine lv_aload_n hx hb dX1_rangeOfJug_2 rfl (lv_at hl 1 rfl) ?_
  refine va_get (D := D) (ci := 1) (v := .ref lo) (C := RX1) (T := TX1) (N := 3) hx hb hts i1_rangeOfJug hown hK hP i (g_inX hX) rfl 0 (by decide) (hts (.fieldLink RX1 14 "NumberGoblets" "lowest" "LNumberGoblets$Stretch;") (by decide +kernel)) (fun _ h9 => h9) rfl dX1_rangeOfJug_3 ?_
  refine lv_astore_n (lv' := [(3, .ref lo), (2, .int 0), (0, .ref h0), (1, .int v0)]) hx hb dX1_rangeOfJug_6 rfl hl (by decide) rfl (fun ls hl => ?_)
  exact jug_loop h00 h51 hx hb hr hml hts hown hlocks hK hG hA 5001 1 g (some lo) 0 _ _ ls (by omega) (Nat.le_refl _) hw0 hmx hch rfl rfl (fun j h1 h2 => absurd h2 (by omega)) hP hD hS (lv_sub hl [2, 3, 1, 0] rfl)
