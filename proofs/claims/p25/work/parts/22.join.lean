/-! NumberGoblets: longestRange, numbersAt, joinNeighbours, move -/
/-- the longest range among the numbers up to n: its index and 1 (0 for none), its length, the length of the range that n ends -/
def glg (P : Nat → Int32) : Nat → Nat × Nat × Nat
  | 0 => (0, 0, 0)
  | n + 1 => if (glg P n).2.1 < (if P (n + 1) = 8 then (glg P n).2.2 + 1 else 0) then (gbg P 8 (n + 1), (if P (n + 1) = 8 then (glg P n).2.2 + 1 else 0), (if P (n + 1) = 8 then (glg P n).2.2 + 1 else 0)) else ((glg P n).1, (glg P n).2.1, (if P (n + 1) = 8 then (glg P n).2.2 + 1 else 0))
theorem glg_0 {P : Nat → Int32} {n : Nat} (h : ¬ P (n + 1) = 8) : glg P (n + 1) = ((glg P n).1, (glg P n).2.1, 0) := by simp [glg, h]
theorem glg_1 {P : Nat → Int32} {n : Nat} (h : P (n + 1) = 8) : glg P (n + 1) = if (glg P n).2.1 < (glg P n).2.2 + 1 then (gbg P 8 (n + 1), (glg P n).2.2 + 1, (glg P n).2.2 + 1) else ((glg P n).1, (glg P n).2.1, (glg P n).2.2 + 1) := by simp [glg, h]
theorem glg_past {P : Nat → Int32} {m : Nat} : ∀ d : Nat, (∀ j, m < j → j ≤ m + d → ¬ P j = 8) → (glg P (m + d)).1 = (glg P m).1 ∧ (glg P (m + d)).2.1 = (glg P m).2.1
  | 0, _ => ⟨rfl, rfl⟩
  | d + 1, h => by
    obtain ⟨h1, h2⟩ := glg_past (P := P) (m := m) d (fun j a b => h j a (by omega))
    rw [← Nat.add_assoc, glg_0 (h (m + d + 1) (by omega) (by omega))]
    exact ⟨h1, h2⟩
theorem glg_last {P : Nat → Int32} : ∀ m : Nat, ¬ P m = 8 → (glg P m).2.2 = 0
  | 0, _ => rfl
  | m + 1, h => by rw [glg_0 h]
theorem glg_run {P : Nat → Int32} {m : Nat} (h0 : ¬ P m = 8) : ∀ d : Nat, (∀ j, m < j → j ≤ m + d → P j = 8) → glg P (m + d) = if (glg P m).2.1 < d then (gbg P 8 m + 1, d, d) else ((glg P m).1, (glg P m).2.1, d)
  | 0, _ => by
    rw [if_neg (Nat.not_lt_zero _)]
    have := glg_last m h0
    rw [Nat.add_zero]
    exact Prod.ext rfl (Prod.ext rfl this)
  | d + 1, h => by
    have h1 := glg_run (P := P) (m := m) h0 d (fun j a b => h j a (by omega))
    have hb : gbg P 8 (m + d + 1) = gbg P 8 m + 1 := by
      have := gbg_to (P := P) (p := 8) (k := m + 1) (m := m + d + 1) (by omega) (by omega) (fun j a b => h j (by omega) (by omega)) (by rw [Nat.add_sub_cancel]; exact h0)
      rwa [Nat.add_sub_cancel] at this
    rw [← Nat.add_assoc, glg_1 (h (m + d + 1) (by omega) (by omega)), h1, hb]
    by_cases z : (glg P m).2.1 < d
    · rw [if_pos z, if_pos (show d < d + 1 by omega), if_pos (show (glg P m).2.1 < d + 1 by omega)]
    · rw [if_neg z]
theorem glg_to {P : Nat → Int32} {k m : Nat} (hk : 1 ≤ k) (hm : k ≤ m) (h : ∀ j, k ≤ j → j ≤ m → P j = 8) (h0 : ¬ P (k - 1) = 8) : glg P m = if (glg P (k - 1)).2.1 < m - k + 1 then (gbg P 8 (k - 1) + 1, m - k + 1, m - k + 1) else ((glg P (k - 1)).1, (glg P (k - 1)).2.1, m - k + 1) := by
  have := glg_run (P := P) (m := k - 1) h0 (m - k + 1) (fun j a b => h j (by omega) (by omega))
  rwa [show k - 1 + (m - k + 1) = m by omega] at this
theorem glg_no {P : Nat → Int32} {k m : Nat} (hk : 1 ≤ k) (hm : k ≤ m + 1) (h : ∀ j, k ≤ j → j ≤ m → ¬ P j = 8) : (glg P m).1 = (glg P (k - 1)).1 ∧ (glg P m).2.1 = (glg P (k - 1)).2.1 := by
  have := glg_past (P := P) (m := k - 1) (m + 1 - k) (fun j a b => h j (by omega) (by omega))
  rwa [show k - 1 + (m + 1 - k) = m by omega] at this
theorem glg_le (P : Nat → Int32) : ∀ n : Nat, (glg P n).1 ≤ n ∧ (glg P n).2.1 ≤ n ∧ (glg P n).2.2 ≤ n
  | 0 => ⟨Nat.le_refl _, Nat.le_refl _, Nat.le_refl _⟩
  | n + 1 => by
    obtain ⟨h1, h2, h3⟩ := glg_le P n
    have h4 := gbg_le P 8 (n + 1)
    by_cases z : P (n + 1) = 8
    · rw [glg_1 z]
      split
      · exact ⟨h4, by show (glg P n).2.2 + 1 ≤ n + 1; omega, by show (glg P n).2.2 + 1 ≤ n + 1; omega⟩
      · exact ⟨by show (glg P n).1 ≤ n + 1; omega, by show (glg P n).2.1 ≤ n + 1; omega, by show (glg P n).2.2 + 1 ≤ n + 1; omega⟩
    · rw [glg_0 z]
      exact ⟨by show (glg P n).1 ≤ n + 1; omega, by show (glg P n).2.1 ≤ n + 1; omega, Nat.zero_le _⟩
set_option maxHeartbeats 4000000 in
set_option maxRecDepth 100000 in
/-- numbersAt(place) -/
theorem c_numbers (l : Launch) (D : va_G) (tys : List (ClassId × FieldType)) (X : va_W) (L : List Nat) (S : gS) (sz : Nat) {P : Nat → Int32} {i h0 lo : Nat} {sv rv : Int32} {g : List (Nat × Nat × Int32)} (hX : X[i]? = some (gO h0 lo sv rv)) (hw0 : gwf P 1 g) (hmx : gmx P g) (hch : gch L S (some lo) g) (p0 : Int32) : Met l yX1_numbersAt wsX1_numbersAt ({ frames := 2, cells := 0, slots := 0, locals := 40 } : Room) (gP D tys [.ref h0, .int p0] (X ++ va_pl L (gE S)) sz gN) (va_Qi (fun (r : Int32) (_ : Unit) => r = nI (gct P p0 5000)) (fun _ t => gWd D tys (va_A (X ++ va_pl L (gE S)) sz) (X ++ va_pl L (gE S)) t) (va_A (X ++ va_pl L (gE S)) sz)) 0 0 (va_A (X ++ va_pl L (gE S)) sz) := by
  refine g_ofW (cc := cX1_numbersAt) (maxL := 2) (ret := some .int) (by decide) rfl (Nat.le_of_ble_eq_true rfl) ?_
  intro p e s m below meth c hx hb hr hml hts hown hlocks hin hsz hP hK hD hA hS hG ls hl
  subst hsz
  have hown : s.vm.findClass RX1 = some m.cls := hown
  have hl : lv_has ls 2 [(0, .ref h0), (1, .int p0)] := hl
  refine lv_aload_n hx hb dX1_numbersAt_0 rfl (lv_at hl 0 rfl) ?_
  refine lv_iload_n hx hb dX1_numbersAt_1 rfl (lv_at hl 1 rfl) ?_
  refine lv_sipush (v := 5001) hx hb dX1_numbersAt_2 (by decide) ?_
  refine g_calli (va_runV (As := [.int p0, .int 5001]) (rest := []) ⟨hx, hb, hml, hown, hts⟩ (c_nab l D tys X L S s.heap.size hX hw0 hmx hch p0 (nu := 5001) (by decide) (Nat.le_refl _)) (cwV 2 hts gX1_numbersAt_X1_numbersAtBelow rfl rfl rfl (by decide +kernel) ⟨Nat.le_of_ble_eq_true rfl, Nat.le_of_ble_eq_true rfl⟩) (gP_V (va_recv hK hP (ci := 1) rfl (g_inX hX)) hP hK hD gBl_N (fun U _ hW => hG.warm hW)) rfl rfl hl.1 rfl (lv_room (Nat.le_of_ble_eq_true rfl)) dX1_numbersAt_5 ⟨(Nat.zero_le _), (Nat.zero_le _)⟩) hD hS hA (fun r u H locs hr1 hP hD hS => ?_)
  exact g_reti hx hb hr hlocks hK r () hP hD hS (Nat.le_refl _) (Nat.le_refl _) hr1 dX1_numbersAt_8
set_option maxHeartbeats 4000000 in
set_option maxRecDepth 100000 in
/-- longestRange: its loop, from its head to the end -/
theorem longest_loop {p : Program} {l : Launch} {e : Env} {s : State} {m : MethodId} {args : Array Value} {below : List Frame} {meth : Method} {c : Code} {D : va_G} {tys : List (ClassId × FieldType)} {X : va_W} {L : List Nat} {S : gS} {P : Nat → Int32} {h0 : Nat} (h00 : P 0 = -1) (hx : p.tables.exec = Jvm.exec) (hb : c.code = cX1_longestRange) (hr : meth.sig.returnType = some .int) (hml : c.maxLocals = 5) (hts : ∀ w ∈ wsX1_longestRange, w.before args s = true) (hown : s.vm.findClass RX1 = some m.cls) (hlocks : meth.locks = false) (hK : va_K D vwCl tys s) (hG : gN s) (hA : ∀ q : Nat, s.heap.size ≤ q → va_A (X ++ va_pl L (gE S)) s.heap.size q) :
    ∀ (n k : Nat) (g : List (Nat × Nat × Int32)) (x : Option Nat) (bb mm rg : Int32) (H : Heap) (locs : List Loc) (ls : Array Slot), 5001 - k < n → 1 ≤ k → gwf P k g → gmx P g → gch L S x g → bb = nI (glg P (k - 1)).1 - 1 → mm = nI (glg P (k - 1)).2.1 → rg = nI (gbg P 8 (k - 1)) → va_P D vwCl (X ++ va_pl L (gE S)) H → va_D (va_A (X ++ va_pl L (gE S)) s.heap.size) (X ++ va_pl L (gE S)) → va_S (va_A (X ++ va_pl L (gE S)) s.heap.size) s.heap H locs → lv_has ls 5 [(0, .ref h0), (1, .int bb), (2, .int mm), (3, .int rg), (4, va_rf x)] →
    W p l e ({ frames := 1, cells := 0, slots := 0, locals := 20 } : Room) s m args below meth c H locs 0 0 (MQ below (va_Qi (fun (r : Int32) (_ : Unit) => r = nI (glg P 5000).1 - 1) (fun _ t => gWd D tys (va_A (X ++ va_pl L (gE S)) s.heap.size) (X ++ va_pl L (gE S)) t) (va_A (X ++ va_pl L (gE S)) s.heap.size)) args s 0 0 (va_A (X ++ va_pl L (gE S)) s.heap.size)) (F0 m 12 ls []) := by
  have hi0 := i0_longestRange
  obtain ⟨⟨nf_first, nf_last, nf_place, nf_next⟩, nm_init, nm_length, nm_short, nm_absorb⟩ := hG
  have f_place := va_Nw.use (A := args) rfl nf_place
  have f_next := va_Nw.use (A := args) rfl nf_next
  intro n
  induction n with
  | zero => intro k g x bb mm rg H locs ls hn; exact absurd hn (Nat.not_lt_zero _)
  | succ n ih =>
    intro k g x bb mm rg H locs ls hn hk1 hw0 hmx hch hbb hmm hrg hP hD hS hl
    cases g with
    | nil =>
      have hk5 : k = 5001 := hw0
      have hch : x = none := hch
      subst hch
      refine lv_aloadN hx hb dX1_longestRange_12 (lv_at hl 4 rfl) ?_
      refine lv_ifnullN (tgt := 57) hx hb dX1_longestRange_14 (by decide) ?_
      refine lv_iload_n hx hb dX1_longestRange_57 rfl (lv_at hl 1 rfl) ?_
      exact g_reti hx hb hr hlocks hK (bb) () hP hD hS (Nat.le_refl _) (Nat.le_refl _) (by rw [hbb, hk5]) dX1_longestRange_58
    | cons d r =>
      obtain ⟨a1, nx1, rfl, e2, e3, e4⟩ := hch
      obtain ⟨df, dl, dp⟩ := d
      obtain ⟨x1, x2, x3, x4, x5⟩ := hw0
      obtain ⟨m1, m2⟩ := hmx
      have x1 : df = k := x1
      subst x1
      have x2 : df ≤ dl := x2
      have x3 : dl ≤ 5000 := x3
      have x4 : ∀ j, df ≤ j → j ≤ dl → P j = dp := x4
      have x5 : gwf P (dl + 1) r := x5
      have m1 : df = 1 ∨ ¬ P (df - 1) = dp := m1
      obtain ⟨k1, hk10, hk1x⟩ := gE_get (X := X) e2 e3
      have hle := glg_le P (df - 1)
      refine lv_aload hx hb dX1_longestRange_12 (lv_at hl 4 rfl) ?_
      refine lv_ifnull hx hb dX1_longestRange_14 ?_
      refine lv_aload hx hb dX1_longestRange_17 (lv_at hl 4 rfl) ?_
      refine va_getN (D := D) (ci := 0) (v := .int dp) (C := RX0) (T := TX0) (N := 4) hx hb hts hi0 hown hK hP k1 hk1x rfl 2 (by decide) f_place (fun _ h9 => h9) rfl dX1_longestRange_19 ?_
      refine lv_bipush (v := 8) hx hb dX1_longestRange_22 (by decide) ?_
      refine lv_icmp_ne (tgt := 47) hx hb dX1_longestRange_24 (by decide) (fun c2 => ?_) (fun c2 => ?_)
      · have h9 : gbg P 8 dl = gbg P 8 (df - 1) := gbg_past hk1 (by omega) (fun j h1 h2 => by rw [x4 j h1 h2]; exact c2)
        obtain ⟨h8, h7⟩ := glg_no (P := P) (m := dl) hk1 (by omega) (fun j h1 h2 => by rw [x4 j h1 h2]; exact c2)
        refine lv_aload hx hb dX1_longestRange_47 (lv_at hl 4 rfl) ?_
        refine va_getN (D := D) (ci := 0) (v := va_rf nx1) (C := RX0) (T := TX0) (N := 4) hx hb hts hi0 hown hK hP k1 hk1x rfl 3 (by decide) f_next (fun _ h9 => h9) rfl dX1_longestRange_49 ?_
        refine lq_astore (lv' := [(4, va_rf nx1), (0, .ref h0), (1, .int bb), (2, .int mm), (3, .int rg)]) hx hb dX1_longestRange_52 hl (by decide) rfl (fun ls hl => ?_)
        refine lv_goto (tgt := 12) hx hb dX1_longestRange_54 (by decide) ?_
        exact ih (dl + 1) r nx1 bb mm rg H locs ls (by omega) (by omega) x5 m2 e4 (by rw [hbb, show dl + 1 - 1 = dl by omega, h8]) (by rw [hmm, show dl + 1 - 1 = dl by omega, h7]) (by rw [hrg, show dl + 1 - 1 = dl by omega, h9]) hP hD hS (lv_sub hl [1, 2, 3, 4, 0] rfl)
      · subst c2
        have m3 : ¬ P (df - 1) = 8 := by rcases m1 with z | z; rw [z, Nat.sub_self, h00]; decide; exact z
        have h9 : gbg P 8 dl = gbg P 8 (df - 1) + 1 := gbg_to hk1 x2 x4 m3
        have h8 := glg_to hk1 x2 x4 m3
        refine lv_aload hx hb dX1_longestRange_27 (lv_at hl 4 rfl) ?_
        refine g_calli (va_runVN (C := RX0) (As := []) (rest := []) ⟨hx, hb, hml, hown, hts⟩ (c_len l D tys X L S H.size e2 e3 x2) ⟨va_cnB 0 hts gX1_longestRange_X0_length_n99 rfl rfl rfl nm_length (hts (.initialized RX0) (by decide +kernel)) (by decide +kernel) ⟨Nat.le_of_ble_eq_true rfl, Nat.le_of_ble_eq_true rfl⟩, hts (.instanceMethod yX0_length) (by decide +kernel), hts (.selects RX0 yX0_length yX0_length) (by decide +kernel)⟩ (gP_V (va_recv hK hP (ci := 0) rfl hk1x) hP hK hD gBl_T (fun _ _ _ => trivial)) rfl rfl hl.1 rfl (lv_room (Nat.le_of_ble_eq_true rfl)) dX1_longestRange_29 ⟨(Nat.zero_le _), (Nat.zero_le _)⟩) hD hS hA (fun r u H locs hr1 hP hD hS => ?_)
        subst hr1
        refine lv_iload_n hx hb dX1_longestRange_32 rfl (lv_at hl 2 rfl) ?_
        refine lv_icmp_le (tgt := 44) hx hb dX1_longestRange_33 (by decide) (fun c3 => ?_) (fun c3 => ?_)
        · have hz : ¬ (glg P (df - 1)).2.1 < dl - df + 1 := fun z => by rw [hmm] at c3; exact nI_ge z (by omega) c3
          rw [if_neg hz] at h8
          refine lv_iinc (v := nI (gbg P 8 dl)) (lv' := [(3, .int (nI (gbg P 8 dl))), (0, .ref h0), (1, .int bb), (2, .int mm), (4, .ref a1)]) hx hb dX1_longestRange_44 hl (k := 3) rfl (by rw [hrg, h9, ← nI_1]; rfl) (by decide) rfl (fun ls hl => ?_)
          refine lv_aload hx hb dX1_longestRange_47 (lv_at hl 4 rfl) ?_
          refine va_getN (D := D) (ci := 0) (v := va_rf nx1) (C := RX0) (T := TX0) (N := 4) hx hb hts hi0 hown hK hP k1 hk1x rfl 3 (by decide) f_next (fun _ h9 => h9) rfl dX1_longestRange_49 ?_
          refine lq_astore (lv' := [(4, va_rf nx1), (3, .int (nI (gbg P 8 dl))), (0, .ref h0), (1, .int bb), (2, .int mm)]) hx hb dX1_longestRange_52 hl (by decide) rfl (fun ls hl => ?_)
          refine lv_goto (tgt := 12) hx hb dX1_longestRange_54 (by decide) ?_
          exact ih (dl + 1) r nx1 bb mm _ H locs ls (by omega) (by omega) x5 m2 e4 (by rw [hbb, show dl + 1 - 1 = dl by omega, h8]) (by rw [hmm, show dl + 1 - 1 = dl by omega, h8]) (by rw [show dl + 1 - 1 = dl by omega]) hP hD hS (lv_sub hl [2, 3, 4, 1, 0] rfl)
        · have hz : (glg P (df - 1)).2.1 < dl - df + 1 := by rcases Nat.lt_or_ge (glg P (df - 1)).2.1 (dl - df + 1) with z | z; exact z; exact absurd (by rw [hmm]; exact nI_le z (by omega)) c3
          rw [if_pos hz] at h8
          refine lv_aload hx hb dX1_longestRange_36 (lv_at hl 4 rfl) ?_
          refine g_calli (va_runVN (C := RX0) (As := []) (rest := []) ⟨hx, hb, hml, hown, hts⟩ (c_len l D tys X L S H.size e2 e3 x2) ⟨va_cnB 0 hts gX1_longestRange_X0_length_n99 rfl rfl rfl nm_length (hts (.initialized RX0) (by decide +kernel)) (by decide +kernel) ⟨Nat.le_of_ble_eq_true rfl, Nat.le_of_ble_eq_true rfl⟩, hts (.instanceMethod yX0_length) (by decide +kernel), hts (.selects RX0 yX0_length yX0_length) (by decide +kernel)⟩ (gP_V (va_recv hK hP (ci := 0) rfl hk1x) hP hK hD gBl_T (fun _ _ _ => trivial)) rfl rfl hl.1 rfl (lv_room (Nat.le_of_ble_eq_true rfl)) dX1_longestRange_38 ⟨(Nat.zero_le _), (Nat.zero_le _)⟩) hD hS hA (fun r u H locs hr1 hP hD hS => ?_)
          subst hr1
          refine lv_istore_n (lv' := [(2, .int (nI (dl - df + 1))), (0, .ref h0), (1, .int bb), (3, .int rg), (4, .ref a1)]) hx hb dX1_longestRange_41 rfl hl (by decide) rfl (fun ls hl => ?_)
          refine lv_iload_n hx hb dX1_longestRange_42 rfl (lv_at hl 3 rfl) ?_
          refine lv_istore_n (lv' := [(1, .int rg), (2, .int (nI (dl - df + 1))), (0, .ref h0), (3, .int rg), (4, .ref a1)]) hx hb dX1_longestRange_43 rfl hl (by decide) rfl (fun ls hl => ?_)
          refine lv_iinc (v := nI (gbg P 8 dl)) (lv' := [(3, .int (nI (gbg P 8 dl))), (1, .int rg), (2, .int (nI (dl - df + 1))), (0, .ref h0), (4, .ref a1)]) hx hb dX1_longestRange_44 hl (k := 3) rfl (by rw [hrg, h9, ← nI_1]; rfl) (by decide) rfl (fun ls hl => ?_)
          refine lv_aload hx hb dX1_longestRange_47 (lv_at hl 4 rfl) ?_
          refine va_getN (D := D) (ci := 0) (v := va_rf nx1) (C := RX0) (T := TX0) (N := 4) hx hb hts hi0 hown hK hP k1 hk1x rfl 3 (by decide) f_next (fun _ h9 => h9) rfl dX1_longestRange_49 ?_
          refine lq_astore (lv' := [(4, va_rf nx1), (3, .int (nI (gbg P 8 dl))), (1, .int rg), (2, .int (nI (dl - df + 1))), (0, .ref h0)]) hx hb dX1_longestRange_52 hl (by decide) rfl (fun ls hl => ?_)
          refine lv_goto (tgt := 12) hx hb dX1_longestRange_54 (by decide) ?_
          exact ih (dl + 1) r nx1 _ _ _ H locs ls (by omega) (by omega) x5 m2 e4 (by rw [hrg, show dl + 1 - 1 = dl by omega, h8, nI_pred]) (by rw [show dl + 1 - 1 = dl by omega, h8]) (by rw [show dl + 1 - 1 = dl by omega]) hP hD hS (lv_sub hl [4, 2, 3, 1, 0] rfl)
set_option maxHeartbeats 4000000 in
set_option maxRecDepth 100000 in
/-- longestRange() -/
theorem c_longest (l : Launch) (D : va_G) (tys : List (ClassId × FieldType)) (X : va_W) (L : List Nat) (S : gS) (sz : Nat) {P : Nat → Int32} {i h0 lo : Nat} {sv rv : Int32} {g : List (Nat × Nat × Int32)} (hX : X[i]? = some (gO h0 lo sv rv)) (hw0 : gwf P 1 g) (hmx : gmx P g) (hch : gch L S (some lo) g) (h00 : P 0 = -1) : Met l yX1_longestRange wsX1_longestRange ({ frames := 1, cells := 0, slots := 0, locals := 20 } : Room) (gP D tys [.ref h0] (X ++ va_pl L (gE S)) sz gN) (va_Qi (fun (r : Int32) (_ : Unit) => r = nI (glg P 5000).1 - 1) (fun _ t => gWd D tys (va_A (X ++ va_pl L (gE S)) sz) (X ++ va_pl L (gE S)) t) (va_A (X ++ va_pl L (gE S)) sz)) 0 0 (va_A (X ++ va_pl L (gE S)) sz) := by
  refine g_ofW (cc := cX1_longestRange) (maxL := 5) (ret := some .int) (by decide) rfl (Nat.le_of_ble_eq_true rfl) ?_
  intro p e s m below meth c hx hb hr hml hts hown hlocks hin hsz hP hK hD hA hS hG ls hl
  subst hsz
  have hown : s.vm.findClass RX1 = some m.cls := hown
  have hl : lv_has ls 5 [(0, .ref h0)] := hl
  refine lv_iconst (v := -1) hx hb dX1_longestRange_0 (by decide) ?_
  refine lv_istore_n (lv' := [(1, .int (-1)), (0, .ref h0)]) hx hb dX1_longestRange_1 rfl hl (by decide) rfl (fun ls hl => ?_)
  refine lv_iconst (v := 0) hx hb dX1_longestRange_2 (by decide) ?_
  refine lv_istore_n (lv' := [(2, .int 0), (1, .int (-1)), (0, .ref h0)]) hx hb dX1_longestRange_3 rfl hl (by decide) rfl (fun ls hl => ?_)
  refine lv_iconst (v := 0) hx hb dX1_longestRange_4 (by decide) ?_
  refine lv_istore_n (lv' := [(3, .int 0), (2, .int 0), (1, .int (-1)), (0, .ref h0)]) hx hb dX1_longestRange_5 rfl hl (by decide) rfl (fun ls hl => ?_)
  refine lv_aload_n hx hb dX1_longestRange_6 rfl (lv_at hl 3 rfl) ?_
  refine va_get (D := D) (ci := 1) (v := .ref lo) (C := RX1) (T := TX1) (N := 3) hx hb hts i1_longestRange hown hK hP i (g_inX hX) rfl 0 (by decide) (hts (.fieldLink RX1 14 "NumberGoblets" "lowest" "LNumberGoblets$Stretch;") (by decide +kernel)) (fun _ h9 => h9) rfl dX1_longestRange_7 ?_
  refine lv_astore (lv' := [(4, .ref lo), (3, .int 0), (2, .int 0), (1, .int (-1)), (0, .ref h0)]) hx hb dX1_longestRange_10 hl (by decide) rfl (fun ls hl => ?_)
  exact longest_loop h00 hx hb hr hml hts hown hlocks hK hG hA 5001 1 g (some lo) (-1) 0 0 _ _ ls (by omega) (Nat.le_refl _) hw0 hmx hch (show (-1 : Int32) = nI 0 - 1 by decide) rfl rfl hP hD hS (lv_sub hl [4, 3, 2, 1, 0] rfl)
set_option maxHeartbeats 4000000 in
set_option maxRecDepth 100000 in
/-- joinNeighbours: its loop, from its head on; what lies behind it is the caller's -/
theorem join_loop {p : Program} {l : Launch} {e : Env} {s : State} {m : MethodId} {args : Array Value} {below : List Frame} {meth : Method} {c : Code} {Q : State → Prop} {R : Room} {D : va_G} {tys : List (ClassId × FieldType)} {X w0 : va_W} {L : List Nat} {P : Nat → Int32} {h0 : Nat} (hR : 1 ≤ R.frames ∧ 21 ≤ R.locals) (hx : p.tables.exec = Jvm.exec) (hb : c.code = cX1_joinNeighbours) (hml : c.maxLocals = 2) (hts : ∀ w ∈ wsX1_joinNeighbours, w.before args s = true) (hown : s.vm.findClass RX1 = some m.cls) (hK : va_K D vwCl tys s) (hG : gN s) (hA : ∀ q : Nat, s.heap.size ≤ q → va_A w0 s.heap.size q) :
    ∀ (n k : Nat) (g : List (Nat × Nat × Int32)) (x : Option Nat) (S : gS) (H : Heap) (locs : List Loc) (ls : Array Slot), 5001 - k < n → 1 ≤ k → gwf P k g → (g = [] ∨ k = 1 ∨ ¬ P (k - 1) = P k) → gch L S x g → va_P D vwCl (X ++ va_pl L (gE S)) H → va_D (va_A w0 s.heap.size) (X ++ va_pl L (gE S)) → va_S (va_A w0 s.heap.size) s.heap H locs → lv_has ls 2 [(0, .ref h0), (1, va_rf x)] →
    (∀ (S' : gS) (g' : List (Nat × Nat × Int32)) (H : Heap) (locs : List Loc) (ls : Array Slot), gch L S' x g' → gwf P k g' → gmx P g' → (∀ b ∈ L, (S b).1 < k → S' b = S b) → va_P D vwCl (X ++ va_pl L (gE S')) H → va_D (va_A w0 s.heap.size) (X ++ va_pl L (gE S')) → va_S (va_A w0 s.heap.size) s.heap H locs → W p l e R s m args below meth c H locs 0 0 Q (F0 m 21 ls [])) →
    W p l e R s m args below meth c H locs 0 0 Q (F0 m 5 ls []) := by
  have hi0 := i0_joinNeighbours
  obtain ⟨⟨nf_first, nf_last, nf_place, nf_next⟩, nm_init, nm_length, nm_short, nm_absorb⟩ := id hG
  have f_next := va_Nw.use (A := args) rfl nf_next
  intro n
  induction n with
  | zero => intro k g x S H locs ls hn; exact absurd hn (Nat.not_lt_zero _)
  | succ n ih =>
    intro k g x S H locs ls hn hk1 hw0 hhd hch hP hD hS hl hend
    cases g with
    | nil =>
      have hx0 : x = none := hch
      subst hx0
      refine lv_aload_nN hx hb dX1_joinNeighbours_5 rfl (lv_at hl 1 rfl) ?_
      refine lv_ifnullN (tgt := 21) hx hb dX1_joinNeighbours_6 (by decide) ?_
      exact hend S [] H locs ls rfl hw0 trivial (fun _ _ _ => rfl) hP hD hS
    | cons d r =>
      obtain ⟨a1, nx1, rfl, e2, e3, e4⟩ := hch
      obtain ⟨df, dl, dp⟩ := d
      obtain ⟨x1, x2, x3, x4, x5⟩ := id hw0
      have x1 : df = k := x1
      subst x1
      have x2 : df ≤ dl := x2
      have x4 : ∀ j, df ≤ j → j ≤ dl → P j = dp := x4
      have e3 : S a1 = (df, dl, dp, nx1) := e3
      obtain ⟨k1, hk10, hk1x⟩ := gE_get (X := X) e2 e3
      refine lv_aload_n hx hb dX1_joinNeighbours_5 rfl (lv_at hl 1 rfl) ?_
      refine lv_ifnull hx hb dX1_joinNeighbours_6 ?_
      refine lv_aload_n hx hb dX1_joinNeighbours_9 rfl (lv_at hl 1 rfl) ?_
      refine g_callv (va_runVN (C := RX0) (As := []) (rest := []) ⟨hx, hb, hml, hown, hts⟩ (c_absorb l D tys X L S H.size P e2 e3 hw0 e4) ⟨va_cnB 0 hts gX1_joinNeighbours_X0_absorbNextOnesOfSamePlace_n116 rfl rfl rfl nm_absorb (hts (.initialized RX0) (by decide +kernel)) (by decide +kernel) ⟨hR.1, hR.2⟩, hts (.instanceMethod yX0_absorbNextOnesOfSamePlace) (by decide +kernel), hts (.selects RX0 yX0_absorbNextOnesOfSamePlace yX0_absorbNextOnesOfSamePlace) (by decide +kernel)⟩ (gP_V (va_recv hK hP (ci := 0) rfl hk1x) hP hK hD gBl_T (fun _ _ _ => trivial)) rfl rfl hl.1 rfl (lv_room (Nat.le_of_ble_eq_true rfl)) dX1_joinNeighbours_10 ⟨(Nat.zero_le _), (Nat.zero_le _)⟩) hD hS hA (fun u H locs hu hP hD hS => ?_)
      obtain ⟨la, y⟩ := u
      obtain ⟨r', f1, f2, f3⟩ := hu
      have f1 : gch L (va_up S a1 (df, la, dp, y)) y r' := f1
      obtain ⟨y1, y2, y3, y4, y5⟩ := f2
      have y2 : df ≤ la := y2
      have y3 : la ≤ 5000 := y3
      have y4 : ∀ j, df ≤ j → j ≤ la → P j = dp := y4
      have y5 : gwf P (la + 1) r' := y5
      have f3 : r' = [] ∨ ¬ P (la + 1) = dp := f3
      obtain ⟨k2, hk20, hk2⟩ := gE_get (X := X) (S := va_up S a1 (df, la, dp, y)) e2 (va_up_self _ _ _)
      refine lv_aload_n hx hb dX1_joinNeighbours_13 rfl (lv_at hl 1 rfl) ?_
      refine va_getN (D := D) (ci := 0) (v := va_rf y) (C := RX0) (T := TX0) (N := 4) hx hb hts hi0 hown hK hP k2 hk2 rfl 3 (by decide) f_next (fun _ h9 => h9) rfl dX1_joinNeighbours_14 ?_
      refine lq_astore_n (lv' := [(1, va_rf y), (0, .ref h0)]) hx hb dX1_joinNeighbours_17 rfl hl (by decide) rfl (fun ls hl => ?_)
      refine lv_goto (tgt := 5) hx hb dX1_joinNeighbours_18 (by decide) ?_
      refine ih (la + 1) r' y _ H locs ls (by omega) (by omega) y5 ?_ f1 hP hD hS (lv_sub hl [1, 0] rfl) ?_
      · rcases f3 with z | z
        · exact Or.inl z
        · exact Or.inr (Or.inr (by rw [Nat.add_sub_cancel, y4 la y2 (Nat.le_refl _)]; exact fun q => z q.symm))
      · intro S2 g2 H locs ls q1 q2 q3 q4 hP hD hS
        have q5 : S2 a1 = (df, la, dp, y) := by
          have := q4 a1 e2 (by rw [va_up_self]; show df < la + 1; omega)
          rw [this, va_up_self]
        refine hend S2 ((df, la, dp) :: g2) H locs ls ⟨a1, y, rfl, e2, q5, q1⟩ ⟨rfl, y2, y3, y4, q2⟩ ⟨?_, q3⟩ (fun b hb hk => ?_) hP hD hS
        · rcases hhd with z | z | z
          · cases z
          · exact Or.inl z
          · exact Or.inr (by show ¬ P (df - 1) = dp; rw [← x4 df (Nat.le_refl _) x2]; exact z)
        · have hba : b ≠ a1 := fun z => by subst z; rw [e3] at hk; have hk : df < df := hk; omega
          rw [q4 b hb (by rw [va_up_ne _ _ hba]; omega), va_up_ne _ _ hba]
set_option maxHeartbeats 4000000 in
set_option maxRecDepth 100000 in
/-- joinNeighbours() -/
theorem c_join (l : Launch) (D : va_G) (tys : List (ClassId × FieldType)) (X : va_W) (L : List Nat) (S : gS) (sz : Nat) {P : Nat → Int32} {i h0 lo : Nat} {sv rv : Int32} {g : List (Nat × Nat × Int32)} (hX : X[i]? = some (gO h0 lo sv rv)) (hw0 : gwf P 1 g) (hch : gch L S (some lo) g) : Met l yX1_joinNeighbours wsX1_joinNeighbours ({ frames := 1, cells := 0, slots := 0, locals := 21 } : Room) (gP D tys [.ref h0] (X ++ va_pl L (gE S)) sz gN) (va_Qv (fun S' : gS => ∃ g', gch L S' (some lo) g' ∧ gwf P 1 g' ∧ gmx P g') (fun S' t => gWd D tys (va_A (X ++ va_pl L (gE S)) sz) (X ++ va_pl L (gE S')) t) (va_A (X ++ va_pl L (gE S)) sz)) 0 0 (va_A (X ++ va_pl L (gE S)) sz) := by
  refine g_ofW (cc := cX1_joinNeighbours) (maxL := 2) (ret := none) (by decide) rfl (Nat.le_of_ble_eq_true rfl) ?_
  intro p e s m below meth c hx hb hr hml hts hown hlocks hin hsz hP hK hD hA hS hG ls hl
  subst hsz
  have hown : s.vm.findClass RX1 = some m.cls := hown
  have hl : lv_has ls 2 [(0, .ref h0)] := hl
  refine lv_aload_n hx hb dX1_joinNeighbours_0 rfl (lv_at hl 0 rfl) ?_
  refine va_get (D := D) (ci := 1) (v := .ref lo) (C := RX1) (T := TX1) (N := 3) hx hb hts i1_joinNeighbours hown hK hP i (g_inX hX) rfl 0 (by decide) (hts (.fieldLink RX1 14 "NumberGoblets" "lowest" "LNumberGoblets$Stretch;") (by decide +kernel)) (fun _ h9 => h9) rfl dX1_joinNeighbours_1 ?_
  refine lv_astore_n (lv' := [(1, .ref lo), (0, .ref h0)]) hx hb dX1_joinNeighbours_4 rfl hl (by decide) rfl (fun ls hl => ?_)
  refine join_loop ⟨Nat.le_refl _, Nat.le_refl _⟩ hx hb hml hts hown hK hG hA 5001 1 g (some lo) S _ _ ls (by omega) (Nat.le_refl _) hw0 (Or.inr (Or.inl rfl)) hch hP hD hS (lv_sub hl [1, 0] rfl) (fun S' g' H locs ls q1 q2 q3 _ hP hD hS => ?_)
  exact g_retv hx hb hr hlocks hK S' hP hD hS (Nat.le_refl _) (Nat.le_refl _) ⟨g', q1, q2, q3⟩ dX1_joinNeighbours_21
