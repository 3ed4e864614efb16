/-! p25: what moves do to the counts and the ranges -/
theorem mv_ct {P : Nat → Int32} {fr to : Int32} {st cn : Nat} (hne : ¬ fr = to) : ∀ m : Nat, gct (gmv P fr to st cn) fr m + min (gct P fr m - st) cn = gct P fr m ∧ gct (gmv P fr to st cn) to m = gct P to m + min (gct P fr m - st) cn
  | 0 => by
    show 0 + min (0 - st) cn = 0 ∧ 0 = 0 + min (0 - st) cn
    omega
  | m + 1 => by
    obtain ⟨i1, i2⟩ := mv_ct (P := P) (fr := fr) (to := to) (st := st) (cn := cn) hne m
    by_cases z : P (m + 1) = fr
    · have e1 := gct_yes z
      have e2 := gct_no (P := P) (p := to) (n := m) (fun w => hne (z.symm.trans w))
      by_cases y : st < gct P fr (m + 1) ∧ gct P fr (m + 1) ≤ st + cn
      · have q := gmv_in (to := to) z y.1 y.2
        have e3 := gct_yes (P := gmv P fr to st cn) (p := to) (n := m) q
        have e4 := gct_no (P := gmv P fr to st cn) (p := fr) (n := m) (fun w => hne (w.symm.trans q))
        omega
      · have q : gmv P fr to st cn (m + 1) = P (m + 1) := gmv_out (Or.inr (by omega))
        have e3 := gct_yes (P := gmv P fr to st cn) (p := fr) (n := m) (q.trans z)
        have e4 := gct_no (P := gmv P fr to st cn) (p := to) (n := m) (fun w => hne ((q.trans z).symm.trans w))
        omega
    · have q : gmv P fr to st cn (m + 1) = P (m + 1) := gmv_out (Or.inl z)
      have e1 := gct_no z
      have e3 := gct_no (P := gmv P fr to st cn) (p := fr) (n := m) (fun w => z (q.symm.trans w))
      by_cases y : P (m + 1) = to
      · have e2 := gct_yes y
        have e4 := gct_yes (P := gmv P fr to st cn) (p := to) (n := m) (q.trans y)
        omega
      · have e2 := gct_no y
        have e4 := gct_no (P := gmv P fr to st cn) (p := to) (n := m) (fun w => y (q.symm.trans w))
        omega
theorem mv_ot {P : Nat → Int32} {fr to p : Int32} {st cn m : Nat} (h1 : ¬ p = fr) (h2 : ¬ p = to) : gct (gmv P fr to st cn) p m = gct P p m := by
  refine gct_cong m (fun j _ _ => ?_)
  by_cases z : P j = fr ∧ st < gct P fr j ∧ gct P fr j ≤ st + cn
  · rw [gmv_in z.1 z.2.1 z.2.2, z.1]
    exact ⟨fun w => absurd w.symm h2, fun w => absurd w.symm h1⟩
  · rw [gmv_out (by by_cases y : P j = fr; exact Or.inr (by have w : ¬ (st < gct P fr j ∧ gct P fr j ≤ st + cn) := fun q => z ⟨y, q⟩; omega); exact Or.inl y)]
theorem inv_mv {P : Nat → Int32} {n a b st cn : Nat} (ha : a ≤ 10) (hb : b ≤ 10) (h : gInv P n) : gInv (gmv P (nI a) (nI b) st cn) n := by
  refine ⟨gEv_mv (h_neg ha) (h_neg hb) h.1, h.2.1, fun j h1 h2 => ?_⟩
  unfold gmv
  split
  · exact ⟨b, hb, rfl⟩
  · exact h.2.2 j h1 h2
theorem inv_up {P : Nat → Int32} {n v k : Nat} (hk : k ≤ 10) (h1 : 1 ≤ v) (h2 : v ≤ n) (h : gInv P n) : gInv (va_up P v (nI k)) n := by
  refine ⟨gEv_up (h_neg hk) h1 h2 h.1, h.2.1, fun j h3 h4 => ?_⟩
  by_cases z : j = v
  · rw [z, va_up_self]; exact ⟨k, hk, rfl⟩
  · rw [va_up_ne _ _ z]; exact h.2.2 j h3 h4
theorem inv_grow {P : Nat → Int32} {n vn : Nat} (h1 : n < vn) (h2 : vn ≤ 219) (h : gInv P n) : gInv (gmv P (-1) 8 0 (vn - n)) vn := by
  refine ⟨gEv_grow h.1 h1 (by omega), h2, fun j h3 h4 => ?_⟩
  rw [gmv_grow h.1 h1]
  show ∃ k : Nat, k ≤ 10 ∧ (if n < j ∧ j ≤ vn then (8 : Int32) else P j) = nI k
  by_cases z : n < j ∧ j ≤ vn
  · rw [if_pos z]; exact ⟨8, by omega, rfl⟩
  · rw [if_neg z]; exact h.2.2 j h3 (by omega)
theorem inv_in {P : Nat → Int32} {n v k : Nat} (hk : k ≤ 10) (h : gEv P n) (hv : P v = nI k) : 1 ≤ v ∧ v ≤ n := by
  by_cases z : v = 0 ∨ n < v
  · rw [h.2.2.1 v z] at hv
    exact absurd hv.symm (h_neg hk)
  · omega
theorem inv_0 : gInv gP0 100 := ⟨gEv0, by omega, fun j h1 h2 => ⟨8, by omega, by unfold gP0; rw [if_pos ⟨h1, h2⟩]; rfl⟩⟩
/-- enlarging -/
theorem grow_ct {P : Nat → Int32} {n vn : Nat} (h : gEv P n) (h1 : n < vn) (h2 : vn ≤ 5000) : gct (gmv P (-1) 8 0 (vn - n)) 8 5000 = gct P 8 5000 + (vn - n) := by
  have h3 := gEv_grow h h1 h2
  rw [b_ct h3 (by decide), b_ct h (by decide)]
  have e1 : gct (gmv P (-1) 8 0 (vn - n)) 8 n = gct P 8 n := by
    refine gct_cong n (fun j a b => ?_)
    rw [gmv_grow h h1]
    show (if n < j ∧ j ≤ vn then (8 : Int32) else P j) = 8 ↔ P j = 8
    rw [if_neg (by omega)]
  have e2 := gct_run (P := gmv P (-1) 8 0 (vn - n)) (p := 8) (m := n) (vn - n) (fun j a b => by
    rw [gmv_grow h h1]
    show (if n < j ∧ j ≤ vn then (8 : Int32) else P j) = 8
    rw [if_pos (by omega)])
  rw [show n + (vn - n) = vn by omega] at e2
  omega
theorem grow_rg {P : Nat → Int32} {n vn : Nat} (h : gEv P n) (h1 : n < vn) (h2 : vn ≤ 5000) : ∃ k a, gbg (gmv P (-1) 8 0 (vn - n)) 8 5000 = k + 1 ∧ gRg (gmv P (-1) 8 0 (vn - n)) k a vn := by
  have h3 := gEv_grow h h1 h2
  have hv : gmv P (-1) 8 0 (vn - n) vn = 8 := by
    rw [gmv_grow h h1]
    show (if n < vn ∧ vn ≤ vn then (8 : Int32) else P vn) = 8
    rw [if_pos ⟨h1, Nat.le_refl _⟩]
  obtain ⟨a, c1, c2, c3, c4⟩ := g_run (h_0n h3) vn hv
  have e1 := gbg_to c1 c2 c4 c3
  have e2 := b_bg (p := 8) h3 (by decide)
  refine ⟨gbg (gmv P (-1) 8 0 (vn - n)) 8 (a - 1), a, by omega, c1, c2, h2, c4, c3, ?_, rfl⟩
  rw [h3.2.2.1 (vn + 1) (Or.inr (Nat.lt_succ_self _))]
  decide
/-- what an empty goblet got goes back -/
theorem mv_back {P : Nat → Int32} {n c : Nat} {g : Int32} (h : gEv P n) (hg : ¬ g = -1) (h0 : gct P g 5000 = 0) : gmv (gmv P 8 g 0 c) g 8 0 5000 = P := by
  have hno := gct_none h0
  funext j
  by_cases hj : j = 0 ∨ n < j
  · have e0 := h.2.2.1 j hj
    have e1 : gmv P 8 g 0 c j = P j := gmv_out (Or.inl (by rw [e0]; decide))
    rw [gmv_out (Or.inl (by rw [e1, e0]; exact fun z => hg z.symm)), e1]
  · have hj1 : 1 ≤ j := by omega
    have hj2 : j ≤ 5000 := by have := h.2.1; omega
    by_cases z : P j = 8 ∧ 0 < gct P 8 j ∧ gct P 8 j ≤ 0 + c
    · have e1 := gmv_in (to := g) z.1 z.2.1 z.2.2
      have e2 := gct_step (P := gmv P 8 g 0 c) (p := g) (k := j) (j := j) hj1 (Nat.le_refl _) e1
      have e3 := gct_le (gmv P 8 g 0 c) g j
      rw [gmv_in e1 (by omega) (by omega), z.1]
    · have e1 : gmv P 8 g 0 c j = P j := gmv_out (by by_cases y : P j = 8; exact Or.inr (by have w : ¬ (0 < gct P 8 j ∧ gct P 8 j ≤ 0 + c) := fun q => z ⟨y, q⟩; omega); exact Or.inl y)
      rw [gmv_out (Or.inl (by rw [e1]; exact hno j hj1 hj2)), e1]
/-- pouring parts one range at most -/
theorem mv_split {P Q : Nat → Int32} {n c : Nat} {g : Int32} (h : gEv P n) (hg : ¬ g = -1) (hg8 : ¬ g = 8) (h0 : gct P g 5000 = 0) (hQ : Q = gmv P 8 g 0 c) : ∀ m : Nat, m ≤ 5000 → gbg Q g m + gbg Q 8 m = gbg P 8 m ∨ (gbg Q g m + gbg Q 8 m = gbg P 8 m + 1 ∧ c < gct P 8 m) := by
  have hno := gct_none h0
  have hq : ∀ j, j ≤ 5000 → (P j = 8 ∧ ((gct P 8 j ≤ c ∧ Q j = g) ∨ (c < gct P 8 j ∧ Q j = 8))) ∨ (¬ P j = 8 ∧ ¬ Q j = g ∧ ¬ Q j = 8) := by
    intro j hj
    by_cases z : P j = 8
    · have hj1 := (inv_in (k := 8) (by omega) h z).1
      have e2 := gct_step (P := P) (p := 8) (k := j) (j := j) hj1 (Nat.le_refl _) z
      by_cases y : gct P 8 j ≤ c
      · exact Or.inl ⟨z, Or.inl ⟨y, by rw [hQ]; exact gmv_in z (by omega) (by omega)⟩⟩
      · exact Or.inl ⟨z, Or.inr ⟨by omega, by rw [hQ, gmv_out (Or.inr (Or.inr (by omega)))]; exact z⟩⟩
    · have e1 : Q j = P j := by rw [hQ]; exact gmv_out (Or.inl z)
      refine Or.inr ⟨z, ?_, by rw [e1]; exact z⟩
      rw [e1]
      rcases Nat.eq_zero_or_pos j with y | y
      · rw [y, h_0 h]; exact fun w => hg w.symm
      · exact hno j y hj
  have hg8' : ¬ (8 : Int32) = g := fun z => hg8 z.symm
  intro m
  induction m with
  | zero => exact fun _ => Or.inl rfl
  | succ m ih =>
    intro hm
    have ih := ih (by omega)
    have hc : P (m + 1) = 8 → gct P 8 (m + 1) = gct P 8 m + 1 := fun z => gct_yes z
    have hc2 := gct_mono P 8 (m := m) 1
    rcases hq m (by omega) with ⟨a1, ⟨a2, a3⟩ | ⟨a2, a3⟩⟩ | ⟨a1, a2, a3⟩ <;> rcases hq (m + 1) hm with ⟨b1, ⟨b2, b3⟩ | ⟨b2, b3⟩⟩ | ⟨b1, b2, b3⟩ <;> simp only [gbg, a1, a2, a3, b1, b2, b3, hg8, hg8', not_true_eq_false, not_false_eq_true, and_true, true_and, and_false, false_and, if_true, if_false, Nat.add_zero] <;> (try have := hc b1) <;> omega
/-- a number changes its place -/
theorem up_to {P : Nat → Int32} {q : Int32} {v : Nat} (hv : 1 ≤ v) (hp : ¬ P v = q) : ∀ m : Nat, gct (va_up P v q) q m = gct P q m + if v ≤ m then 1 else 0
  | 0 => by rw [if_neg (by omega)]; rfl
  | m + 1 => by
    have ih := up_to hv hp m
    by_cases z : m + 1 = v
    · subst z
      rw [gct_yes (va_up_self _ _ _), gct_no hp, ih, if_neg (by omega), if_pos (Nat.le_refl _)]
    · have e := va_up_ne (f := P) (k := v) (j := m + 1) q z
      by_cases y : P (m + 1) = q
      · rw [gct_yes (e.trans y), gct_yes y, ih]
        by_cases w : v ≤ m
        · rw [if_pos w, if_pos (by omega)]
        · rw [if_neg w, if_neg (by omega)]
      · rw [gct_no (fun w => y (e.symm.trans w)), gct_no y, ih]
        by_cases w : v ≤ m
        · rw [if_pos w, if_pos (by omega)]
        · rw [if_neg w, if_neg (by omega)]
theorem up_ot {P : Nat → Int32} {q r : Int32} {v m : Nat} (h1 : ¬ P v = r) (h2 : ¬ q = r) : gct (va_up P v q) r m = gct P r m := by
  refine gct_cong m (fun j _ _ => ?_)
  by_cases z : j = v
  · subst z
    rw [va_up_self]
    exact ⟨fun w => absurd w h2, fun w => absurd w h1⟩
  · rw [va_up_ne _ _ z]
theorem up_up {P : Nat → Int32} {q r : Int32} {v : Nat} : va_up (va_up P v q) v r = va_up P v r := by
  funext j
  by_cases z : j = v
  · subst z; rw [va_up_self, va_up_self]
  · rw [va_up_ne _ _ z, va_up_ne _ _ z, va_up_ne _ _ z]
theorem up_same {P : Nat → Int32} {r : Int32} {v : Nat} (h : P v = r) : va_up P v r = P := by
  funext j
  by_cases z : j = v
  · subst z; rw [va_up_self, h]
  · rw [va_up_ne _ _ z]
/-- a new round -/
theorem rd_all {P : Nat → Int32} {n : Nat} (h : gInv P n) (hs : gct P 9 5000 + gct P 10 5000 = n) : ∀ j, 1 ≤ j → j ≤ n → P j = 9 ∨ P j = 10 := by
  intro j h1 h2
  have hsum := h_sumAt n h.2.2
  have e9 := b_ct (p := 9) h.1 (by decide)
  have e10 := b_ct (p := 10) h.1 (by decide)
  obtain ⟨k, hk, e⟩ := h.2.2 j h1 h2
  have hst : 1 ≤ gct P (nI k) n := by
    have a := gct_step (P := P) (p := nI k) (k := j) (j := j) h1 (Nat.le_refl _) e
    have b := gct_mono' P (nI k) h2
    omega
  have hu : gsum (fun q => gct P (nI q) n) 11 = gct P (nI 0) n + gct P (nI 1) n + gct P (nI 2) n + gct P (nI 3) n + gct P (nI 4) n + gct P (nI 5) n + gct P (nI 6) n + gct P (nI 7) n + gct P (nI 8) n + gct P 9 n + gct P 10 n := by
    show 0 + gct P (nI 0) n + gct P (nI 1) n + gct P (nI 2) n + gct P (nI 3) n + gct P (nI 4) n + gct P (nI 5) n + gct P (nI 6) n + gct P (nI 7) n + gct P (nI 8) n + gct P 9 n + gct P 10 n = _
    rw [Nat.zero_add]
  rcases (show k = 0 ∨ k = 1 ∨ k = 2 ∨ k = 3 ∨ k = 4 ∨ k = 5 ∨ k = 6 ∨ k = 7 ∨ k = 8 ∨ k = 9 ∨ k = 10 by omega) with rfl | rfl | rfl | rfl | rfl | rfl | rfl | rfl | rfl | rfl | rfl
  · omega
  · omega
  · omega
  · omega
  · omega
  · omega
  · omega
  · omega
  · omega
  · exact Or.inl e
  · exact Or.inr e
theorem rd_new {P : Nat → Int32} {n : Nat} (h : gInv P n) (hs : gct P 9 5000 + gct P 10 5000 = n) : ∀ j, 1 ≤ j → j ≤ n → gmv (gmv P 9 8 0 5000) 10 8 0 5000 j = 8 := by
  intro j h1 h2
  have h5 : j ≤ 5000 := by have := h.2.1; omega
  rcases rd_all h hs j h1 h2 with e | e
  · have a := gct_step (P := P) (p := 9) (k := j) (j := j) h1 (Nat.le_refl _) e
    have b := gct_le P 9 j
    have q := gmv_in (to := 8) (stay := 0) (cnt := 5000) e (by omega) (by omega)
    rw [gmv_out (Or.inl (by rw [q]; decide)), q]
  · have q : gmv P 9 8 0 5000 j = 10 := by rw [gmv_out (Or.inl (by rw [e]; decide)), e]
    have a := gct_step (P := gmv P 9 8 0 5000) (p := 10) (k := j) (j := j) h1 (Nat.le_refl _) q
    have b := gct_le (gmv P 9 8 0 5000) 10 j
    exact gmv_in q (by omega) (by omega)
theorem rd_ev {P : Nat → Int32} {n : Nat} (h : gInv P n) : gEv (gmv (gmv P 9 8 0 5000) 10 8 0 5000) n := gEv_mv (by decide) (by decide) (gEv_mv (by decide) (by decide) h.1)
theorem rd_rg {Q : Nat → Int32} {n : Nat} (h : gEv Q n) (ha : ∀ j, 1 ≤ j → j ≤ n → Q j = 8) : gbg Q 8 5000 = 1 ∧ gRg Q 0 1 n := by
  have h1 := h.1
  have e1 := gbg_to (P := Q) (p := 8) (k := 1) (m := n) (Nat.le_refl _) (by omega) ha (h_0n h)
  have e2 : gbg Q 8 n = 0 + 1 := e1
  rw [← b_bg h (by decide)] at e2
  refine ⟨e2, Nat.le_refl _, by omega, h.2.1, ha, h_0n h, ?_, rfl⟩
  rw [h.2.2.1 (n + 1) (Or.inr (Nat.lt_succ_self _))]
  decide
theorem rd_left {Q : Nat → Int32} {n v : Nat} (h : gEv Q n) (ha : ∀ j, 1 ≤ j → j ≤ n → Q j = 8) (hv : glow (fun j => ¬ Q j = 9 ∧ ¬ Q j = -1) 5000 v) : v = 1 := by
  have h1 := h.1
  have e := ha 1 (Nat.le_refl _) (by omega)
  exact glow_one hv (Or.inr ⟨Nat.le_refl _, by omega, ⟨by rw [e]; decide, by rw [e]; decide⟩, fun j x y => absurd x (by omega)⟩)
/-- the lowest one that isn't drunk -/
theorem left_ct {P : Nat → Int32} {n v : Nat} (h : gEv P n) (hv : glow (fun j => ¬ P j = 9 ∧ ¬ P j = -1) 5000 v) : v = 0 ↔ gct P 9 5000 = n := by
  have hn := h.2.1
  rcases hv with ⟨h1, h2⟩ | ⟨h1, h2, h3, h4⟩
  · refine ⟨fun _ => ?_, fun _ => h1⟩
    rw [b_ct h (by decide)]
    have := gct_run (P := P) (p := 9) (m := 0) n (fun j a b => by
      have q1 := h2 j (by omega) (by omega)
      have q2 := h.2.2.2 j (by omega) (by omega)
      exact Classical.byContradiction fun z => q1 ⟨z, q2⟩)
    rw [Nat.zero_add] at this
    rw [this]
    exact Nat.zero_add _
  · refine ⟨fun z => by omega, fun z => ?_⟩
    have hvn : v ≤ n := by
      rcases Nat.lt_or_ge n v with y | y
      · exact absurd (h.2.2.1 v (Or.inr y)) h3.2
      · exact y
    rw [b_ct h (by decide)] at z
    have e1 := gct_le P 9 (v - 1)
    have e2 := gct_no (P := P) (p := 9) (n := v - 1) (by rw [show v - 1 + 1 = v by omega]; exact h3.1)
    rw [show v - 1 + 1 = v by omega] at e2
    have e3 : ∀ d, gct P 9 (v + d) ≤ gct P 9 v + d := by
      intro d
      induction d with
      | zero => exact Nat.le_refl _
      | succ d ih =>
        have : gct P 9 (v + d + 1) ≤ gct P 9 (v + d) + 1 := by
          by_cases w : P (v + d + 1) = 9
          · rw [gct_yes w]; exact Nat.le_refl _
          · rw [gct_no w]; omega
        show gct P 9 (v + d + 1) ≤ _
        omega
    have e4 := e3 (n - v)
    rw [show v + (n - v) = n by omega] at e4
    omega
