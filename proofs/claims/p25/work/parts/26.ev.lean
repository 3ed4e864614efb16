/-! an evening: what the places tell (from the proof of whole) -/
/-- an evening with n numbers: nothing is outside 1 to n, all else is somewhere -/
def gEv (P : Nat → Int32) (n : Nat) : Prop := 100 ≤ n ∧ n ≤ 5000 ∧ (∀ j, j = 0 ∨ n < j → P j = -1) ∧ ∀ j, 1 ≤ j → j ≤ n → ¬ P j = -1
theorem gmv_grow {P : Nat → Int32} {n vn : Nat} (h : gEv P n) (h1 : n < vn) : gmv P (-1) 8 0 (vn - n) = fun j => if n < j ∧ j ≤ vn then 8 else P j := by
  obtain ⟨-, -, ho, hin⟩ := h
  have hc0 : gct P (-1) n = 0 := gct_past (P := P) (p := -1) (k := 1) (m := n) (by omega) (fun j a b => hin j a b)
  have hc : ∀ d : Nat, gct P (-1) (n + d) = d := by
    intro d
    have := gct_run (P := P) (p := -1) (m := n) d (fun j a b => ho j (Or.inr a))
    omega
  funext j
  by_cases hj : n < j
  · have h2 := hc (j - n)
    rw [show n + (j - n) = j by omega] at h2
    by_cases hv : j ≤ vn
    · rw [if_pos ⟨hj, hv⟩]
      exact gmv_in (ho j (Or.inr hj)) (by omega) (by omega)
    · rw [if_neg (fun z => hv z.2)]
      exact gmv_out (Or.inr (Or.inr (by omega)))
  · rw [if_neg (fun z => hj z.1)]
    apply gmv_out
    rcases Nat.eq_zero_or_pos j with z | z
    · subst z; exact Or.inr (Or.inl (Nat.zero_le _))
    · exact Or.inl (hin j z (by omega))
theorem b_ct {P : Nat → Int32} {n : Nat} {p : Int32} (h : gEv P n) (hp : ¬ p = -1) : gct P p 5000 = gct P p n := by
  have := gct_past (P := P) (p := p) (k := n + 1) (m := 5000) (by have := h.2.1; omega) (fun j a b => by rw [h.2.2.1 j (Or.inr (by omega))]; exact fun z => hp z.symm)
  rwa [Nat.add_sub_cancel] at this
theorem b_bg {P : Nat → Int32} {n : Nat} {p : Int32} (h : gEv P n) (hp : ¬ p = -1) : gbg P p 5000 = gbg P p n := by
  have := gbg_past (P := P) (p := p) (k := n + 1) (m := 5000) (by omega) (by have := h.2.1; omega) (fun j a b => by rw [h.2.2.1 j (Or.inr (by omega))]; exact fun z => hp z.symm)
  rwa [Nat.add_sub_cancel] at this
theorem b_lg {P : Nat → Int32} {n : Nat} (h : gEv P n) : (glg P 5000).1 = (glg P n).1 := by
  have := (glg_no (P := P) (k := n + 1) (m := 5000) (by omega) (by have := h.2.1; omega) (fun j a b => by rw [h.2.2.1 j (Or.inr (by omega))]; decide)).1
  rwa [Nat.add_sub_cancel] at this
theorem glow_n {q : Nat → Prop} {n v : Nat} (hn : n ≤ 5000) (h : ∀ j, n < j → j ≤ 5000 → ¬ q j) : glow q 5000 v ↔ glow q n v := by
  constructor
  · rintro (⟨h1, h2⟩ | ⟨h1, h2, h3, h4⟩)
    · exact Or.inl ⟨h1, fun j a b => h2 j a (by omega)⟩
    · refine Or.inr ⟨h1, ?_, h3, h4⟩
      rcases Nat.lt_or_ge n v with z | z
      · exact absurd h3 (h v z h2)
      · exact z
  · rintro (⟨h1, h2⟩ | ⟨h1, h2, h3, h4⟩)
    · refine Or.inl ⟨h1, fun j a b => ?_⟩
      rcases Nat.lt_or_ge n j with z | z
      · exact h j z b
      · exact h2 j a z
    · exact Or.inr ⟨h1, by omega, h3, h4⟩
theorem b_low {P : Nat → Int32} {n v : Nat} {p : Int32} (h : gEv P n) (hp : ¬ p = -1) : glow (fun j => P j = p) 5000 v ↔ glow (fun j => P j = p) n v :=
  glow_n h.2.1 (fun j a _ => by rw [h.2.2.1 j (Or.inr a)]; exact fun z => hp z.symm)
theorem b_left {P : Nat → Int32} {n v w : Nat} (h : gEv P n) (h1 : glow (fun j => ¬ P j = 9 ∧ ¬ P j = -1) 5000 v) (h2 : glow (fun j => ¬ P j = 9) n w) : v = w := by
  have h3 := (glow_n (v := v) h.2.1 (fun j a _ z => z.2 (h.2.2.1 j (Or.inr a)))).mp h1
  refine glow_one h3 ?_
  rcases h2 with ⟨a1, a2⟩ | ⟨a1, a2, a3, a4⟩
  · exact Or.inl ⟨a1, fun j x y z => a2 j x y z.1⟩
  · exact Or.inr ⟨a1, a2, ⟨a3, h.2.2.2 w a1 a2⟩, fun j x y z => a4 j x y z.1⟩
theorem gGob_ne {v : Int32} (h : gGob v) : ¬ v = -1 := by
  obtain ⟨j, hj, rfl⟩ := h
  exact fun z => g_neg j hj z.symm
theorem gEv_mv {P : Nat → Int32} {n a b : Nat} {fr to : Int32} (hf : ¬ fr = -1) (ht : ¬ to = -1) (h : gEv P n) : gEv (gmv P fr to a b) n := by
  refine ⟨h.1, h.2.1, fun j hj => ?_, fun j h1 h2 => ?_⟩
  · rw [gmv_out (Or.inl (by rw [h.2.2.1 j hj]; exact fun z => hf z.symm))]
    exact h.2.2.1 j hj
  · unfold gmv
    split
    · exact ht
    · exact h.2.2.2 j h1 h2
theorem gEv_up {P : Nat → Int32} {n v : Nat} {to : Int32} (ht : ¬ to = -1) (h1 : 1 ≤ v) (h2 : v ≤ n) (h : gEv P n) : gEv (va_up P v to) n := by
  refine ⟨h.1, h.2.1, fun j hj => ?_, fun j h3 h4 => ?_⟩
  · rw [va_up_ne _ _ (by omega)]
    exact h.2.2.1 j hj
  · by_cases z : j = v
    · rw [z, va_up_self]; exact ht
    · rw [va_up_ne _ _ z]; exact h.2.2.2 j h3 h4
theorem gEv_grow {P : Nat → Int32} {n vn : Nat} (h : gEv P n) (h1 : n < vn) (h2 : vn ≤ 5000) : gEv (gmv P (-1) 8 0 (vn - n)) vn := by
  rw [gmv_grow h h1]
  refine ⟨by have := h.1; omega, h2, fun j hj => ?_, fun j h3 h4 => ?_⟩
  · show (if n < j ∧ j ≤ vn then (8 : Int32) else P j) = -1
    rw [if_neg (by omega)]
    exact h.2.2.1 j (by omega)
  · show ¬ (if n < j ∧ j ≤ vn then (8 : Int32) else P j) = -1
    by_cases z : n < j ∧ j ≤ vn
    · rw [if_pos z]; decide
    · rw [if_neg z]; exact h.2.2.2 j h3 (by omega)
theorem gEv_out {P : Nat → Int32} {n : Nat} (h : gEv P n) : gOut P := fun j hj => h.2.2.1 j (by have := h.2.1; omega)
/-- beginnings and ends pair off -/
theorem gbg_gen {P : Nat → Int32} (h0 : ¬ P 0 = 8) : ∀ m : Nat, gbg P 8 m = gen P 8 m + if P m = 8 ∧ P (m + 1) = 8 then 1 else 0
  | 0 => by rw [if_neg (fun z => h0 z.1)]; rfl
  | m + 1 => by
    have ih := gbg_gen h0 m
    by_cases a : P m = 8 <;> by_cases b : P (m + 1) = 8 <;> by_cases c : P (m + 2) = 8 <;> simp [gbg, gen, a, b, c] at ih ⊢ <;> omega
/-- where a run that ends at q begins -/
theorem g_run {P : Nat → Int32} (h0 : ¬ P 0 = 8) : ∀ q : Nat, P q = 8 → ∃ j, 1 ≤ j ∧ j ≤ q ∧ ¬ P (j - 1) = 8 ∧ ∀ i, j ≤ i → i ≤ q → P i = 8
  | 0, h => absurd h h0
  | q + 1, h => by
    by_cases z : P q = 8
    · obtain ⟨j, h1, h2, h3, h4⟩ := g_run h0 q z
      refine ⟨j, h1, by omega, h3, fun i a b => ?_⟩
      by_cases y : i = q + 1
      · rw [y]; exact h
      · exact h4 i a (by omega)
    · exact ⟨q + 1, by omega, Nat.le_refl _, z, fun i a b => by rw [show i = q + 1 by omega]; exact h⟩
theorem g_begin {P : Nat → Int32} (h0 : ¬ P 0 = 8) {q : Nat} (hq : P q = 8) : ∃ j, 1 ≤ j ∧ j ≤ q ∧ P j = 8 ∧ ¬ P (j - 1) = 8 ∧ gbg P 8 (j - 1) = gen P 8 (q - 1) := by
  obtain ⟨j, h1, h2, h3, h4⟩ := g_run h0 q hq
  refine ⟨j, h1, h2, h4 j (Nat.le_refl _) h2, h3, ?_⟩
  have h5 := gbg_gen h0 (j - 1)
  rw [if_neg (fun z => h3 z.1)] at h5
  have h6 := gen_same (P := P) (p := 8) (m := j - 1) (q - j) (fun i a b z => z.2 (h4 (i + 1) (by omega) (by omega)))
  rw [show j - 1 + (q - j) = q - 1 by omega] at h6
  omega
theorem gbg_inj {P : Nat → Int32} {v w : Nat} (hv : 1 ≤ v) (hw : 1 ≤ w) (h1 : P v = 8 ∧ ¬ P (v - 1) = 8) (h2 : P w = 8 ∧ ¬ P (w - 1) = 8) (h : gbg P 8 (v - 1) = gbg P 8 (w - 1)) : v = w := by
  have key : ∀ a b : Nat, 1 ≤ a → (P a = 8 ∧ ¬ P (a - 1) = 8) → a < b → gbg P 8 (a - 1) < gbg P 8 (b - 1) := by
    intro a b ha hp hab
    have e1 := gbg_yes (P := P) (p := 8) (n := a - 1) (by rw [show a - 1 + 1 = a by omega]; exact hp)
    rw [show a - 1 + 1 = a by omega] at e1
    have e2 := gbg_mono P 8 (m := a) (b - 1 - a)
    rw [show a + (b - 1 - a) = b - 1 by omega] at e2
    omega
  rcases Nat.lt_trichotomy v w with z | z | z
  · have := key v w hv h1 z; omega
  · exact z
  · have := key w v hw h2 z; omega
theorem gen_inj {P : Nat → Int32} {v w : Nat} (hv : 1 ≤ v) (hw : 1 ≤ w) (h1 : P v = 8 ∧ ¬ P (v + 1) = 8) (h2 : P w = 8 ∧ ¬ P (w + 1) = 8) (h : gen P 8 (v - 1) = gen P 8 (w - 1)) : v = w := by
  have key : ∀ a b : Nat, 1 ≤ a → (P a = 8 ∧ ¬ P (a + 1) = 8) → a < b → gen P 8 (a - 1) < gen P 8 (b - 1) := by
    intro a b ha hp hab
    have e1 := gen_yes (P := P) (p := 8) (n := a - 1) (by rw [show a - 1 + 1 = a by omega, show a - 1 + 2 = a + 1 by omega]; exact hp)
    rw [show a - 1 + 1 = a by omega] at e1
    have e2 := gen_mono P 8 (m := a) (b - 1 - a)
    rw [show a + (b - 1 - a) = b - 1 by omega] at e2
    omega
  rcases Nat.lt_trichotomy v w with z | z | z
  · have := key v w hv h1 z; omega
  · exact z
  · have := key w v hw h2 z; omega
theorem b_in {P : Nat → Int32} {n v : Nat} (h : gEv P n) (hv : P v = 8) : v ≤ n := by
  rcases Nat.lt_or_ge n v with z | z
  · rw [h.2.2.1 v (Or.inr z)] at hv; exact absurd hv (by decide)
  · exact z
