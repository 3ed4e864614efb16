/-! p25: what its law says, of numbers and their places alone -/
/-- the law's evening: n numbers (at most 219), each at one of the places 0 to 10 -/
def gInv (P : Nat → Int32) (n : Nat) : Prop := gEv P n ∧ n ≤ 219 ∧ ∀ j, 1 ≤ j → j ≤ n → ∃ k : Nat, k ≤ 10 ∧ P j = nI k
theorem h_0 {P : Nat → Int32} {n : Nat} (h : gEv P n) : P 0 = -1 := h.2.2.1 0 (Or.inl rfl)
theorem h_51 {P : Nat → Int32} {n : Nat} (h : gEv P n) : P 5001 = -1 := h.2.2.1 5001 (Or.inr (by have := h.2.1; omega))
theorem h_0n {P : Nat → Int32} {n : Nat} (h : gEv P n) : ¬ P 0 = 8 := by rw [h_0 h]; decide
theorem h_neg {k : Nat} (hk : k ≤ 10) : ¬ nI k = -1 := by
  intro h
  have h2 : (nI k).toInt = -1 := by rw [h]; rfl
  rw [nI_toInt (by omega)] at h2
  omega
theorem h_ne {a b : Nat} (ha : a ≤ 10) (hb : b ≤ 10) (h : a ≠ b) : ¬ nI a = nI b := fun z => h ((nI_eq (by omega) (by omega)).mp z)
theorem h_gob {g : Nat} (h : g < 8) : gGob (nI g) := ⟨g, h, rfl⟩
theorem h_cnt {c : Nat} (h1 : 1 ≤ c) (h2 : c ≤ 200) : gCnt (nI c) := ⟨c, h1, h2, rfl⟩
theorem h_0p {P : Nat → Int32} {n k : Nat} (h : gEv P n) (hk : k ≤ 10) : ¬ P 0 = nI k := by rw [h_0 h]; exact fun z => h_neg hk z.symm
/-- sums -/
def gsum (f : Nat → Nat) : Nat → Nat
  | 0 => 0
  | k + 1 => gsum f k + f k
theorem gsum_one (f : Nat → Nat) (k : Nat) : ∀ N : Nat, gsum (fun q => f q + if k = q then 1 else 0) N = gsum f N + if k < N then 1 else 0
  | 0 => by rw [if_neg (Nat.not_lt_zero k)]; rfl
  | N + 1 => by
    have ih := gsum_one f k N
    show gsum (fun q => f q + if k = q then 1 else 0) N + (f N + if k = N then 1 else 0) = gsum f N + f N + if k < N + 1 then 1 else 0
    rw [ih]
    by_cases a : k = N
    · rw [if_pos a, if_neg (by omega), if_pos (by omega)]; omega
    · by_cases b : k < N
      · rw [if_neg a, if_pos b, if_pos (by omega)]; omega
      · rw [if_neg a, if_neg b, if_neg (by omega)]; omega
theorem gsum_cong {f g : Nat → Nat} : ∀ N : Nat, (∀ q, q < N → f q = g q) → gsum f N = gsum g N
  | 0, _ => rfl
  | N + 1, h => by
    show gsum f N + f N = gsum g N + g N
    rw [gsum_cong N (fun q hq => h q (by omega)), h N (by omega)]
theorem gsum_zero : ∀ N : Nat, gsum (fun _ => 0) N = 0
  | 0 => rfl
  | N + 1 => by
    show gsum (fun _ => 0) N + 0 = 0
    rw [gsum_zero N]
theorem h_sumAt {P : Nat → Int32} : ∀ m : Nat, (∀ j, 1 ≤ j → j ≤ m → ∃ k : Nat, k ≤ 10 ∧ P j = nI k) → gsum (fun q => gct P (nI q) m) 11 = m
  | 0, _ => gsum_zero 11
  | m + 1, h => by
    have ih := h_sumAt m (fun j a b => h j a (by omega))
    obtain ⟨k, hk, e⟩ := h (m + 1) (by omega) (Nat.le_refl _)
    have e2 : gsum (fun q => gct P (nI q) (m + 1)) 11 = gsum (fun q => gct P (nI q) m + if k = q then 1 else 0) 11 := by
      refine gsum_cong 11 (fun q hq => ?_)
      show gct P (nI q) m + (if P (m + 1) = nI q then 1 else 0) = gct P (nI q) m + if k = q then 1 else 0
      by_cases z : k = q
      · rw [if_pos z, if_pos (by rw [e, z])]
      · rw [if_neg z, if_neg (by rw [e]; exact h_ne hk (by omega) z)]
    rw [e2, gsum_one (fun q => gct P (nI q) m) k 11, ih, if_pos (by omega)]
theorem h_sum {P : Nat → Int32} {n : Nat} (h : gInv P n) : gsum (fun q => gct P (nI q) 5000) 8 + gct P 8 5000 + gct P 9 5000 + gct P 10 5000 = n := by
  have e : gsum (fun q => gct P (nI q) 5000) 11 = gsum (fun q => gct P (nI q) n) 11 := gsum_cong 11 (fun q hq => b_ct h.1 (h_neg (by omega)))
  rw [h_sumAt n h.2.2] at e
  exact e
theorem gsum_le {f : Nat → Nat} {b : Nat} : ∀ N : Nat, (∀ q, q < N → f q ≤ b) → gsum f N ≤ N * b
  | 0, _ => Nat.zero_le _
  | N + 1, h => by
    have h1 := gsum_le (f := f) (b := b) N (fun q hq => h q (by omega))
    have h2 := h N (by omega)
    show gsum f N + f N ≤ (N + 1) * b
    rw [Nat.succ_mul]
    omega
/-- few: of no place more than n -/
theorem h_few {P : Nat → Int32} {n k : Nat} (h : gEv P n) (hk : k ≤ 10) : gct P (nI k) 5000 ≤ n := by
  rw [b_ct h (h_neg hk)]
  exact gct_le _ _ _
theorem h_fewR {P : Nat → Int32} {n k : Nat} (h : gEv P n) (hk : k ≤ 10) : gbg P (nI k) 5000 ≤ n := by
  rw [b_bg h (h_neg hk)]
  exact gbg_le _ _ _
theorem gbg_ct (P : Nat → Int32) (p : Int32) : ∀ m : Nat, gbg P p m ≤ gct P p m
  | 0 => Nat.le_refl _
  | m + 1 => by
    have ih := gbg_ct P p m
    by_cases a : P (m + 1) = p
    · rw [gct_yes a]
      by_cases b : P m = p
      · rw [gbg_no (fun z => z.2 b)]; omega
      · rw [gbg_yes ⟨a, b⟩]; omega
    · rw [gct_no a, gbg_no (fun z => a z.1)]; exact ih
/-- no range begins: no number -/
theorem gap0 {P : Nat → Int32} {p : Int32} {q : Nat} (h : ¬ (P q = p ∧ P (q + 1) = p)) : ∀ d : Nat, gbg P p (q + d) = gbg P p q → ∀ j, q < j → j ≤ q + d → ¬ P j = p
  | 0, _, j, h1, h2 => absurd h1 (by omega)
  | d + 1, he, j, h1, h2 => by
    have m1 := gbg_mono P p (m := q) d
    have m2 := gbg_mono P p (m := q + d) 1
    have he : gbg P p (q + d + 1) = gbg P p q := he
    have ih := gap0 h d (by omega)
    by_cases z : j = q + d + 1
    · rw [z]
      intro hp
      by_cases hd : P (q + d) = p
      · rcases Nat.eq_zero_or_pos d with y | y
        · subst y; exact h ⟨hd, hp⟩
        · exact ih (q + d) (by omega) (Nat.le_refl _) hd
      · have := gbg_yes (P := P) (p := p) (n := q + d) ⟨hp, hd⟩
        omega
    · exact ih j h1 (by omega)
theorem gap {P : Nat → Int32} {p : Int32} {q m : Nat} (h : ¬ (P q = p ∧ P (q + 1) = p)) (hm : q ≤ m) (he : gbg P p m = gbg P p q) : ∀ j, q < j → j ≤ m → ¬ P j = p := by
  have := gap0 h (m - q) (by rw [show q + (m - q) = m by omega]; exact he)
  rwa [show q + (m - q) = m by omega] at this
theorem gbg_none {P : Nat → Int32} {p : Int32} {m : Nat} (h0 : ¬ P 0 = p) (he : gbg P p m = 0) : ∀ j, 1 ≤ j → j ≤ m → ¬ P j = p :=
  fun j a b => gap (P := P) (p := p) (q := 0) (m := m) (fun z => h0 z.1) (Nat.zero_le _) he j (by omega) b
theorem gct_none {P : Nat → Int32} {p : Int32} {m : Nat} (h : gct P p m = 0) : ∀ j, 1 ≤ j → j ≤ m → ¬ P j = p := by
  intro j a b z
  have h1 := gct_step (P := P) (p := p) (k := j) (j := j) a (Nat.le_refl _) z
  have h2 := gct_mono' P p b
  omega
theorem gct_zero {P : Nat → Int32} {p : Int32} {m : Nat} (h : ∀ j, 1 ≤ j → j ≤ m → ¬ P j = p) : gct P p m = 0 := gct_past (P := P) (p := p) (k := 1) (m := m) (by omega) h
theorem gbg_iff {P : Nat → Int32} {p : Int32} {m : Nat} (h0 : ¬ P 0 = p) : gct P p m = 0 ↔ gbg P p m = 0 :=
  ⟨fun z => by have := gbg_ct P p m; omega, fun z => gct_zero (gbg_none h0 z)⟩
theorem glow_ct {P : Nat → Int32} {p : Int32} {v : Nat} (h : glow (fun j => P j = p) 5000 v) : v = 0 ↔ gct P p 5000 = 0 := by
  rcases h with ⟨h1, h2⟩ | ⟨h1, h2, h3, h4⟩
  · exact ⟨fun _ => gct_zero h2, fun _ => h1⟩
  · exact ⟨fun z => by omega, fun z => absurd h3 (gct_none z v h1 h2)⟩
theorem glow_at {P : Nat → Int32} {p : Int32} {v : Nat} (h : glow (fun j => P j = p) 5000 v) (hv : ¬ v = 0) : 1 ≤ v ∧ v ≤ 5000 ∧ P v = p := by
  rcases h with ⟨h1, h2⟩ | ⟨h1, h2, h3, h4⟩
  · exact absurd h1 hv
  · exact ⟨h1, h2, h3⟩
theorem glow_0 {P : Nat → Int32} {p : Int32} : glow (fun j => P j = p) 5000 0 ↔ gct P p 5000 = 0 := by
  constructor
  · exact fun h => (glow_ct h).mp rfl
  · exact fun h => Or.inl ⟨rfl, gct_none h⟩
/-- the k-th range of the jug -/
def gRg (P : Nat → Int32) (k a b : Nat) : Prop := 1 ≤ a ∧ a ≤ b ∧ b ≤ 5000 ∧ (∀ j, a ≤ j → j ≤ b → P j = 8) ∧ ¬ P (a - 1) = 8 ∧ ¬ P (b + 1) = 8 ∧ gbg P 8 (a - 1) = k
theorem rg_begin {P : Nat → Int32} {p : Int32} {k : Nat} : ∀ m : Nat, k < gbg P p m → ∃ a, 1 ≤ a ∧ a ≤ m ∧ P a = p ∧ ¬ P (a - 1) = p ∧ gbg P p (a - 1) = k
  | 0, h => absurd h (Nat.not_lt_zero _)
  | m + 1, h => by
    by_cases z : k < gbg P p m
    · obtain ⟨a, h1, h2, h3⟩ := rg_begin m z
      exact ⟨a, h1, by omega, h3⟩
    · by_cases y : P (m + 1) = p ∧ ¬ P m = p
      · have := gbg_yes y
        exact ⟨m + 1, by omega, Nat.le_refl _, y.1, y.2, by rw [Nat.add_sub_cancel]; omega⟩
      · have := gbg_no y
        omega
theorem rg_end {P : Nat → Int32} {p : Int32} {a : Nat} (ha : P a = p) : ∀ d : Nat, (∃ b, a ≤ b ∧ b < a + d ∧ (∀ j, a ≤ j → j ≤ b → P j = p) ∧ ¬ P (b + 1) = p) ∨ (∀ j, a ≤ j → j ≤ a + d → P j = p)
  | 0 => Or.inr (fun j h1 h2 => by rw [show j = a by omega]; exact ha)
  | d + 1 => by
    rcases rg_end ha d with ⟨b, h1, h2, h3⟩ | h
    · exact Or.inl ⟨b, h1, by omega, h3⟩
    · by_cases z : P (a + d + 1) = p
      · refine Or.inr (fun j h1 h2 => ?_)
        by_cases y : j = a + d + 1
        · rw [y]; exact z
        · exact h j h1 (by omega)
      · exact Or.inl ⟨a + d, by omega, by omega, h, z⟩
theorem rg_ex {P : Nat → Int32} {n k : Nat} (h : gEv P n) (hk : k < gbg P 8 5000) : ∃ a b, gRg P k a b ∧ b ≤ n := by
  obtain ⟨a, h1, h2, h3, h4, h5⟩ := rg_begin 5000 hk
  have ha : a ≤ n := b_in h h3
  rcases rg_end h3 (n + 1 - a) with ⟨b, c1, c2, c3, c4⟩ | c
  · have hb : b ≤ n := by omega
    have := h.2.1
    exact ⟨a, b, ⟨h1, c1, by omega, c3, h4, c4, h5⟩, hb⟩
  · have := c (n + 1) (by omega) (by omega)
    exact absurd (b_in h this) (by omega)
theorem rg_from {P : Nat → Int32} {k a b : Nat} {r : Int32} (hk : k ≤ 5000) (h : gRg P k a b) (hr : ∃ v : Nat, 1 ≤ v ∧ v ≤ 5000 ∧ r = nI v ∧ P v = 8 ∧ ¬ P (v - 1) = 8 ∧ nI k = nI (gbg P 8 (v - 1))) : r = nI a := by
  obtain ⟨v, h1, h2, h3, h4, h5, h6⟩ := hr
  obtain ⟨c1, c2, c3, c4, c5, c6, c7⟩ := h
  have h7 := gbg_le P 8 (v - 1)
  have h8 := (nI_eq (by omega) (by omega)).mp h6
  have : v = a := gbg_inj h1 c1 ⟨h4, h5⟩ ⟨c4 a (Nat.le_refl _) c2, c5⟩ (by omega)
  rw [h3, this]
theorem rg_to {P : Nat → Int32} {k a b : Nat} {r : Int32} (h0 : ¬ P 0 = 8) (hk : k ≤ 5000) (h : gRg P k a b) (hr : ∃ v : Nat, 1 ≤ v ∧ v ≤ 5000 ∧ r = nI v ∧ P v = 8 ∧ ¬ P (v + 1) = 8 ∧ nI k = nI (gen P 8 (v - 1))) : r = nI b := by
  obtain ⟨v, h1, h2, h3, h4, h5, h6⟩ := hr
  obtain ⟨c1, c2, c3, c4, c5, c6, c7⟩ := h
  have h7 := gen_le P 8 (v - 1)
  have h8 := (nI_eq (by omega) (by omega)).mp h6
  have h9 := (gen_to c1 c2 c4 c6).2
  have g1 := gbg_gen h0 (a - 1)
  rw [if_neg (fun z => c5 z.1)] at g1
  have : v = b := gen_inj h1 (by omega) ⟨h4, h5⟩ ⟨c4 b c2 (Nat.le_refl _), c6⟩ (by omega)
  rw [h3, this]
theorem rg_ok {P : Nat → Int32} {k a b : Nat} (h : gRg P k a b) (hc : ∀ j, 1 ≤ j → j ≤ 5000 → P j = 8 → ¬ P (j - 1) = 8 → ¬ nI k = nI (gbg P 8 (j - 1))) : False := by
  obtain ⟨c1, c2, c3, c4, c5, c6, c7⟩ := h
  exact hc a c1 (by omega) (c4 a (Nat.le_refl _) c2) c5 (by rw [c7])
theorem rg_place {P : Nat → Int32} {n j : Nat} {r : Int32} (h : gEv P n) (hj : j ≤ 5000) (hr : (∃ i : Nat, 1 ≤ i ∧ i ≤ 5000 ∧ nI j = nI i ∧ r = P i) ∨ (r = -1 ∧ ∀ i : Nat, 1 ≤ i → i ≤ 5000 → ¬ nI j = nI i)) : r = P j := by
  rcases hr with ⟨i, h1, h2, h3, h4⟩ | ⟨h1, h2⟩
  · rw [h4, (nI_eq (by omega) (by omega)).mp h3]
  · rcases Nat.eq_zero_or_pos j with z | z
    · rw [z, h_0 h]; exact h1
    · exact absurd rfl (h2 j z hj)
/-- one range is behind another -/
theorem rg_next {P : Nat → Int32} {k a b e : Nat} (h : gRg P k a b) (he : gbg P 8 e = k) (hs : ¬ (P e = 8 ∧ P (e + 1) = 8)) : e < a ∧ gct P 8 b = gct P 8 e + (b - a + 1) ∧ gbg P 8 b = k + 1 := by
  obtain ⟨c1, c2, c3, c4, c5, c6, c7⟩ := h
  have e1 := gbg_to c1 c2 c4 c5
  have hlt : e < a := by
    rcases Nat.lt_or_ge e a with z | z
    · exact z
    · have h1 := gbg_to c1 (Nat.le_refl a) (fun j x y => c4 j x (by omega)) c5
      have h2 := gbg_mono P 8 (m := a) (e - a)
      rw [show a + (e - a) = e by omega] at h2
      omega
  have h3 := gap hs (show e ≤ a - 1 by omega) (by omega)
  have h4 := gct_past (P := P) (p := 8) (k := e + 1) (m := a - 1) (by omega) (fun j x y => h3 j (by omega) y)
  rw [Nat.add_sub_cancel] at h4
  have h5 := gct_to c1 c2 c4
  exact ⟨hlt, by omega, by omega⟩
/-- behind the last range there is none -/
theorem rg_last {P : Nat → Int32} {e : Nat} (hm : e ≤ 5000) (he : gbg P 8 e = gbg P 8 5000) (hs : ¬ (P e = 8 ∧ P (e + 1) = 8)) : gct P 8 5000 = gct P 8 e := by
  have h3 := gap hs hm he.symm
  have h4 := gct_past (P := P) (p := 8) (k := e + 1) (m := 5000) (by omega) (fun j x y => h3 j (by omega) y)
  rwa [Nat.add_sub_cancel] at h4
/-- the longest range -/
theorem lg_inv {P : Nat → Int32} (h0 : ¬ P 0 = 8) : ∀ m : Nat,
    (∀ a b i, 1 ≤ a → a ≤ b → b ≤ m → (∀ j, a ≤ j → j ≤ b → P j = 8) → ¬ P (a - 1) = 8 → gbg P 8 (a - 1) = i → b - a + 1 ≤ (glg P m).2.1 ∧ (i + 1 < (glg P m).1 → b - a + 1 < (glg P m).2.1)) ∧
    (((glg P m).1 = 0 ∧ (glg P m).2.1 = 0) ∨ ∃ a b, 1 ≤ a ∧ a ≤ b ∧ b ≤ m ∧ (∀ j, a ≤ j → j ≤ b → P j = 8) ∧ ¬ P (a - 1) = 8 ∧ gbg P 8 (a - 1) + 1 = (glg P m).1 ∧ b - a + 1 = (glg P m).2.1) ∧
    (∀ a, 1 ≤ a → a ≤ m → (∀ j, a ≤ j → j ≤ m → P j = 8) → ¬ P (a - 1) = 8 → (glg P m).2.2 = m - a + 1) ∧ (glg P m).1 ≤ gbg P 8 m
  | 0 => ⟨fun a b i h1 h2 h3 => absurd h1 (by omega), Or.inl ⟨rfl, rfl⟩, fun a h1 h2 => absurd h1 (by omega), Nat.le_refl _⟩
  | m + 1 => by
    obtain ⟨i1, i2, i3, i4⟩ := lg_inv h0 m
    by_cases z : P (m + 1) = 8
    · have k3 : ∀ a, 1 ≤ a → a ≤ m + 1 → (∀ j, a ≤ j → j ≤ m + 1 → P j = 8) → ¬ P (a - 1) = 8 → (glg P m).2.2 + 1 = m + 1 - a + 1 := by
        intro a h1 h2 h3 h4
        by_cases y : a = m + 1
        · rw [y, Nat.add_sub_cancel] at h4
          rw [glg_last m h4]
          omega
        · rw [i3 a h1 (by omega) (fun j x w => h3 j x (by omega)) h4]
          omega
      have kb : ∀ a, 1 ≤ a → a ≤ m + 1 → (∀ j, a ≤ j → j ≤ m + 1 → P j = 8) → ¬ P (a - 1) = 8 → gbg P 8 (a - 1) + 1 = gbg P 8 (m + 1) := fun a h1 h2 h3 h4 => (gbg_to h1 h2 h3 h4).symm
      have km := gbg_mono P 8 (m := m) 1
      rw [glg_1 z]
      by_cases y : (glg P m).2.1 < (glg P m).2.2 + 1
      · rw [if_pos y]
        refine ⟨fun a b i h1 h2 h3 h4 h5 h6 => ?_, Or.inr ?_, k3, Nat.le_refl _⟩
        · show b - a + 1 ≤ (glg P m).2.2 + 1 ∧ (i + 1 < gbg P 8 (m + 1) → b - a + 1 < (glg P m).2.2 + 1)
          by_cases w : b = m + 1
          · subst w
            have e1 := k3 a h1 h2 h4 h5
            have e2 := kb a h1 h2 h4 h5
            exact ⟨by omega, fun q => by omega⟩
          · have e1 := (i1 a b i h1 h2 (by omega) h4 h5 h6).1
            exact ⟨by omega, fun _ => by omega⟩
        · obtain ⟨a, c1, c2, c3, c4⟩ := g_run h0 (m + 1) z
          exact ⟨a, m + 1, c1, c2, Nat.le_refl _, c4, c3, kb a c1 c2 c4 c3, (k3 a c1 c2 c4 c3).symm⟩
      · rw [if_neg y]
        refine ⟨fun a b i h1 h2 h3 h4 h5 h6 => ?_, ?_, k3, ?_⟩
        · show b - a + 1 ≤ (glg P m).2.1 ∧ (i + 1 < (glg P m).1 → b - a + 1 < (glg P m).2.1)
          by_cases w : b = m + 1
          · subst w
            have e1 := k3 a h1 h2 h4 h5
            have e2 := kb a h1 h2 h4 h5
            exact ⟨by omega, fun q => by omega⟩
          · exact i1 a b i h1 h2 (by omega) h4 h5 h6
        · rcases i2 with h | ⟨a, b, c1, c2, c3, c4⟩
          · exact Or.inl h
          · exact Or.inr ⟨a, b, c1, c2, by omega, c4⟩
        · show (glg P m).1 ≤ gbg P 8 (m + 1); omega
    · have km := gbg_mono P 8 (m := m) 1
      rw [glg_0 z]
      refine ⟨fun a b i h1 h2 h3 h4 h5 h6 => ?_, ?_, fun a h1 h2 h3 h4 => absurd (h3 (m + 1) h2 (Nat.le_refl _)) z, ?_⟩
      · refine i1 a b i h1 h2 ?_ h4 h5 h6
        rcases Nat.lt_or_ge m b with w | w
        · exact absurd (h4 (m + 1) (by omega) (by omega)) z
        · exact w
      · rcases i2 with h | ⟨a, b, c1, c2, c3, c4⟩
        · exact Or.inl h
        · exact Or.inr ⟨a, b, c1, c2, by omega, c4⟩
      · show (glg P m).1 ≤ gbg P 8 (m + 1); omega
theorem lg_none {P : Nat → Int32} {n : Nat} (h : gEv P n) (hz : gbg P 8 5000 = 0) : (glg P 5000).1 = 0 := by
  have := (lg_inv (h_0n h) 5000).2.2.2
  omega
theorem lg_some {P : Nat → Int32} {n : Nat} (h : gEv P n) (hz : ¬ gbg P 8 5000 = 0) : ∃ k a b, (glg P 5000).1 = k + 1 ∧ k < gbg P 8 5000 ∧ gRg P k a b ∧ b ≤ n ∧ ∀ i x y, gRg P i x y → y - x + 1 ≤ b - a + 1 ∧ (i < k → y - x + 1 < b - a + 1) := by
  obtain ⟨i1, i2, i3, i4⟩ := lg_inv (h_0n h) 5000
  rcases i2 with ⟨c1, c2⟩ | ⟨a, b, c1, c2, c3, c4, c5, c6, c7⟩
  · obtain ⟨a, b, ⟨d1, d2, d3, d4, d5, d6, d7⟩, -⟩ := rg_ex h (k := 0) (by omega)
    have := (i1 a b 0 d1 d2 d3 d4 d5 d7).1
    omega
  · have hk : gbg P 8 (a - 1) < gbg P 8 5000 := by omega
    obtain ⟨a2, b2, hr, hb⟩ := rg_ex h hk
    obtain ⟨d1, d2, d3, d4, d5, d6, d7⟩ := id hr
    have e1 : a2 = a := gbg_inj d1 c1 ⟨d4 a2 (Nat.le_refl _) d2, d5⟩ ⟨c4 a (Nat.le_refl _) c2, c5⟩ d7
    subst e1
    have e2 := (i1 a2 b2 _ d1 d2 d3 d4 d5 d7).1
    have e3 : b ≤ b2 := by
      rcases Nat.lt_or_ge b2 b with z | z
      · exact absurd (c4 (b2 + 1) (by omega) (by omega)) d6
      · exact z
    have e4 : b2 = b := by omega
    subst e4
    refine ⟨_, a2, b2, c6.symm, hk, hr, hb, fun i x y hx => ?_⟩
    obtain ⟨f1, f2, f3, f4, f5, f6, f7⟩ := hx
    have e5 := i1 x y i f1 f2 f3 f4 f5 f7
    rw [c7]
    exact ⟨e5.1, fun z => e5.2 (by omega)⟩
