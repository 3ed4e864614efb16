/-! numbers and their places: P n is the place of n; counting, ranges -/
def gct (P : Nat → Int32) (p : Int32) : Nat → Nat
  | 0 => 0
  | n + 1 => gct P p n + if P (n + 1) = p then 1 else 0
theorem gct_yes {P : Nat → Int32} {p : Int32} {n : Nat} (h : P (n + 1) = p) : gct P p (n + 1) = gct P p n + 1 := by simp [gct, h]
theorem gct_no {P : Nat → Int32} {p : Int32} {n : Nat} (h : ¬ P (n + 1) = p) : gct P p (n + 1) = gct P p n := by simp [gct, h]
theorem gct_le (P : Nat → Int32) (p : Int32) : ∀ n, gct P p n ≤ n
  | 0 => Nat.le_refl _
  | n + 1 => by
    have h := gct_le P p n
    by_cases q : P (n + 1) = p
    · rw [gct_yes q]; omega
    · rw [gct_no q]; omega
theorem gct_run {P : Nat → Int32} {p : Int32} {m : Nat} : ∀ d : Nat, (∀ j, m < j → j ≤ m + d → P j = p) → gct P p (m + d) = gct P p m + d
  | 0, _ => rfl
  | d + 1, h => by
    have h1 := gct_run (P := P) (p := p) (m := m) d (fun j a b => h j a (by omega))
    rw [← Nat.add_assoc, gct_yes (h (m + d + 1) (by omega) (by omega)), h1]
    omega
theorem gct_skip {P : Nat → Int32} {p : Int32} {m : Nat} : ∀ d : Nat, (∀ j, m < j → j ≤ m + d → ¬ P j = p) → gct P p (m + d) = gct P p m
  | 0, _ => rfl
  | d + 1, h => by
    have h1 := gct_skip (P := P) (p := p) (m := m) d (fun j a b => h j a (by omega))
    rw [← Nat.add_assoc, gct_no (h (m + d + 1) (by omega) (by omega)), h1]
theorem gct_mono (P : Nat → Int32) (p : Int32) {m : Nat} : ∀ d : Nat, gct P p m ≤ gct P p (m + d)
  | 0 => Nat.le_refl _
  | d + 1 => by
    have h1 := gct_mono P p (m := m) d
    rw [← Nat.add_assoc]
    by_cases q : P (m + d + 1) = p
    · rw [gct_yes q]; omega
    · rw [gct_no q]; omega
theorem gct_mono' (P : Nat → Int32) (p : Int32) {m n : Nat} (h : m ≤ n) : gct P p m ≤ gct P p n := by
  have := gct_mono P p (m := m) (n - m)
  rwa [show m + (n - m) = n by omega] at this
theorem gct_cong {P Q : Nat → Int32} {p q : Int32} : ∀ n : Nat, (∀ j, 1 ≤ j → j ≤ n → (P j = p ↔ Q j = q)) → gct P p n = gct Q q n
  | 0, _ => rfl
  | n + 1, h => by
    have h1 := gct_cong (P := P) (Q := Q) (p := p) (q := q) n (fun j a b => h j a (by omega))
    have h2 := h (n + 1) (by omega) (by omega)
    by_cases z : P (n + 1) = p
    · rw [gct_yes z, gct_yes (h2.mp z), h1]
    · rw [gct_no z, gct_no (fun w => z (h2.mpr w)), h1]
/-- a run of p from k to m -/
theorem gct_to {P : Nat → Int32} {p : Int32} {k m : Nat} (hk : 1 ≤ k) (hm : k ≤ m) (h : ∀ j, k ≤ j → j ≤ m → P j = p) : gct P p m = gct P p (k - 1) + (m - k + 1) := by
  have := gct_run (P := P) (p := p) (m := k - 1) (m - k + 1) (fun j a b => h j (by omega) (by omega))
  rwa [show k - 1 + (m - k + 1) = m by omega] at this
theorem gct_past {P : Nat → Int32} {p : Int32} {k m : Nat} (hm : k ≤ m + 1) (h : ∀ j, k ≤ j → j ≤ m → ¬ P j = p) : gct P p m = gct P p (k - 1) := by
  rcases Nat.eq_zero_or_pos k with q | q
  · subst q
    have := gct_skip (P := P) (p := p) (m := 0) m (fun j a b => h j (by omega) (by omega))
    rwa [Nat.zero_add] at this
  · have := gct_skip (P := P) (p := p) (m := k - 1) (m + 1 - k) (fun j a b => h j (by omega) (by omega))
    rwa [show k - 1 + (m + 1 - k) = m by omega] at this
/-- how many ranges of p begin, or end, among the numbers up to n -/
def gbg (P : Nat → Int32) (p : Int32) : Nat → Nat
  | 0 => 0
  | n + 1 => gbg P p n + if P (n + 1) = p ∧ ¬ P n = p then 1 else 0
def gen (P : Nat → Int32) (p : Int32) : Nat → Nat
  | 0 => 0
  | n + 1 => gen P p n + if P (n + 1) = p ∧ ¬ P (n + 2) = p then 1 else 0
theorem gbg_yes {P : Nat → Int32} {p : Int32} {n : Nat} (h : P (n + 1) = p ∧ ¬ P n = p) : gbg P p (n + 1) = gbg P p n + 1 := by simp [gbg, h]
theorem gbg_no {P : Nat → Int32} {p : Int32} {n : Nat} (h : ¬ (P (n + 1) = p ∧ ¬ P n = p)) : gbg P p (n + 1) = gbg P p n := by simp [gbg, h]
theorem gen_yes {P : Nat → Int32} {p : Int32} {n : Nat} (h : P (n + 1) = p ∧ ¬ P (n + 2) = p) : gen P p (n + 1) = gen P p n + 1 := by simp [gen, h]
theorem gen_no {P : Nat → Int32} {p : Int32} {n : Nat} (h : ¬ (P (n + 1) = p ∧ ¬ P (n + 2) = p)) : gen P p (n + 1) = gen P p n := by simp [gen, h]
theorem gbg_le (P : Nat → Int32) (p : Int32) : ∀ n, gbg P p n ≤ n
  | 0 => Nat.le_refl _
  | n + 1 => by
    have h := gbg_le P p n
    by_cases q : P (n + 1) = p ∧ ¬ P n = p
    · rw [gbg_yes q]; omega
    · rw [gbg_no q]; omega
theorem gen_le (P : Nat → Int32) (p : Int32) : ∀ n, gen P p n ≤ n
  | 0 => Nat.le_refl _
  | n + 1 => by
    have h := gen_le P p n
    by_cases q : P (n + 1) = p ∧ ¬ P (n + 2) = p
    · rw [gen_yes q]; omega
    · rw [gen_no q]; omega
theorem gbg_same {P : Nat → Int32} {p : Int32} {m : Nat} : ∀ d : Nat, (∀ j, m < j → j ≤ m + d → ¬ (P j = p ∧ ¬ P (j - 1) = p)) → gbg P p (m + d) = gbg P p m
  | 0, _ => rfl
  | d + 1, h => by
    have h1 := gbg_same (P := P) (p := p) (m := m) d (fun j a b => h j a (by omega))
    rw [← Nat.add_assoc, gbg_no (h (m + d + 1) (by omega) (by omega)), h1]
theorem gen_same {P : Nat → Int32} {p : Int32} {m : Nat} : ∀ d : Nat, (∀ j, m < j → j ≤ m + d → ¬ (P j = p ∧ ¬ P (j + 1) = p)) → gen P p (m + d) = gen P p m
  | 0, _ => rfl
  | d + 1, h => by
    have h1 := gen_same (P := P) (p := p) (m := m) d (fun j a b => h j a (by omega))
    rw [← Nat.add_assoc, gen_no (h (m + d + 1) (by omega) (by omega)), h1]
theorem gbg_mono (P : Nat → Int32) (p : Int32) {m : Nat} : ∀ d : Nat, gbg P p m ≤ gbg P p (m + d)
  | 0 => Nat.le_refl _
  | d + 1 => by
    have h1 := gbg_mono P p (m := m) d
    rw [← Nat.add_assoc]
    by_cases q : P (m + d + 1) = p ∧ ¬ P (m + d) = p
    · rw [gbg_yes q]; omega
    · rw [gbg_no q]; omega
theorem gen_mono (P : Nat → Int32) (p : Int32) {m : Nat} : ∀ d : Nat, gen P p m ≤ gen P p (m + d)
  | 0 => Nat.le_refl _
  | d + 1 => by
    have h1 := gen_mono P p (m := m) d
    rw [← Nat.add_assoc]
    by_cases q : P (m + d + 1) = p ∧ ¬ P (m + d + 2) = p
    · rw [gen_yes q]; omega
    · rw [gen_no q]; omega
/-- a stretch k to m of p, with another place before it: one more range begins -/
theorem gbg_to {P : Nat → Int32} {p : Int32} {k m : Nat} (hk : 1 ≤ k) (hm : k ≤ m) (h : ∀ j, k ≤ j → j ≤ m → P j = p) (h0 : ¬ P (k - 1) = p) : gbg P p m = gbg P p (k - 1) + 1 := by
  have h1 : gbg P p k = gbg P p (k - 1) + 1 := by
    have := gbg_yes (P := P) (p := p) (n := k - 1) ⟨by rw [show k - 1 + 1 = k by omega]; exact h k (by omega) hm, h0⟩
    rwa [show k - 1 + 1 = k by omega] at this
  have h2 := gbg_same (P := P) (p := p) (m := k) (m - k) (fun j a b q => q.2 (h (j - 1) (by omega) (by omega)))
  rw [show k + (m - k) = m by omega] at h2
  rw [h2, h1]
theorem gbg_past {P : Nat → Int32} {p : Int32} {k m : Nat} (hk : 1 ≤ k) (hm : k ≤ m + 1) (h : ∀ j, k ≤ j → j ≤ m → ¬ P j = p) : gbg P p m = gbg P p (k - 1) := by
  have := gbg_same (P := P) (p := p) (m := k - 1) (m + 1 - k) (fun j a b q => h j (by omega) (by omega) q.1)
  rwa [show k - 1 + (m + 1 - k) = m by omega] at this
theorem gen_to {P : Nat → Int32} {p : Int32} {k m : Nat} (hk : 1 ≤ k) (hm : k ≤ m) (h : ∀ j, k ≤ j → j ≤ m → P j = p) (h0 : ¬ P (m + 1) = p) : gen P p m = gen P p (k - 1) + 1 ∧ gen P p (m - 1) = gen P p (k - 1) := by
  have h2 := gen_same (P := P) (p := p) (m := k - 1) (m - k) (fun j a b q => q.2 (h (j + 1) (by omega) (by omega)))
  rw [show k - 1 + (m - k) = m - 1 by omega] at h2
  have h1 : gen P p m = gen P p (m - 1) + 1 := by
    have := gen_yes (P := P) (p := p) (n := m - 1) ⟨by rw [show m - 1 + 1 = m by omega]; exact h m (by omega) (by omega), by rw [show m - 1 + 2 = m + 1 by omega]; exact h0⟩
    rwa [show m - 1 + 1 = m by omega] at this
  exact ⟨by rw [h1, h2], h2⟩
theorem gen_past {P : Nat → Int32} {p : Int32} {k m : Nat} (hk : 1 ≤ k) (hm : k ≤ m + 1) (h : ∀ j, k ≤ j → j ≤ m → ¬ P j = p) : gen P p m = gen P p (k - 1) := by
  have := gen_same (P := P) (p := p) (m := k - 1) (m + 1 - k) (fun j a b q => h j (by omega) (by omega) q.1)
  rwa [show k - 1 + (m + 1 - k) = m by omega] at this
/-- v is the lowest number up to n of which p holds; 0 for none -/
def glow (q : Nat → Prop) (n v : Nat) : Prop := (v = 0 ∧ ∀ j, 1 ≤ j → j ≤ n → ¬ q j) ∨ (1 ≤ v ∧ v ≤ n ∧ q v ∧ ∀ j, 1 ≤ j → j < v → ¬ q j)
theorem glow_one {q : Nat → Prop} {n v w : Nat} (h : glow q n v) (h2 : glow q n w) : v = w := by
  rcases h with ⟨a, b⟩ | ⟨a1, a2, a3, a4⟩ <;> rcases h2 with ⟨c, d⟩ | ⟨c1, c2, c3, c4⟩
  · rw [a, c]
  · exact absurd c3 (b w c1 c2)
  · exact absurd a3 (d v a1 a2)
  · rcases Nat.lt_trichotomy v w with z | z | z
    · exact absurd a3 (c4 v a1 z)
    · exact z
    · exact absurd c3 (a4 w c1 z)
theorem glow_le {q : Nat → Prop} {n v : Nat} (h : glow q n v) : v ≤ n := by
  rcases h with ⟨a, b⟩ | ⟨a1, a2, a3, a4⟩
  · omega
  · exact a2
/-! the chain of stretches -/
def gch (L : List Nat) (S : gS) : Option Nat → List (Nat × Nat × Int32) → Prop
  | x, [] => x = none
  | x, d :: r => ∃ (a : Nat) (nx : Option Nat), x = some a ∧ a ∈ L ∧ S a = (d.1, d.2.1, d.2.2, nx) ∧ gch L S nx r
/-- they cover k to 5000 by rising numbers, and tell P -/
def gwf (P : Nat → Int32) : Nat → List (Nat × Nat × Int32) → Prop
  | k, [] => k = 5001
  | k, d :: r => d.1 = k ∧ k ≤ d.2.1 ∧ d.2.1 ≤ 5000 ∧ (∀ j, k ≤ j → j ≤ d.2.1 → P j = d.2.2) ∧ gwf P (d.2.1 + 1) r
/-- no two neighbours have one place -/
def gmx (P : Nat → Int32) : List (Nat × Nat × Int32) → Prop
  | [] => True
  | d :: r => (d.1 = 1 ∨ ¬ P (d.1 - 1) = d.2.2) ∧ gmx P r
theorem gwf_cong {P P' : Nat → Int32} : ∀ (g : List (Nat × Nat × Int32)) (k : Nat), gwf P k g → (∀ j, k ≤ j → j ≤ 5000 → P' j = P j) → gwf P' k g
  | [], _, h, _ => h
  | d :: r, k, h, hj => by
    obtain ⟨h1, h2, h3, h4, h5⟩ := h
    exact ⟨h1, h2, h3, fun j a b => (hj j a (by omega)).trans (h4 j a b), gwf_cong r (d.2.1 + 1) h5 (fun j a b => hj j (by omega) b)⟩
theorem gwf_le {P : Nat → Int32} : ∀ {g : List (Nat × Nat × Int32)} {k : Nat}, gwf P k g → k ≤ 5001
  | [], k, h => by have h : k = 5001 := h; omega
  | d :: r, k, h => by obtain ⟨h1, h2, h3, -⟩ := h; omega
/-- what isn't of the chain may change -/
theorem gch_frame {P : Nat → Int32} {L L' : List Nat} {S S' : gS} : ∀ (g : List (Nat × Nat × Int32)) (k : Nat) (x : Option Nat), gwf P k g → (∀ b ∈ L, k ≤ (S b).1 → b ∈ L' ∧ S' b = S b) → gch L S x g → gch L' S' x g
  | [], _, _, _, _, h => h
  | d :: r, k, x, hw, hf, h => by
    obtain ⟨h1, h2, h3, h4, h5⟩ := hw
    obtain ⟨a, nx, e1, e2, e3, e4⟩ := h
    obtain ⟨f1, f2⟩ := hf a e2 (by rw [e3]; show k ≤ d.1; omega)
    exact ⟨a, nx, e1, f1, by rw [f2]; exact e3, gch_frame r (d.2.1 + 1) nx h5 (fun b hb hk => hf b hb (by omega)) e4⟩
/-- some numbers move: of those at 'from', in their order, 'stay' stay, the next 'cnt' go -/
def gmv (P : Nat → Int32) (fr to : Int32) (stay cnt : Nat) : Nat → Int32 := fun j => if P j = fr ∧ stay < gct P fr j ∧ gct P fr j ≤ stay + cnt then to else P j
theorem gmv_in {P : Nat → Int32} {fr to : Int32} {stay cnt j : Nat} (h : P j = fr) (h1 : stay < gct P fr j) (h2 : gct P fr j ≤ stay + cnt) : gmv P fr to stay cnt j = to := by unfold gmv; rw [if_pos ⟨h, h1, h2⟩]
theorem gmv_out {P : Nat → Int32} {fr to : Int32} {stay cnt j : Nat} (h : ¬ P j = fr ∨ gct P fr j ≤ stay ∨ stay + cnt < gct P fr j) : gmv P fr to stay cnt j = P j := by
  unfold gmv
  rw [if_neg (fun q => by rcases h with z | z | z; exact z q.1; omega; omega)]
