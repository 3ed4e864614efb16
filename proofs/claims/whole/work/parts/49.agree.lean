/-! class and reference answer alike: what both contracts say together -/
theorem b_ct {P : Nat → Int32} {n : Nat} {p : Int32} (h : gEv P n) (hp : ¬ p = -1) : gct P p 5000 = gct P p n := by
  have := gct_past (P := P) (p := p) (k := n + 1) (m := 5000) (by have := h.2.1; omega) (fun j a b => by rw [h.2.2.1 j (Or.inr (by omega))]; exact fun z => hp z.symm)
  rwa [Nat.add_sub_cancel] at this
theorem b_bg {P : Nat → Int32} {n : Nat} {p : Int32} (h : gEv P n) (hp : ¬ p = -1) : gbg P p 5000 = gbg P p n := by
  have := gbg_past (P := P) (p := p) (k := n + 1) (m := 5000) (by omega) (by have := h.2.1; omega) (fun j a b => by rw [h.2.2.1 j (Or.inr (by omega))]; exact fun z => hp z.symm)
  rwa [Nat.add_sub_cancel] at this
theorem b_lg {P : Nat → Int32} {n : Nat} (h : gEv P n) : (glg P 5000).1 = (glg P n).1 := by
  have := (glg_no (P := P) (k := n + 1) (m := 5000) (by omega) (by have := h.2.1; omega) (fun j a b => by rw [h.2.2.1 j (Or.inr (by omega))]; decide)).1
  rwa [Nat.add_sub_cancel] at this
theorem glow_n {q : Nat → Prop} {n v : Nat} (hn : n ≤ 5000) (h : ∀ j, n < j → j ≤ 5000 → ¬ q j) : glow q 5000 v ↔ glow q n v := by
  constructor
  · rintro (⟨h1, h2⟩ | ⟨h1, h2, h3, h4⟩)
    · exact Or.inl ⟨h1, fun j a b => h2 j a (by omega)⟩
    · refine Or.inr ⟨h1, ?_, h3, h4⟩
      rcases Nat.lt_or_ge n v with z | z
      · exact absurd h3 (h v z h2)
      · exact z
  · rintro (⟨h1, h2⟩ | ⟨h1, h2, h3, h4⟩)
    · refine Or.inl ⟨h1, fun j a b => ?_⟩
      rcases Nat.lt_or_ge n j with z | z
      · exact h j z b
      · exact h2 j a z
    · exact Or.inr ⟨h1, by omega, h3, h4⟩
theorem b_low {P : Nat → Int32} {n v : Nat} {p : Int32} (h : gEv P n) (hp : ¬ p = -1) : glow (fun j => P j = p) 5000 v ↔ glow (fun j => P j = p) n v :=
  glow_n h.2.1 (fun j a _ => by rw [h.2.2.1 j (Or.inr a)]; exact fun z => hp z.symm)
theorem b_left {P : Nat → Int32} {n v w : Nat} (h : gEv P n) (h1 : glow (fun j => ¬ P j = 9 ∧ ¬ P j = -1) 5000 v) (h2 : glow (fun j => ¬ P j = 9) n w) : v = w := by
  have h3 := (glow_n (v := v) h.2.1 (fun j a _ z => z.2 (h.2.2.1 j (Or.inr a)))).mp h1
  refine glow_one h3 ?_
  rcases h2 with ⟨a1, a2⟩ | ⟨a1, a2, a3, a4⟩
  · exact Or.inl ⟨a1, fun j x y z => a2 j x y z.1⟩
  · exact Or.inr ⟨a1, a2, ⟨a3, h.2.2.2 w a1 a2⟩, fun j x y z => a4 j x y z.1⟩
theorem gGob_ne {v : Int32} (h : gGob v) : ¬ v = -1 := by
  obtain ⟨j, hj, rfl⟩ := h
  exact fun z => g_neg j hj z.symm
theorem gEv_mv {P : Nat → Int32} {n a b : Nat} {fr to : Int32} (hf : ¬ fr = -1) (ht : ¬ to = -1) (h : gEv P n) : gEv (gmv P fr to a b) n := by
  refine ⟨h.1, h.2.1, fun j hj => ?_, fun j h1 h2 => ?_⟩
  · rw [gmv_out (Or.inl (by rw [h.2.2.1 j hj]; exact fun z => hf z.symm))]
    exact h.2.2.1 j hj
  · unfold gmv
    split
    · exact ht
    · exact h.2.2.2 j h1 h2
theorem gEv_up {P : Nat → Int32} {n v : Nat} {to : Int32} (ht : ¬ to = -1) (h1 : 1 ≤ v) (h2 : v ≤ n) (h : gEv P n) : gEv (va_up P v to) n := by
  refine ⟨h.1, h.2.1, fun j hj => ?_, fun j h3 h4 => ?_⟩
  · rw [va_up_ne _ _ (by omega)]
    exact h.2.2.1 j hj
  · by_cases z : j = v
    · rw [z, va_up_self]; exact ht
    · rw [va_up_ne _ _ z]; exact h.2.2.2 j h3 h4
theorem gEv_grow {P : Nat → Int32} {n vn : Nat} (h : gEv P n) (h1 : n < vn) (h2 : vn ≤ 5000) : gEv (gmv P (-1) 8 0 (vn - n)) vn := by
  rw [gmv_grow h h1]
  refine ⟨by have := h.1; omega, h2, fun j hj => ?_, fun j h3 h4 => ?_⟩
  · show (if n < j ∧ j ≤ vn then (8 : Int32) else P j) = -1
    rw [if_neg (by omega)]
    exact h.2.2.1 j (by omega)
  · show ¬ (if n < j ∧ j ≤ vn then (8 : Int32) else P j) = -1
    by_cases z : n < j ∧ j ≤ vn
    · rw [if_pos z]; decide
    · rw [if_neg z]; exact h.2.2.2 j h3 (by omega)
theorem gEv_out {P : Nat → Int32} {n : Nat} (h : gEv P n) : gOut P := fun j hj => h.2.2.1 j (by have := h.2.1; omega)
/-- beginnings and ends pair off -/
theorem gbg_gen {P : Nat → Int32} (h0 : ¬ P 0 = 8) : ∀ m : Nat, gbg P 8 m = gen P 8 m + if P m = 8 ∧ P (m + 1) = 8 then 1 else 0
  | 0 => by rw [if_neg (fun z => h0 z.1)]; rfl
  | m + 1 => by
    have ih := gbg_gen h0 m
    by_cases a : P m = 8 <;> by_cases b : P (m + 1) = 8 <;> by_cases c : P (m + 2) = 8 <;> simp [gbg, gen, a, b, c] at ih ⊢ <;> omega
/-- where a run that ends at q begins -/
theorem g_run {P : Nat → Int32} (h0 : ¬ P 0 = 8) : ∀ q : Nat, P q = 8 → ∃ j, 1 ≤ j ∧ j ≤ q ∧ ¬ P (j - 1) = 8 ∧ ∀ i, j ≤ i → i ≤ q → P i = 8
  | 0, h => absurd h h0
  | q + 1, h => by
    by_cases z : P q = 8
    · obtain ⟨j, h1, h2, h3, h4⟩ := g_run h0 q z
      refine ⟨j, h1, by omega, h3, fun i a b => ?_⟩
      by_cases y : i = q + 1
      · rw [y]; exact h
      · exact h4 i a (by omega)
    · exact ⟨q + 1, by omega, Nat.le_refl _, z, fun i a b => by rw [show i = q + 1 by omega]; exact h⟩
theorem g_begin {P : Nat → Int32} (h0 : ¬ P 0 = 8) {q : Nat} (hq : P q = 8) : ∃ j, 1 ≤ j ∧ j ≤ q ∧ P j = 8 ∧ ¬ P (j - 1) = 8 ∧ gbg P 8 (j - 1) = gen P 8 (q - 1) := by
  obtain ⟨j, h1, h2, h3, h4⟩ := g_run h0 q hq
  refine ⟨j, h1, h2, h4 j (Nat.le_refl _) h2, h3, ?_⟩
  have h5 := gbg_gen h0 (j - 1)
  rw [if_neg (fun z => h3 z.1)] at h5
  have h6 := gen_same (P := P) (p := 8) (m := j - 1) (q - j) (fun i a b z => z.2 (h4 (i + 1) (by omega) (by omega)))
  rw [show j - 1 + (q - j) = q - 1 by omega] at h6
  omega
theorem gbg_inj {P : Nat → Int32} {v w : Nat} (hv : 1 ≤ v) (hw : 1 ≤ w) (h1 : P v = 8 ∧ ¬ P (v - 1) = 8) (h2 : P w = 8 ∧ ¬ P (w - 1) = 8) (h : gbg P 8 (v - 1) = gbg P 8 (w - 1)) : v = w := by
  have key : ∀ a b : Nat, 1 ≤ a → (P a = 8 ∧ ¬ P (a - 1) = 8) → a < b → gbg P 8 (a - 1) < gbg P 8 (b - 1) := by
    intro a b ha hp hab
    have e1 := gbg_yes (P := P) (p := 8) (n := a - 1) (by rw [show a - 1 + 1 = a by omega]; exact hp)
    rw [show a - 1 + 1 = a by omega] at e1
    have e2 := gbg_mono P 8 (m := a) (b - 1 - a)
    rw [show a + (b - 1 - a) = b - 1 by omega] at e2
    omega
  rcases Nat.lt_trichotomy v w with z | z | z
  · have := key v w hv h1 z; omega
  · exact z
  · have := key w v hw h2 z; omega
theorem gen_inj {P : Nat → Int32} {v w : Nat} (hv : 1 ≤ v) (hw : 1 ≤ w) (h1 : P v = 8 ∧ ¬ P (v + 1) = 8) (h2 : P w = 8 ∧ ¬ P (w + 1) = 8) (h : gen P 8 (v - 1) = gen P 8 (w - 1)) : v = w := by
  have key : ∀ a b : Nat, 1 ≤ a → (P a = 8 ∧ ¬ P (a + 1) = 8) → a < b → gen P 8 (a - 1) < gen P 8 (b - 1) := by
    intro a b ha hp hab
    have e1 := gen_yes (P := P) (p := 8) (n := a - 1) (by rw [show a - 1 + 1 = a by omega, show a - 1 + 2 = a + 1 by omega]; exact hp)
    rw [show a - 1 + 1 = a by omega] at e1
    have e2 := gen_mono P 8 (m := a) (b - 1 - a)
    rw [show a + (b - 1 - a) = b - 1 by omega] at e2
    omega
  rcases Nat.lt_trichotomy v w with z | z | z
  · have := key v w hv h1 z; omega
  · exact z
  · have := key w v hw h2 z; omega
theorem b_in {P : Nat → Int32} {n v : Nat} (h : gEv P n) (hv : P v = 8) : v ≤ n := by
  rcases Nat.lt_or_ge n v with z | z
  · rw [h.2.2.1 v (Or.inr z)] at hv; exact absurd hv (by decide)
  · exact z
/-- both have answered alike, and both tell one evening -/
def gAgr (lo : Nat) (kC bM th : Int32) (f2 : Nat → Int64) (uC : List Nat × gS) (svC rvC svM rvM : Int32) (rowM : Nat → Int32) : Prop :=
  th = kC ∧ (kC = 0 → f2 0 = bM.toInt64) ∧ ∃ (P2 : Nat → Int32) (n2 : Nat), gCh P2 lo uC ∧ gEv P2 n2 ∧ gRow P2 n2 rowM ∧ svC = nI n2 ∧ svM = nI n2 ∧ rvC = rvM
theorem g_f0 (f : Nat → Int64) (x : Int64) : vp_updL f 0 x 0 = x := pk_uLs
set_option maxHeartbeats 4000000 in
set_option maxRecDepth 100000 in
theorem a_enlarge {P : Nat → Int32} {n lo : Nat} {rv : Int32} {f : Nat → Int64} {row : Nat → Int32} (hev : gEv P n) (hrow : gRow P n row) {v0 : Int32} {kC bM : Int32} {uC : (List Nat × gS) × (Nat → Int64) × Int32 × Int32} {uM : Int32 × Int32 × (Nat → Int32)} (hw : (kC = 0 ∧ ∃ rv9 : Int32, uC.2.1 = vp_updL f 0 rv9.toInt64 ∧ uC.2.2 = (v0, rv) ∧ (∃ vn : Nat, n < vn ∧ vn ≤ 5000 ∧ v0 = nI vn ∧ rv9 = nI (gct (gmv P (-1) 8 0 (vn - n)) 8 5000) ∧ gCh (gmv P (-1) 8 0 (vn - n)) lo uC.1)) ∨ (kC = 1 ∧ uC.2.1 = f ∧ uC.2.2 = ((nI n), rv) ∧ (¬ ∃ vn : Nat, n < vn ∧ vn ≤ 5000 ∧ v0 = nI vn) ∧ gCh P lo uC.1)) (hm : (uM.1 = 0 ∧ ∃ vn : Nat, n < vn ∧ vn ≤ 5000 ∧ v0 = nI vn ∧ uM.2.1 = nI vn ∧ bM = nI (gct (gmv P (-1) 8 0 (vn - n)) 8 vn) ∧ gRow (gmv P (-1) 8 0 (vn - n)) vn uM.2.2) ∨ (uM.1 = 1 ∧ (¬ ∃ vn : Nat, n < vn ∧ vn ≤ 5000 ∧ v0 = nI vn) ∧ uM.2.1 = nI n ∧ uM.2.2 = row)) : gAgr lo kC bM uM.1 uC.2.1 uC.1 uC.2.2.1 uC.2.2.2 (uM.2.1) (rv) (uM.2.2) := by
  have hn := hev.2.1
  rcases hw with ⟨hk, rv9, hf, hs2, vn, w1, w2, w3, w4, w5⟩ | ⟨hk, hf, hs2, hc, hC9⟩
  · rcases hm with ⟨ht, vm, m1, m2, m3, m4, m5, m6⟩ | ⟨ht, m1, -⟩
    · obtain rfl : vn = vm := (nI_eq (by omega) (by omega)).mp (w3.symm.trans m3)
      have hev2 := gEv_grow hev w1 w2
      refine ⟨by rw [ht, hk], fun _ => ?_, _, vn, w5, hev2, m6, by rw [hs2]; exact w3, m4, by rw [hs2]⟩
      rw [hf, g_f0, w4, m5, b_ct hev2 (by decide)]
    · exact absurd ⟨vn, w1, w2, w3⟩ m1
  · rcases hm with ⟨ht, m1⟩ | ⟨ht, -, m2, m3⟩
    · exact absurd (by obtain ⟨vm, q1, q2, q3, -⟩ := m1; exact ⟨vm, q1, q2, q3⟩) hc
    · exact ⟨by rw [ht, hk], fun z => absurd (hk.symm.trans z) (by decide), P, n, hC9, hev, by rw [m3]; exact hrow, by rw [hs2], m2, by rw [hs2]⟩
set_option maxHeartbeats 4000000 in
set_option maxRecDepth 100000 in
theorem a_pour {P : Nat → Int32} {n lo : Nat} {rv : Int32} {f : Nat → Int64} {row : Nat → Int32} (hev : gEv P n) (hrow : gRow P n row) {v0 v1 : Int32} {kC bM : Int32} {uC : (List Nat × gS) × (Nat → Int64) × Int32 × Int32} {uM : Int32 × (Nat → Int32)} (hw : (kC = 0 ∧ ∃ rv9 : Int32, uC.2.1 = vp_updL f 0 rv9.toInt64 ∧ uC.2.2 = ((nI n), rv) ∧ (gGob v0 ∧ ∃ cn : Nat, 1 ≤ cn ∧ cn ≤ 200 ∧ v1 = nI cn ∧ ¬ glow (fun j => P j = 8) 5000 0 ∧ rv9 = nI (min cn (gct P 8 5000)) ∧ gCh (gmv P 8 v0 0 cn) lo uC.1)) ∨ (kC = 1 ∧ uC.2.1 = f ∧ uC.2.2 = ((nI n), rv) ∧ (¬ gGob v0) ∧ gCh P lo uC.1) ∨ (kC = 2 ∧ uC.2.1 = f ∧ uC.2.2 = ((nI n), rv) ∧ (gGob v0 ∧ ¬ gCnt v1) ∧ gCh P lo uC.1) ∨ (kC = 3 ∧ uC.2.1 = f ∧ uC.2.2 = ((nI n), rv) ∧ (gGob v0 ∧ gCnt v1 ∧ glow (fun j => P j = 8) 5000 0) ∧ gCh P lo uC.1)) (hm : (uM.1 = 0 ∧ gGob v0 ∧ ∃ cn : Nat, 1 ≤ cn ∧ cn ≤ 200 ∧ v1 = nI cn ∧ ¬ glow (fun q => P q = 8) n 0 ∧ bM = nI (min cn (gct P 8 n)) ∧ gRow (gmv P 8 v0 0 cn) n uM.2) ∨ (uM.1 = 1 ∧ ¬ gGob v0 ∧ uM.2 = row) ∨ (uM.1 = 2 ∧ gGob v0 ∧ ¬ gCnt v1 ∧ uM.2 = row) ∨ (uM.1 = 3 ∧ gGob v0 ∧ gCnt v1 ∧ glow (fun q => P q = 8) n 0 ∧ uM.2 = row)) : gAgr lo kC bM uM.1 uC.2.1 uC.1 uC.2.2.1 uC.2.2.2 (nI n) (rv) (uM.2) := by
  have hn := hev.2.1
  have hz : glow (fun j => P j = 8) 5000 0 ↔ glow (fun j => P j = 8) n 0 := b_low hev (by decide)
  rcases hw with ⟨hk, rv9, hf, hs2, w1, cn, w2, w3, w4, w5, w6, w7⟩ | ⟨hk, hf, hs2, hc, hC9⟩ | ⟨hk, hf, hs2, hc, hC9⟩ | ⟨hk, hf, hs2, hc, hC9⟩
  · rcases hm with ⟨ht, m1, cm, m2, m3, m4, m5, m6, m7⟩ | ⟨ht, m1, -⟩ | ⟨ht, m1, m2, -⟩ | ⟨ht, m1, m2, m3, -⟩
    · obtain rfl : cn = cm := (nI_eq (by omega) (by omega)).mp (w4.symm.trans m4)
      refine ⟨by rw [ht, hk], fun _ => ?_, _, n, w7, gEv_mv (by decide) (gGob_ne w1) hev, m7, by rw [hs2], rfl, by rw [hs2]⟩
      rw [hf, g_f0, w6, m6, b_ct hev (by decide)]
    · exact absurd w1 m1
    · exact absurd ⟨cn, w2, w3, w4⟩ m2
    · exact absurd (hz.mpr m3) w5
  · rcases hm with ⟨ht, m1, -⟩ | ⟨ht, m1, mr⟩ | ⟨ht, m1, -⟩ | ⟨ht, m1, -⟩
    · exact absurd m1 hc
    · exact ⟨by rw [ht, hk], fun z => absurd (hk.symm.trans z) (by decide), P, n, hC9, hev, by rw [mr]; exact hrow, by rw [hs2], rfl, by rw [hs2]⟩
    · exact absurd m1 hc
    · exact absurd m1 hc
  · rcases hm with ⟨ht, m1, cm, m2, m3, m4, -⟩ | ⟨ht, m1, -⟩ | ⟨ht, m1, m2, mr⟩ | ⟨ht, m1, m2, -⟩
    · exact absurd ⟨cm, m2, m3, m4⟩ hc.2
    · exact absurd hc.1 m1
    · exact ⟨by rw [ht, hk], fun z => absurd (hk.symm.trans z) (by decide), P, n, hC9, hev, by rw [mr]; exact hrow, by rw [hs2], rfl, by rw [hs2]⟩
    · exact absurd m2 hc.2
  · rcases hm with ⟨ht, m1, cm, m2, m3, m4, m5, -⟩ | ⟨ht, m1, -⟩ | ⟨ht, m1, m2, -⟩ | ⟨ht, m1, m2, m3, mr⟩
    · exact absurd (hz.mp hc.2.2) m5
    · exact absurd hc.1 m1
    · exact absurd hc.2.1 m2
    · exact ⟨by rw [ht, hk], fun z => absurd (hk.symm.trans z) (by decide), P, n, hC9, hev, by rw [mr]; exact hrow, by rw [hs2], rfl, by rw [hs2]⟩
set_option maxHeartbeats 4000000 in
set_option maxRecDepth 100000 in
theorem a_drink {P : Nat → Int32} {n lo : Nat} {rv : Int32} {f : Nat → Int64} {row : Nat → Int32} (hev : gEv P n) (hrow : gRow P n row) {v0 : Int32} {kC bM : Int32} {uC : (List Nat × gS) × (Nat → Int64) × Int32 × Int32} {uM : Int32 × (Nat → Int32)} (hw : (kC = 0 ∧ ∃ rv9 : Int32, uC.2.1 = vp_updL f 0 rv9.toInt64 ∧ uC.2.2 = ((nI n), rv) ∧ (gGob v0 ∧ ∃ v : Nat, 1 ≤ v ∧ v ≤ 5000 ∧ rv9 = nI v ∧ (glow (fun j => P j = v0) 5000 v ∨ (glow (fun j => P j = v0) 5000 0 ∧ glow (fun j => P j = 8) 5000 v)) ∧ gCh (va_up P v 9) lo uC.1)) ∨ (kC = 1 ∧ uC.2.1 = f ∧ uC.2.2 = ((nI n), rv) ∧ (¬ gGob v0) ∧ gCh P lo uC.1) ∨ (kC = 2 ∧ uC.2.1 = f ∧ uC.2.2 = ((nI n), rv) ∧ (gGob v0 ∧ glow (fun j => P j = v0) 5000 0 ∧ glow (fun j => P j = 8) 5000 0) ∧ gCh P lo uC.1)) (hm : (uM.1 = 0 ∧ gGob v0 ∧ ∃ v : Nat, 1 ≤ v ∧ v ≤ n ∧ bM = nI v ∧ (glow (fun q => P q = v0) n v ∨ (glow (fun q => P q = v0) n 0 ∧ glow (fun q => P q = 8) n v)) ∧ gRow (va_up P v 9) n uM.2) ∨ (uM.1 = 1 ∧ ¬ gGob v0 ∧ uM.2 = row) ∨ (uM.1 = 2 ∧ gGob v0 ∧ glow (fun q => P q = v0) n 0 ∧ glow (fun q => P q = 8) n 0 ∧ uM.2 = row)) : gAgr lo kC bM uM.1 uC.2.1 uC.1 uC.2.2.1 uC.2.2.2 (nI n) (rv) (uM.2) := by
  have hn := hev.2.1
  rcases hw with ⟨hk, rv9, hf, hs2, w1, v, w2, w3, w4, w5, w6⟩ | ⟨hk, hf, hs2, hc, hC9⟩ | ⟨hk, hf, hs2, hc, hC9⟩
  · have hg := fun v9 => b_low (P := P) (n := n) (v := v9) (p := v0) hev (gGob_ne w1)
    have h8 := fun v9 => b_low (P := P) (n := n) (v := v9) (p := 8) hev (by decide)
    rcases hm with ⟨ht, m1, v2, m2, m3, m4, m5, m6⟩ | ⟨ht, m1, -⟩ | ⟨ht, m1, m2, m3, -⟩
    · obtain rfl : v = v2 := by
        rcases w5 with a | ⟨a, a2⟩ <;> rcases m5 with b | ⟨b, b2⟩
        · exact glow_one ((hg _).mp a) b
        · have := glow_one ((hg _).mp a) b; omega
        · have := glow_one ((hg _).mp a) b; omega
        · exact glow_one ((h8 _).mp a2) b2
      refine ⟨by rw [ht, hk], fun _ => ?_, _, n, w6, gEv_up (by decide) w2 m3 hev, m6, by rw [hs2], rfl, by rw [hs2]⟩
      rw [hf, g_f0, w4, m4]
    · exact absurd w1 m1
    · exfalso
      rcases w5 with a | ⟨a, a2⟩
      · have := glow_one ((hg _).mp a) m2; omega
      · have := glow_one ((h8 _).mp a2) m3; omega
  · rcases hm with ⟨ht, m1, -⟩ | ⟨ht, m1, mr⟩ | ⟨ht, m1, -⟩
    · exact absurd m1 hc
    · exact ⟨by rw [ht, hk], fun z => absurd (hk.symm.trans z) (by decide), P, n, hC9, hev, by rw [mr]; exact hrow, by rw [hs2], rfl, by rw [hs2]⟩
    · exact absurd m1 hc
  · have hg := fun v9 => b_low (P := P) (n := n) (v := v9) (p := v0) hev (gGob_ne hc.1)
    have h8 := fun v9 => b_low (P := P) (n := n) (v := v9) (p := 8) hev (by decide)
    rcases hm with ⟨ht, m1, v2, m2, m3, m4, m5, -⟩ | ⟨ht, m1, -⟩ | ⟨ht, m1, m2, m3, mr⟩
    · exfalso
      rcases m5 with b | ⟨b, b2⟩
      · have := glow_one ((hg _).mp hc.2.1) b; omega
      · have := glow_one ((h8 _).mp hc.2.2) b2; omega
    · exact absurd hc.1 m1
    · exact ⟨by rw [ht, hk], fun z => absurd (hk.symm.trans z) (by decide), P, n, hC9, hev, by rw [mr]; exact hrow, by rw [hs2], rfl, by rw [hs2]⟩
set_option maxHeartbeats 4000000 in
set_option maxRecDepth 100000 in
theorem a_pourBack {P : Nat → Int32} {n lo : Nat} {rv : Int32} {f : Nat → Int64} {row : Nat → Int32} (hev : gEv P n) (hrow : gRow P n row) {v0 : Int32} {kC bM : Int32} {uC : (List Nat × gS) × (Nat → Int64) × Int32 × Int32} {uM : Int32 × (Nat → Int32)} (hw : (kC = 0 ∧ ∃ rv9 : Int32, uC.2.1 = vp_updL f 0 rv9.toInt64 ∧ uC.2.2 = ((nI n), rv) ∧ (gGob v0 ∧ rv9 = nI (gct P v0 5000)) ∧ gCh (gmv P v0 8 0 5000) lo uC.1) ∨ (kC = 1 ∧ uC.2.1 = f ∧ uC.2.2 = ((nI n), rv) ∧ (¬ gGob v0) ∧ gCh P lo uC.1)) (hm : (uM.1 = 0 ∧ gGob v0 ∧ bM = nI (gct P v0 n) ∧ gRow (gmv P v0 8 0 5000) n uM.2) ∨ (uM.1 = 1 ∧ ¬ gGob v0 ∧ uM.2 = row)) : gAgr lo kC bM uM.1 uC.2.1 uC.1 uC.2.2.1 uC.2.2.2 (nI n) (rv) (uM.2) := by
  have hn := hev.2.1
  rcases hw with ⟨hk, rv9, hf, hs2, ⟨w1, w2⟩, w3⟩ | ⟨hk, hf, hs2, hc, hC9⟩
  · rcases hm with ⟨ht, m1, m2, m3⟩ | ⟨ht, m1, -⟩
    · refine ⟨by rw [ht, hk], fun _ => ?_, _, n, w3, gEv_mv (gGob_ne w1) (by decide) hev, m3, by rw [hs2], rfl, by rw [hs2]⟩
      rw [hf, g_f0, w2, m2, b_ct hev (gGob_ne w1)]
    · exact absurd w1 m1
  · rcases hm with ⟨ht, m1, -⟩ | ⟨ht, m1, mr⟩
    · exact absurd m1 hc
    · exact ⟨by rw [ht, hk], fun z => absurd (hk.symm.trans z) (by decide), P, n, hC9, hev, by rw [mr]; exact hrow, by rw [hs2], rfl, by rw [hs2]⟩
set_option maxHeartbeats 4000000 in
set_option maxRecDepth 100000 in
theorem a_spill {P : Nat → Int32} {n lo : Nat} {rv : Int32} {f : Nat → Int64} {row : Nat → Int32} (hev : gEv P n) (hrow : gRow P n row) {v0 : Int32} {kC bM : Int32} {uC : (List Nat × gS) × (Nat → Int64) × Int32 × Int32} {uM : Int32 × (Nat → Int32)} (hw : (kC = 0 ∧ ∃ rv9 : Int32, uC.2.1 = vp_updL f 0 rv9.toInt64 ∧ uC.2.2 = ((nI n), rv) ∧ (gGob v0 ∧ rv9 = nI (gct P v0 5000)) ∧ gCh (gmv P v0 10 0 5000) lo uC.1) ∨ (kC = 1 ∧ uC.2.1 = f ∧ uC.2.2 = ((nI n), rv) ∧ (¬ gGob v0) ∧ gCh P lo uC.1)) (hm : (uM.1 = 0 ∧ gGob v0 ∧ bM = nI (gct P v0 n) ∧ gRow (gmv P v0 10 0 5000) n uM.2) ∨ (uM.1 = 1 ∧ ¬ gGob v0 ∧ uM.2 = row)) : gAgr lo kC bM uM.1 uC.2.1 uC.1 uC.2.2.1 uC.2.2.2 (nI n) (rv) (uM.2) := by
  have hn := hev.2.1
  rcases hw with ⟨hk, rv9, hf, hs2, ⟨w1, w2⟩, w3⟩ | ⟨hk, hf, hs2, hc, hC9⟩
  · rcases hm with ⟨ht, m1, m2, m3⟩ | ⟨ht, m1, -⟩
    · refine ⟨by rw [ht, hk], fun _ => ?_, _, n, w3, gEv_mv (gGob_ne w1) (by decide) hev, m3, by rw [hs2], rfl, by rw [hs2]⟩
      rw [hf, g_f0, w2, m2, b_ct hev (gGob_ne w1)]
    · exact absurd w1 m1
  · rcases hm with ⟨ht, m1, -⟩ | ⟨ht, m1, mr⟩
    · exact absurd m1 hc
    · exact ⟨by rw [ht, hk], fun z => absurd (hk.symm.trans z) (by decide), P, n, hC9, hev, by rw [mr]; exact hrow, by rw [hs2], rfl, by rw [hs2]⟩
set_option maxHeartbeats 4000000 in
set_option maxRecDepth 100000 in
theorem a_share {P : Nat → Int32} {n lo : Nat} {rv : Int32} {f : Nat → Int64} {row : Nat → Int32} (hev : gEv P n) (hrow : gRow P n row) {v0 v1 v2 : Int32} {kC bM : Int32} {uC : (List Nat × gS) × (Nat → Int64) × Int32 × Int32} {uM : Int32 × (Nat → Int32)} (hw : (kC = 0 ∧ ∃ rv9 : Int32, uC.2.1 = vp_updL f 0 rv9.toInt64 ∧ uC.2.2 = ((nI n), rv) ∧ (gGob v0 ∧ gGob v1 ∧ ¬ v0 = v1 ∧ ∃ cn : Nat, 1 ≤ cn ∧ cn ≤ 200 ∧ v2 = nI cn ∧ rv9 = nI (min cn (gct P v0 5000)) ∧ gCh (gmv P v0 v1 (gct P v0 5000 - cn) cn) lo uC.1)) ∨ (kC = 1 ∧ uC.2.1 = f ∧ uC.2.2 = ((nI n), rv) ∧ (¬ (gGob v0 ∧ gGob v1)) ∧ gCh P lo uC.1) ∨ (kC = 2 ∧ uC.2.1 = f ∧ uC.2.2 = ((nI n), rv) ∧ (gGob v0 ∧ gGob v1 ∧ (v0 = v1 ∨ ¬ gCnt v2)) ∧ gCh P lo uC.1)) (hm : (uM.1 = 0 ∧ gGob v0 ∧ gGob v1 ∧ ¬ v0 = v1 ∧ ∃ cn : Nat, 1 ≤ cn ∧ cn ≤ 200 ∧ v2 = nI cn ∧ bM = nI (min cn (gct P v0 n)) ∧ gRow (gmv P v0 v1 (gct P v0 n - cn) cn) n uM.2) ∨ (uM.1 = 1 ∧ ¬ (gGob v0 ∧ gGob v1) ∧ uM.2 = row) ∨ (uM.1 = 2 ∧ gGob v0 ∧ gGob v1 ∧ (v0 = v1 ∨ ¬ gCnt v2) ∧ uM.2 = row)) : gAgr lo kC bM uM.1 uC.2.1 uC.1 uC.2.2.1 uC.2.2.2 (nI n) (rv) (uM.2) := by
  have hn := hev.2.1
  rcases hw with ⟨hk, rv9, hf, hs2, w1, w2, w3, cn, w4, w5, w6, w7, w8⟩ | ⟨hk, hf, hs2, hc, hC9⟩ | ⟨hk, hf, hs2, hc, hC9⟩
  · rcases hm with ⟨ht, m1, m2, m3, cm, m4, m5, m6, m7, m8⟩ | ⟨ht, m1, -⟩ | ⟨ht, m1, m2, m3, -⟩
    · obtain rfl : cn = cm := (nI_eq (by omega) (by omega)).mp (w6.symm.trans m6)
      rw [b_ct hev (gGob_ne w1)] at w7 w8
      refine ⟨by rw [ht, hk], fun _ => ?_, _, n, w8, gEv_mv (gGob_ne w1) (gGob_ne w2) hev, m8, by rw [hs2], rfl, by rw [hs2]⟩
      rw [hf, g_f0, w7, m7]
    · exact absurd ⟨w1, w2⟩ m1
    · exfalso
      rcases m3 with z | z
      · exact w3 z
      · exact z ⟨cn, w4, w5, w6⟩
  · rcases hm with ⟨ht, m1, m2, -⟩ | ⟨ht, m1, mr⟩ | ⟨ht, m1, m2, -⟩
    · exact absurd ⟨m1, m2⟩ hc
    · exact ⟨by rw [ht, hk], fun z => absurd (hk.symm.trans z) (by decide), P, n, hC9, hev, by rw [mr]; exact hrow, by rw [hs2], rfl, by rw [hs2]⟩
    · exact absurd ⟨m1, m2⟩ hc
  · rcases hm with ⟨ht, m1, m2, m3, cm, m4, m5, m6, -⟩ | ⟨ht, m1, -⟩ | ⟨ht, m1, m2, m3, mr⟩
    · exfalso
      rcases hc.2.2 with z | z
      · exact m3 z
      · exact z ⟨cm, m4, m5, m6⟩
    · exact absurd ⟨hc.1, hc.2.1⟩ m1
    · exact ⟨by rw [ht, hk], fun z => absurd (hk.symm.trans z) (by decide), P, n, hC9, hev, by rw [mr]; exact hrow, by rw [hs2], rfl, by rw [hs2]⟩
set_option maxHeartbeats 4000000 in
set_option maxRecDepth 100000 in
theorem a_giveBack {P : Nat → Int32} {n lo : Nat} {rv : Int32} {f : Nat → Int64} {row : Nat → Int32} (hev : gEv P n) (hrow : gRow P n row) {v0 : Int32} {kC bM : Int32} {uC : (List Nat × gS) × (Nat → Int64) × Int32 × Int32} {uM : Int32 × (Nat → Int32)} (hw : (kC = 0 ∧ ∃ rv9 : Int32, uC.2.1 = vp_updL f 0 rv9.toInt64 ∧ uC.2.2 = ((nI n), rv) ∧ (∃ j : Nat, 1 ≤ j ∧ j ≤ 5000 ∧ v0 = nI j ∧ P j = 9 ∧ rv9 = nI (gct (va_up P j 8) 8 5000) ∧ gCh (va_up P j 8) lo uC.1)) ∨ (kC = 1 ∧ uC.2.1 = f ∧ uC.2.2 = ((nI n), rv) ∧ (∀ j : Nat, 1 ≤ j → j ≤ 5000 → v0 = nI j → ¬ P j = 9) ∧ gCh P lo uC.1)) (hm : (uM.1 = 0 ∧ ∃ q : Nat, 1 ≤ q ∧ q ≤ n ∧ v0 = nI q ∧ P q = 9 ∧ bM = nI (gct (va_up P q 8) 8 n) ∧ gRow (va_up P q 8) n uM.2) ∨ (uM.1 = 1 ∧ (∀ q : Nat, 1 ≤ q → q ≤ n → v0 = nI q → ¬ P q = 9) ∧ uM.2 = row)) : gAgr lo kC bM uM.1 uC.2.1 uC.1 uC.2.2.1 uC.2.2.2 (nI n) (rv) (uM.2) := by
  have hn := hev.2.1
  rcases hw with ⟨hk, rv9, hf, hs2, j, w1, w2, w3, w4, w5, w6⟩ | ⟨hk, hf, hs2, hc, hC9⟩
  · rcases hm with ⟨ht, q, m1, m2, m3, m4, m5, m6⟩ | ⟨ht, m1, -⟩
    · obtain rfl : j = q := (nI_eq (by omega) (by omega)).mp (w3.symm.trans m3)
      have hev2 := gEv_up (to := 8) (by decide) m1 m2 hev
      refine ⟨by rw [ht, hk], fun _ => ?_, _, n, w6, hev2, m6, by rw [hs2], rfl, by rw [hs2]⟩
      rw [hf, g_f0, w5, m5, b_ct hev2 (by decide)]
    · have hjn : j ≤ n := by
        rcases Nat.lt_or_ge n j with z | z
        · rw [hev.2.2.1 j (Or.inr z)] at w4; exact absurd w4 (by decide)
        · exact z
      exact absurd w4 (m1 j w1 hjn w3)
  · rcases hm with ⟨ht, q, m1, m2, m3, m4, -⟩ | ⟨ht, m1, mr⟩
    · exact absurd m4 (hc q m1 (by omega) m3)
    · exact ⟨by rw [ht, hk], fun z => absurd (hk.symm.trans z) (by decide), P, n, hC9, hev, by rw [mr]; exact hrow, by rw [hs2], rfl, by rw [hs2]⟩
set_option maxHeartbeats 4000000 in
set_option maxRecDepth 100000 in
theorem a_nextRound {P : Nat → Int32} {n lo : Nat} {rv : Int32} {f : Nat → Int64} {row : Nat → Int32} (hev : gEv P n) (hrow : gRow P n row)  {kC bM : Int32} {uC : (List Nat × gS) × (Nat → Int64) × Int32 × Int32} {uM : Int32 × Int32 × (Nat → Int32)} (hw : (kC = 0 ∧ ∃ rv9 : Int32, uC.2.1 = vp_updL f 0 rv9.toInt64 ∧ uC.2.2 = ((nI n), rv + 1) ∧ (gct P 9 5000 + gct P 10 5000 = n ∧ rv9 = rv + 1 ∧ gCh (gmv (gmv P 9 8 0 5000) 10 8 0 5000) lo uC.1)) ∨ (kC = 1 ∧ uC.2.1 = f ∧ uC.2.2 = ((nI n), rv) ∧ (¬ gct P 9 5000 + gct P 10 5000 = n) ∧ gCh P lo uC.1)) (hm : (uM.1 = 0 ∧ gct P 9 n + gct P 10 n = n ∧ bM = rv + 1 ∧ uM.2.1 = rv + 1 ∧ gRow (gmv (gmv P 9 8 0 5000) 10 8 0 5000) n uM.2.2) ∨ (uM.1 = 1 ∧ ¬ gct P 9 n + gct P 10 n = n ∧ uM.2.1 = rv ∧ uM.2.2 = row)) : gAgr lo kC bM uM.1 uC.2.1 uC.1 uC.2.2.1 uC.2.2.2 (nI n) (uM.2.1) (uM.2.2) := by
  have hn := hev.2.1
  rw [b_ct hev (by decide), b_ct hev (by decide)] at hw
  rcases hw with ⟨hk, rv9, hf, hs2, w1, w2, w3⟩ | ⟨hk, hf, hs2, hc, hC9⟩
  · rcases hm with ⟨ht, m1, m2, m3, m4⟩ | ⟨ht, m1, -⟩
    · refine ⟨by rw [ht, hk], fun _ => ?_, _, n, w3, gEv_mv (by decide) (by decide) (gEv_mv (by decide) (by decide) hev), m4, by rw [hs2], rfl, by rw [hs2]; exact m3.symm⟩
      rw [hf, g_f0, w2, m2]
    · exact absurd w1 m1
  · rcases hm with ⟨ht, m1, -⟩ | ⟨ht, m1, m2, m3⟩
    · exact absurd m1 hc
    · exact ⟨by rw [ht, hk], fun z => absurd (hk.symm.trans z) (by decide), P, n, hC9, hev, by rw [m3]; exact hrow, by rw [hs2], rfl, by rw [hs2]; exact m2.symm⟩
set_option maxHeartbeats 4000000 in
set_option maxRecDepth 100000 in
theorem a_rangeFrom {P : Nat → Int32} {n lo : Nat} {rv : Int32} {f : Nat → Int64} {row : Nat → Int32} (hev : gEv P n) (hrow : gRow P n row) {v0 : Int32} {kC bM : Int32} {uC : (List Nat × gS) × (Nat → Int64) × Int32 × Int32} {uM : Int32} (hw : (kC = 0 ∧ ∃ rv9 : Int32, uC.2.1 = vp_updL f 0 rv9.toInt64 ∧ uC.2.2 = ((nI n), rv) ∧ (∃ v : Nat, 1 ≤ v ∧ v ≤ 5000 ∧ rv9 = nI v ∧ P v = 8 ∧ ¬ P (v - 1) = 8 ∧ v0 = nI (gbg P 8 (v - 1))) ∧ gCh P lo uC.1) ∨ (kC = 1 ∧ uC.2.1 = f ∧ uC.2.2 = ((nI n), rv) ∧ (∀ j, 1 ≤ j → j ≤ 5000 → P j = 8 → ¬ P (j - 1) = 8 → ¬ v0 = nI (gbg P 8 (j - 1))) ∧ gCh P lo uC.1)) (hm : (uM = 0 ∧ ∃ q : Nat, 1 ≤ q ∧ q ≤ n ∧ bM = nI q ∧ P q = 8 ∧ ¬ P (q - 1) = 8 ∧ v0 = nI (gbg P 8 (q - 1))) ∨ (uM = 1 ∧ ∀ q : Nat, 1 ≤ q → q ≤ n → P q = 8 → ¬ P (q - 1) = 8 → ¬ v0 = nI (gbg P 8 (q - 1)))) : gAgr lo kC bM uM uC.2.1 uC.1 uC.2.2.1 uC.2.2.2 (nI n) (rv) (row) := by
  have hn := hev.2.1
  rcases hw with ⟨hk, rv9, hf, hs2, ⟨v, w1, w2, w3, w4, w5, w6⟩, w7⟩ | ⟨hk, hf, hs2, hc, hC9⟩
  · have hvn := b_in hev w4
    have hle := gbg_le P 8 (v - 1)
    rcases hm with ⟨ht, q, m1, m2, m3, m4, m5, m6⟩ | ⟨ht, m1⟩
    · have hle2 := gbg_le P 8 (q - 1)
      have e1 : gbg P 8 (v - 1) = gbg P 8 (q - 1) := (nI_eq (by omega) (by omega)).mp (w6.symm.trans m6)
      obtain rfl : v = q := gbg_inj w1 m1 ⟨w4, w5⟩ ⟨m4, m5⟩ e1
      refine ⟨by rw [ht, hk], fun _ => ?_, P, n, w7, hev, hrow, by rw [hs2], rfl, by rw [hs2]⟩
      rw [hf, g_f0, w3, m3]
    · exact absurd w6 (m1 v w1 hvn w4 w5)
  · rcases hm with ⟨ht, q, m1, m2, m3, m4, m5, m6⟩ | ⟨ht, m1⟩
    · exact absurd m6 (hc q m1 (by omega) m4 m5)
    · exact ⟨by rw [ht, hk], fun z => absurd (hk.symm.trans z) (by decide), P, n, hC9, hev, hrow, by rw [hs2], rfl, by rw [hs2]⟩
set_option maxHeartbeats 4000000 in
set_option maxRecDepth 100000 in
theorem a_rangeTo {P : Nat → Int32} {n lo : Nat} {rv : Int32} {f : Nat → Int64} {row : Nat → Int32} (hev : gEv P n) (hrow : gRow P n row) {v0 : Int32} {kC bM : Int32} {uC : (List Nat × gS) × (Nat → Int64) × Int32 × Int32} {uM : Int32} (hw : (kC = 0 ∧ ∃ rv9 : Int32, uC.2.1 = vp_updL f 0 rv9.toInt64 ∧ uC.2.2 = ((nI n), rv) ∧ (∃ v : Nat, 1 ≤ v ∧ v ≤ 5000 ∧ rv9 = nI v ∧ P v = 8 ∧ ¬ P (v + 1) = 8 ∧ v0 = nI (gen P 8 (v - 1))) ∧ gCh P lo uC.1) ∨ (kC = 1 ∧ uC.2.1 = f ∧ uC.2.2 = ((nI n), rv) ∧ (∀ j, 1 ≤ j → j ≤ 5000 → P j = 8 → ¬ P (j - 1) = 8 → ¬ v0 = nI (gbg P 8 (j - 1))) ∧ gCh P lo uC.1)) (hm : (uM = 0 ∧ ∃ q : Nat, 1 ≤ q ∧ q ≤ n ∧ bM = nI q ∧ P q = 8 ∧ ¬ P (q + 1) = 8 ∧ v0 = nI (gen P 8 (q - 1))) ∨ (uM = 1 ∧ ∀ q : Nat, 1 ≤ q → q ≤ n → P q = 8 → ¬ P (q + 1) = 8 → ¬ v0 = nI (gen P 8 (q - 1)))) : gAgr lo kC bM uM uC.2.1 uC.1 uC.2.2.1 uC.2.2.2 (nI n) (rv) (row) := by
  have hn := hev.2.1
  have h00 : ¬ P 0 = 8 := by rw [hev.2.2.1 0 (Or.inl rfl)]; decide
  rcases hw with ⟨hk, rv9, hf, hs2, ⟨v, w1, w2, w3, w4, w5, w6⟩, w7⟩ | ⟨hk, hf, hs2, hc, hC9⟩
  · have hvn := b_in hev w4
    have hle := gen_le P 8 (v - 1)
    rcases hm with ⟨ht, q, m1, m2, m3, m4, m5, m6⟩ | ⟨ht, m1⟩
    · have hle2 := gen_le P 8 (q - 1)
      have e1 : gen P 8 (v - 1) = gen P 8 (q - 1) := (nI_eq (by omega) (by omega)).mp (w6.symm.trans m6)
      obtain rfl : v = q := gen_inj w1 m1 ⟨w4, w5⟩ ⟨m4, m5⟩ e1
      refine ⟨by rw [ht, hk], fun _ => ?_, P, n, w7, hev, hrow, by rw [hs2], rfl, by rw [hs2]⟩
      rw [hf, g_f0, w3, m3]
    · exact absurd w6 (m1 v w1 hvn w4 w5)
  · rcases hm with ⟨ht, q, m1, m2, m3, m4, m5, m6⟩ | ⟨ht, m1⟩
    · obtain ⟨j, j1, j2, j3, j4, j5⟩ := g_begin h00 m4
      exact absurd (by rw [j5]; exact m6) (hc j j1 (by omega) j3 j4)
    · exact ⟨by rw [ht, hk], fun z => absurd (hk.symm.trans z) (by decide), P, n, hC9, hev, hrow, by rw [hs2], rfl, by rw [hs2]⟩
set_option maxHeartbeats 4000000 in
set_option maxRecDepth 100000 in
theorem a_inGoblet {P : Nat → Int32} {n lo : Nat} {rv : Int32} {f : Nat → Int64} {row : Nat → Int32} (hev : gEv P n) (hrow : gRow P n row) {v0 : Int32} {kC bM : Int32} {uC : (List Nat × gS) × (Nat → Int64) × Int32 × Int32} {uM : Int32} (hw : (kC = 0 ∧ ∃ rv9 : Int32, uC.2.1 = vp_updL f 0 rv9.toInt64 ∧ uC.2.2 = ((nI n), rv) ∧ (gGob v0 ∧ rv9 = nI (gct P v0 5000)) ∧ gCh P lo uC.1) ∨ (kC = 1 ∧ uC.2.1 = f ∧ uC.2.2 = ((nI n), rv) ∧ (¬ gGob v0) ∧ gCh P lo uC.1)) (hm : (uM = 0 ∧ gGob v0 ∧ bM = nI (gct P v0 n)) ∨ (uM = 1 ∧ ¬ gGob v0)) : gAgr lo kC bM uM uC.2.1 uC.1 uC.2.2.1 uC.2.2.2 (nI n) (rv) (row) := by
  have hn := hev.2.1
  rcases hw with ⟨hk, rv9, hf, hs2, ⟨w1, w2⟩, w3⟩ | ⟨hk, hf, hs2, hc, hC9⟩
  · rcases hm with ⟨ht, m1, m2⟩ | ⟨ht, m1⟩
    · refine ⟨by rw [ht, hk], fun _ => ?_, P, n, w3, hev, hrow, by rw [hs2], rfl, by rw [hs2]⟩
      rw [hf, g_f0, w2, m2, b_ct hev (gGob_ne w1)]
    · exact absurd w1 m1
  · rcases hm with ⟨ht, m1, -⟩ | ⟨ht, m1⟩
    · exact absurd m1 hc
    · exact ⟨by rw [ht, hk], fun z => absurd (hk.symm.trans z) (by decide), P, n, hC9, hev, hrow, by rw [hs2], rfl, by rw [hs2]⟩
set_option maxHeartbeats 4000000 in
set_option maxRecDepth 100000 in
theorem a_rangesOf {P : Nat → Int32} {n lo : Nat} {rv : Int32} {f : Nat → Int64} {row : Nat → Int32} (hev : gEv P n) (hrow : gRow P n row) {v0 : Int32} {kC bM : Int32} {uC : (List Nat × gS) × (Nat → Int64) × Int32 × Int32} {uM : Int32} (hw : (kC = 0 ∧ ∃ rv9 : Int32, uC.2.1 = vp_updL f 0 rv9.toInt64 ∧ uC.2.2 = ((nI n), rv) ∧ (gGob v0 ∧ rv9 = nI (gbg P v0 5000)) ∧ gCh P lo uC.1) ∨ (kC = 1 ∧ uC.2.1 = f ∧ uC.2.2 = ((nI n), rv) ∧ (¬ gGob v0) ∧ gCh P lo uC.1)) (hm : (uM = 0 ∧ gGob v0 ∧ bM = nI (gbg P v0 n)) ∨ (uM = 1 ∧ ¬ gGob v0)) : gAgr lo kC bM uM uC.2.1 uC.1 uC.2.2.1 uC.2.2.2 (nI n) (rv) (row) := by
  have hn := hev.2.1
  rcases hw with ⟨hk, rv9, hf, hs2, ⟨w1, w2⟩, w3⟩ | ⟨hk, hf, hs2, hc, hC9⟩
  · rcases hm with ⟨ht, m1, m2⟩ | ⟨ht, m1⟩
    · refine ⟨by rw [ht, hk], fun _ => ?_, P, n, w3, hev, hrow, by rw [hs2], rfl, by rw [hs2]⟩
      rw [hf, g_f0, w2, m2, b_bg hev (gGob_ne w1)]
    · exact absurd w1 m1
  · rcases hm with ⟨ht, m1, -⟩ | ⟨ht, m1⟩
    · exact absurd m1 hc
    · exact ⟨by rw [ht, hk], fun z => absurd (hk.symm.trans z) (by decide), P, n, hC9, hev, hrow, by rw [hs2], rfl, by rw [hs2]⟩
set_option maxHeartbeats 4000000 in
set_option maxRecDepth 100000 in
theorem a_nextOf {P : Nat → Int32} {n lo : Nat} {rv : Int32} {f : Nat → Int64} {row : Nat → Int32} (hev : gEv P n) (hrow : gRow P n row) {v0 : Int32} {kC bM : Int32} {uC : (List Nat × gS) × (Nat → Int64) × Int32 × Int32} {uM : Int32} (hw : (kC = 0 ∧ ∃ rv9 : Int32, uC.2.1 = vp_updL f 0 rv9.toInt64 ∧ uC.2.2 = ((nI n), rv) ∧ (gGob v0 ∧ ∃ v w, glow (fun j => P j = v0) 5000 v ∧ glow (fun j => P j = 8) 5000 w ∧ rv9 = nI (if v = 0 then w else v)) ∧ gCh P lo uC.1) ∨ (kC = 1 ∧ uC.2.1 = f ∧ uC.2.2 = ((nI n), rv) ∧ (¬ gGob v0) ∧ gCh P lo uC.1)) (hm : (uM = 0 ∧ gGob v0 ∧ ∃ v w, glow (fun q => P q = v0) n v ∧ glow (fun q => P q = 8) n w ∧ bM = nI (if v = 0 then w else v)) ∨ (uM = 1 ∧ ¬ gGob v0)) : gAgr lo kC bM uM uC.2.1 uC.1 uC.2.2.1 uC.2.2.2 (nI n) (rv) (row) := by
  have hn := hev.2.1
  rcases hw with ⟨hk, rv9, hf, hs2, ⟨w1, v, w, w2, w3, w4⟩, w5⟩ | ⟨hk, hf, hs2, hc, hC9⟩
  · rcases hm with ⟨ht, m1, v2, w22, m2, m3, m4⟩ | ⟨ht, m1⟩
    · have e1 : v = v2 := glow_one ((b_low hev (gGob_ne w1)).mp w2) m2
      have e2 : w = w22 := glow_one ((b_low hev (by decide)).mp w3) m3
      refine ⟨by rw [ht, hk], fun _ => ?_, P, n, w5, hev, hrow, by rw [hs2], rfl, by rw [hs2]⟩
      rw [hf, g_f0, w4, m4, e1, e2]
    · exact absurd w1 m1
  · rcases hm with ⟨ht, m1, -⟩ | ⟨ht, m1⟩
    · exact absurd m1 hc
    · exact ⟨by rw [ht, hk], fun z => absurd (hk.symm.trans z) (by decide), P, n, hC9, hev, hrow, by rw [hs2], rfl, by rw [hs2]⟩
