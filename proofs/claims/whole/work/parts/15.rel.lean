/-! The reference's state t: 0 number, 1 maker, 2 change, 3 value, 4 first, 5 sibling, 6 up, 7 what (2 l: letter l; 2 l + 1: letter l taken away), 8 had, 9 made, 10 has, 11 order, 12 gone; 13: thrown, letters, orderOf + 1, long_. g: which change made a letter; T: the letters in ORDER, START first. -/
def tw_n (t : Nat → Nat → Nat) (l : Nat) : Nat := 4 * t 0 l + t 1 l
def tw_rlog (md : Nat → Nat) (s t : Nat → Nat → Nat) : Prop :=
  (∀ c, c < 4 → s (24 + c) c = md c) ∧ (∀ c m, c < 4 → m < 4 → t 10 (4 * c + m) = s (24 + c) m) ∧ (∀ c, c < 4 → t 9 c = md c) ∧
  (∀ i m, i < s 9 0 → m < 4 → t 8 ((400 * s 0 i + s 1 i) * 4 + m) = s (16 + m) i)
def tw_rlet (s t : Nat → Nat → Nat) (g : Nat → Nat) : Prop :=
  t 13 1 = s 9 1 + 1 ∧
  (∀ l, 1 ≤ l → l < t 13 1 → g l < s 9 0 ∧ s 2 (g l) = 0 ∧ t 1 l = s 0 (g l) ∧ t 2 l = s 1 (g l) ∧ t 3 l = s 3 (g l) ∧ tw_n t l = s 4 (g l) ∧ t 7 (400 * s 0 (g l) + s 1 (g l)) = 2 * l) ∧
  (∀ i j, i < s 9 0 → s 2 i = j + 1 → ∃ l, 1 ≤ l ∧ l < t 13 1 ∧ g l = j ∧ t 7 (400 * s 0 i + s 1 i) = 2 * l + 1)
def tw_rtree (s t : Nat → Nat → Nat) (g T : Nat → Nat) : Prop :=
  tw_list (t 13 1) T ∧ (∀ p, p < s 9 1 → s 6 p = g (T (p + 1))) ∧ t 0 0 = 0 ∧ t 1 0 = 0 ∧ (∀ l, t 13 1 ≤ l → t 4 l = 0) ∧
  tw_tree (t 13 1) T (tw_n t) (t 4) (t 5) (t 6) ∧ (∀ i j, i < t 13 1 → j < t 13 1 → tw_n t (T i) = tw_n t (T j) → i = j) ∧
  (∀ l, 1 ≤ l → l < t 13 1 → t 6 l ≠ 0 → s 1 (g (t 6 l)) < s (16 + s 0 (g (t 6 l))) (g l))
def tw_rel (md : Nat → Nat) (s t : Nat → Nat → Nat) (g T : Nat → Nat) : Prop := tw_ci md s ∧ tw_rlog md s t ∧ tw_rlet s t g ∧ tw_rtree s t g T
/-- the reference's kept text, if it keeps one, is the copy's -/
def tw_cache (s t : Nat → Nat → Nat) (T : Nat → Nat) : Prop :=
  t 13 2 ≤ 4 ∧ (1 ≤ t 13 2 → t 13 3 = tw_cn (tw_f s (t 13 2 - 1)) (s 9 1) ∧ ∀ p, p < s 9 1 → tw_f s (t 13 2 - 1) p = true → t 11 (tw_cn (tw_f s (t 13 2 - 1)) p) = T (p + 1))
theorem tw_idx {a b k j : Nat} (hk : k < 400) (hj : j < 400) (h : 400 * a + k = 400 * b + j) : a = b ∧ k = j := by omega
/-- the reference has a letter in a copy just where the class has its change -/
theorem tw_rel_in {md : Nat → Nat} {s t : Nat → Nat → Nat} {g T : Nat → Nat} (h : tw_rel md s t g T) {c l : Nat} (hc : c < 4) (h1 : 1 ≤ l) (hl : l < t 13 1) : t 2 l < t 10 (4 * c + t 1 l) ↔ tw_has s c (g l) := by
  obtain ⟨hci, ⟨-, r2, -, -⟩, ⟨-, a2, -⟩, -⟩ := h
  obtain ⟨x1, -, x3, x4, -⟩ := a2 l h1 hl
  unfold tw_has
  rw [x4, x3, r2 c _ hc (hci.1.2.1 _ x1).1]
