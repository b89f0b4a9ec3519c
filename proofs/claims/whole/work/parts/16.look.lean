/-! the reference's walk over the letters of a copy -/
theorem tw_cn_const {f : Nat → Bool} {a b : Nat} (h : a ≤ b) (hf : ∀ p, a ≤ p → p < b → f p = false) : tw_cn f b = tw_cn f a := by
  induction b with
  | zero => have : a = 0 := by omega
            rw [this]
  | succ b ih =>
    rcases Nat.lt_or_ge b a with g | g
    · have : a = b + 1 := by omega
      rw [this]
    · rw [tw_cn_f (hf b g (by omega)), ih g (fun p h1 h2 => hf p h1 (by omega))]
/-- all places up to q are passed; t the state before the walk -/
def tw_vis (T : Nat → Nat) (f : Nat → Bool) (t sm : Nat → Nat → Nat) (q : Nat) : Prop :=
  1 ≤ q ∧ sm 13 3 = tw_cn f (q - 1) ∧ (∀ p, p < q - 1 → f p = true → sm 11 (tw_cn f p) = T (p + 1)) ∧ ∀ k y, k ≠ 11 → (k ≠ 13 ∨ y ≠ 3) → sm k y = t k y
theorem tw_vis_skip {T : Nat → Nat} {f : Nat → Bool} {t sm : Nat → Nat → Nat} {q q' : Nat} (h : tw_vis T f t sm q) (hq : q ≤ q') (hno : ∀ k, q ≤ k → k < q' → f (k - 1) = false) : tw_vis T f t sm q' := by
  obtain ⟨h1, h2, h3, h4⟩ := h
  refine ⟨by omega, ?_, fun p hp fp => ?_, h4⟩
  · rw [h2, tw_cn_const (show q - 1 ≤ q' - 1 by omega) (fun p a b => by have := hno (p + 1) (by omega) (by omega); simpa using this)]
  · rcases Nat.lt_or_ge p (q - 1) with g | g
    · exact h3 p g fp
    · have := hno (p + 1) (by omega) (by omega)
      rw [show p + 1 - 1 = p by omega, fp] at this
      cases this
theorem tw_vis_no {T : Nat → Nat} {f : Nat → Bool} {t sm : Nat → Nat → Nat} {q : Nat} (h : tw_vis T f t sm q) (hno : f (q - 1) = false) : tw_vis T f t sm (q + 1) :=
  tw_vis_skip h (by omega) (fun k a b => by rw [show k = q by omega]; exact hno)
theorem tw_vis_put {T : Nat → Nat} {f : Nat → Bool} {t sm : Nat → Nat → Nat} {q : Nat} (h : tw_vis T f t sm q) (hy : f (q - 1) = true) : tw_vis T f t (tw_up (tw_up sm 11 (sm 13 3) (T q)) 13 3 (sm 13 3 + 1)) (q + 1) := by
  obtain ⟨h1, h2, h3, h4⟩ := h
  have e : tw_cn f (q + 1 - 1) = tw_cn f (q - 1) + 1 := by
    rw [show q + 1 - 1 = (q - 1) + 1 by omega, tw_cn_t hy]
  refine ⟨by omega, by rw [tw_up_e, e, h2], fun p hp fp => ?_, fun k y a b => ?_⟩
  · rw [tw_up_k (by omega)]
    rcases Nat.lt_or_ge p (q - 1) with g | g
    · have := tw_cn_lt g fp
      rw [tw_up_i (by omega)]
      exact h3 p g fp
    · have : p = q - 1 := by omega
      rw [this, h2, tw_up_e]
      congr 1
      omega
  · have e1 : tw_up (tw_up sm 11 (sm 13 3) (T q)) 13 3 (sm 13 3 + 1) k y = tw_up sm 11 (sm 13 3) (T q) k y := by
      by_cases g : k = 13
      · exact tw_up_i (by omega)
      · exact tw_up_k g
    rw [e1, tw_up_k a]
    exact h4 k y a b
theorem tw_mu {L q q' x y : Nat} (hq : q ≤ q') (h : x < y) : (L - q') * (L + 2) + x < (L - q) * (L + 2) + y := by
  have := Nat.mul_le_mul_right (L + 2) (Nat.sub_le_sub_left hq L)
  omega
theorem tw_mu1 {L q q' : Nat} (hq : q ≤ q') (h : q' < L) : (L - (q' + 1)) * (L + 2) + (L + 1) < (L - q) * (L + 2) := by
  have h1 : (L - (q' + 1)) * (L + 2) ≤ (L - q - 1) * (L + 2) := Nat.mul_le_mul_right (L + 2) (by omega)
  have h2 : (L - q) * (L + 2) = (L - q - 1) * (L + 2) + (L + 2) := by
    rw [show L - q = (L - q - 1) + 1 by omega, Nat.add_mul]
    simp
  omega
def tw_hd (L : Nat) (T n : Nat → Nat) (i dn q : Nat) : Prop :=
  i < L ∧ ((dn = 1 ∧ q = i + 1) ∨ (dn = 0 ∧ 1 ≤ i ∧ i < q ∧ q ≤ L ∧ (∀ k, i < k → k < q → n (T i) < n (T k)) ∧ (q < L → n (T q) < n (T i))))
def tw_mus (L i dn q : Nat) : Nat := (L - q) * (L + 2) + (if dn = 1 then L + 1 else i)
/-- what the walk wants of the reference's state -/
def tw_lkp (st : Nat → Nat → Nat) (a : Nat) (T : Nat → Nat) (f : Nat → Bool) : Prop :=
  (1 ≤ st 13 1 ∧ st 13 1 ≤ 1601) ∧ tw_list (st 13 1) T ∧ tw_tree (st 13 1) T (tw_n st) (st 4) (st 5) (st 6) ∧ (∀ i j, i < st 13 1 → j < st 13 1 → tw_n st (T i) = tw_n st (T j) → i = j) ∧ tw_n st 0 = 0 ∧
  (∀ k, 1 ≤ k → k < st 13 1 → st 1 k < 4 ∧ st 2 k < 2147483648) ∧ (∀ m, m < 4 → st 10 (4 * a + m) ≤ 400) ∧
  (∀ m k, m < 4 → k < st 10 (4 * a + m) → ∃ y, y < st 13 1 ∧ (st 7 (400 * m + k) = 2 * y ∨ (st 7 (400 * m + k) = 2 * y + 1 ∧ 1 ≤ y))) ∧
  (∀ k, 1 ≤ k → k < st 13 1 → st 6 k ≠ 0 → st 2 k < st 10 (4 * a + st 1 k) → st 2 (st 6 k) < st 10 (4 * a + st 1 (st 6 k))) ∧
  (∀ p, p + 1 < st 13 1 → (f p = true ↔ st 2 (T (p + 1)) < st 10 (4 * a + st 1 (T (p + 1))) ∧ ¬ ∃ m k, m < 4 ∧ k < st 10 (4 * a + m) ∧ st 7 (400 * m + k) = 2 * T (p + 1) + 1)) ∧
  (st 13 2 = a + 1 → st 13 3 = tw_cn f (st 13 1 - 1) ∧ ∀ p, p < st 13 1 - 1 → f p = true → st 11 (tw_cn f p) = T (p + 1)) ∧ st 13 2 ≤ 4
def tw_lkq (st u : Nat → Nat → Nat) (a : Nat) (T : Nat → Nat) (f : Nat → Bool) : Prop :=
  u 13 2 = a + 1 ∧ u 13 3 = tw_cn f (st 13 1 - 1) ∧ (∀ p, p < st 13 1 - 1 → f p = true → u 11 (tw_cn f p) = T (p + 1)) ∧ ∀ k y, k ≠ 11 → k ≠ 12 → (k ≠ 13 ∨ (y ≠ 2 ∧ y ≠ 3)) → u k y = st k y
/-- which letters are marked, up to change k of copy m -/
def tw_gn (st sm : Nat → Nat → Nat) (a m k : Nat) : Prop :=
  (∀ y, y < st 13 1 → sm 12 y < 2 ∧ (sm 12 y = 1 ↔ ∃ m' k', (m' < m ∨ (m' = m ∧ k' < k)) ∧ m' < 4 ∧ k' < st 10 (4 * a + m') ∧ st 7 (400 * m' + k') = 2 * y + 1)) ∧
  sm 13 2 = a + 1 ∧ sm 13 3 = 0 ∧ ∀ k y, k ≠ 12 → (k ≠ 13 ∨ (y ≠ 2 ∧ y ≠ 3)) → sm k y = st k y
theorem tw_gn_no {st sm : Nat → Nat → Nat} {a m k : Nat} (h : tw_gn st sm a m k) (hno : ∀ y, st 7 (400 * m + k) ≠ 2 * y + 1) : tw_gn st sm a m (k + 1) := by
  obtain ⟨h1, h2, h3, h4⟩ := h
  refine ⟨fun y hy => ⟨(h1 y hy).1, (h1 y hy).2.trans ⟨?_, ?_⟩⟩, h2, h3, h4⟩
  · rintro ⟨m', k', g, r⟩
    exact ⟨m', k', by omega, r⟩
  · rintro ⟨m', k', g, r1, r2, r3⟩
    refine ⟨m', k', ?_, r1, r2, r3⟩
    by_cases e : m' = m ∧ k' = k
    · rw [e.1, e.2] at r3
      exact absurd r3 (hno y)
    · omega
theorem tw_gn_yes {st sm : Nat → Nat → Nat} {a m k z : Nat} (h : tw_gn st sm a m k) (hm : m < 4) (hk : k < st 10 (4 * a + m)) (hz : st 7 (400 * m + k) = 2 * z + 1) : tw_gn st (tw_up sm 12 z 1) a m (k + 1) := by
  obtain ⟨h1, h2, h3, h4⟩ := h
  refine ⟨fun y hy => ?_, by rw [tw_up_k (by omega)]; exact h2, by rw [tw_up_k (by omega)]; exact h3, fun k' y a b => by rw [tw_up_k a]; exact h4 k' y a b⟩
  by_cases e : y = z
  · rw [e, tw_up_e]
    exact ⟨by omega, fun _ => ⟨m, k, by omega, hm, hk, hz⟩, fun _ => rfl⟩
  · rw [tw_up_i e]
    refine ⟨(h1 y hy).1, (h1 y hy).2.trans ⟨?_, ?_⟩⟩
    · rintro ⟨m', k', g, r⟩
      exact ⟨m', k', by omega, r⟩
    · rintro ⟨m', k', g, r1, r2, r3⟩
      refine ⟨m', k', ?_, r1, r2, r3⟩
      by_cases e2 : m' = m ∧ k' = k
      · rw [e2.1, e2.2] at r3
        omega
      · omega
theorem tw_gn_next {st sm : Nat → Nat → Nat} {a m k : Nat} (h : tw_gn st sm a m k) (hk : st 10 (4 * a + m) ≤ k) : tw_gn st sm a (m + 1) 0 := by
  obtain ⟨h1, h2, h3, h4⟩ := h
  refine ⟨fun y hy => ⟨(h1 y hy).1, (h1 y hy).2.trans ⟨?_, ?_⟩⟩, h2, h3, h4⟩
  · rintro ⟨m', k', g, r⟩
    exact ⟨m', k', by omega, r⟩
  · rintro ⟨m', k', g, r1, r2, r3⟩
    refine ⟨m', k', ?_, r1, r2, r3⟩
    by_cases e : m' = m
    · rw [e] at r2; omega
    · omega
