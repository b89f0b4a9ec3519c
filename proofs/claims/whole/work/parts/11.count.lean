/-! counting, bits, stores -/
def tw_up (s : Nat → Nat → Nat) (k i v : Nat) : Nat → Nat → Nat := fun k' i' => if k' = k then (if i' = i then v else s k' i') else s k' i'
theorem tw_up_k {s : Nat → Nat → Nat} {k i v k' i' : Nat} (h : k' ≠ k) : tw_up s k i v k' i' = s k' i' := by simp [tw_up, h]
theorem tw_up_i {s : Nat → Nat → Nat} {k i v k' i' : Nat} (h : i' ≠ i) : tw_up s k i v k' i' = s k' i' := by simp [tw_up, h]
theorem tw_up_e {s : Nat → Nat → Nat} {k i v : Nat} : tw_up s k i v k i = v := by simp [tw_up]
def tw_cn (f : Nat → Bool) : Nat → Nat
  | 0 => 0
  | k + 1 => tw_cn f k + (if f k = true then 1 else 0)
theorem tw_cn_le (f : Nat → Bool) : ∀ k, tw_cn f k ≤ k
  | 0 => Nat.le_refl 0
  | k + 1 => by
    have := tw_cn_le f k
    simp only [tw_cn]
    split <;> omega
theorem tw_cn_mono (f : Nat → Bool) {a b : Nat} (h : a ≤ b) : tw_cn f a ≤ tw_cn f b := by
  induction b with
  | zero => have : a = 0 := by omega
            rw [this]; exact Nat.le_refl _
  | succ b ih =>
    rcases Nat.lt_or_ge b a with g | g
    · have : a = b + 1 := by omega
      rw [this]; exact Nat.le_refl _
    · have := ih g
      simp only [tw_cn]
      omega
theorem tw_cn_t {f : Nat → Bool} {k : Nat} (h : f k = true) : tw_cn f (k + 1) = tw_cn f k + 1 := by simp [tw_cn, h]
theorem tw_cn_f {f : Nat → Bool} {k : Nat} (h : f k = false) : tw_cn f (k + 1) = tw_cn f k := by simp [tw_cn, h]
theorem tw_cn_lt {f : Nat → Bool} {p k : Nat} (hp : p < k) (h : f p = true) : tw_cn f p < tw_cn f k := by
  have := tw_cn_mono f (show p + 1 ≤ k by omega)
  rw [tw_cn_t h] at this
  omega
theorem tw_cn_congr {f g : Nat → Bool} {k : Nat} (h : ∀ p, p < k → f p = g p) : tw_cn f k = tw_cn g k := by
  induction k with
  | zero => rfl
  | succ k ih => simp only [tw_cn]; rw [ih (fun p hp => h p (by omega)), h k (by omega)]
/-- the place of text letter number j -/
theorem tw_cn_at {f : Nat → Bool} : ∀ {k j : Nat}, j < tw_cn f k → ∃ p, p < k ∧ f p = true ∧ tw_cn f p = j
  | 0, j, h => by simp [tw_cn] at h
  | k + 1, j, h => by
    by_cases hf : f k = true
    · rw [tw_cn_t hf] at h
      rcases Nat.lt_or_ge j (tw_cn f k) with g | g
      · obtain ⟨p, h1, h2, h3⟩ := tw_cn_at g
        exact ⟨p, by omega, h2, h3⟩
      · exact ⟨k, by omega, hf, by omega⟩
    · rw [tw_cn_f (by simpa using hf)] at h
      obtain ⟨p, h1, h2, h3⟩ := tw_cn_at h
      exact ⟨p, by omega, h2, h3⟩
theorem tw_cn_inj {f : Nat → Bool} {p q : Nat} (hp : f p = true) (hq : f q = true) (h : tw_cn f p = tw_cn f q) : p = q := by
  rcases Nat.lt_trichotomy p q with g | g | g
  · have := tw_cn_lt g hp; omega
  · exact g
  · have := tw_cn_lt g hq; omega
/-- one more, or one fewer, at one place -/
theorem tw_cn_one {f g : Nat → Bool} {q k : Nat} (hq : q < k) (hf : f q = false) (hg : g q = true) (h : ∀ p, p < k → p ≠ q → f p = g p) : tw_cn g k = tw_cn f k + 1 := by
  induction k with
  | zero => omega
  | succ k ih =>
    by_cases e : q = k
    · subst e
      rw [tw_cn_t hg, tw_cn_f hf, tw_cn_congr (fun p hp => h p (by omega) (by omega))]
    · have h1 := ih (by omega) (fun p hp hn => h p (by omega) hn)
      simp only [tw_cn]
      rw [h1, h k (by omega) (by omega)]
      omega
/-- with a place put in -/
theorem tw_cn_ins {f g : Nat → Bool} {q k : Nat} (hq : q ≤ k) (hg : g q = false) (h1 : ∀ p, p < q → g p = f p) (h2 : ∀ p, q ≤ p → p < k → g (p + 1) = f p) : tw_cn g (k + 1) = tw_cn f k := by
  induction k with
  | zero => have : q = 0 := by omega
            subst this
            rw [tw_cn_f hg]; rfl
  | succ k ih =>
    by_cases e : q = k + 1
    · subst e
      rw [tw_cn_f hg, tw_cn_congr (fun p hp => h1 p (by omega))]
    · have h3 := ih (by omega) (fun p hp hn => h2 p hp (by omega))
      have h4 := h2 k (by omega) (by omega)
      simp only [tw_cn] at h3 ⊢
      rw [h3, h4]
def tw_on (s c : Nat) : Nat := s ||| (1 <<< c)
def tw_off (s c : Nat) : Nat := s &&& (15 ^^^ (1 <<< c))
theorem tw_on_b : ∀ s, s < 16 → ∀ c, c < 4 → ∀ d, d < 4 → (tw_on s c).testBit d = (s.testBit d || decide (d = c)) := by decide +kernel
theorem tw_off_b : ∀ s, s < 16 → ∀ c, c < 4 → ∀ d, d < 4 → (tw_off s c).testBit d = (s.testBit d && !decide (d = c)) := by decide +kernel
theorem tw_on_lt : ∀ s, s < 16 → ∀ c, c < 4 → tw_on s c < 16 := by decide +kernel
theorem tw_off_lt : ∀ s, s < 16 → ∀ c, c < 4 → tw_off s c < 16 := by decide +kernel
theorem tw_on_i : ∀ s, s < 16 → ∀ c, c < 4 → nI s ||| ((1 : Int32) <<< (nI c &&& 31)) = nI (tw_on s c) := by decide +kernel
theorem tw_off_i : ∀ s, s < 16 → ∀ c, c < 4 → nI s &&& (((1 : Int32) <<< (nI c &&& 31)) ^^^ (-1)) = nI (tw_off s c) := by decide +kernel
theorem tw_bit_i : ∀ s, s < 16 → ∀ c, c < 4 → ((nI s &&& ((1 : Int32) <<< (nI c &&& 31))) = 0 ↔ s.testBit c = false) := by decide +kernel
