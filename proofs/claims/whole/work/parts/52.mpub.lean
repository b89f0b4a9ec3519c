/-! What the reference's calls answer, in words of its state. -/
/-- st with the text of copy a looked up, and c thrown -/
def tw_lkr (st u : Nat → Nat → Nat) (a : Nat) (T : Nat → Nat) (f : Nat → Bool) (c : Nat) : Prop :=
  u 13 0 = c ∧ u 13 2 = a + 1 ∧ u 13 3 = tw_cn f (st 13 1 - 1) ∧ (∀ p, p < st 13 1 - 1 → f p = true → u 11 (tw_cn f p) = T (p + 1)) ∧ ∀ k y, k ≠ 11 → k ≠ 12 → (k ≠ 13 ∨ y = 1) → u k y = st k y
theorem tw_lkr_of {st u : Nat → Nat → Nat} {a : Nat} {T : Nat → Nat} {f : Nat → Bool} {c c' : Nat} (h : tw_lkq (tw_up st 13 0 c') u a T f) : tw_lkr st (tw_up u 13 0 c) a T f c := by
  obtain ⟨h1, h2, h3, h4⟩ := h
  have e1 : tw_up st 13 0 c' 13 1 = st 13 1 := tw_up_i (by omega)
  rw [e1] at h2 h3
  refine ⟨tw_up_e, by rw [tw_up_i (by omega)]; exact h1, by rw [tw_up_i (by omega)]; exact h2, fun p hp fp => by rw [tw_up_k (by omega)]; exact h3 p hp fp, fun k y a1 b1 c1 => ?_⟩
  have e2 : tw_up u 13 0 c k y = u k y := by
    by_cases g : k = 13
    · exact tw_up_i (by omega)
    · exact tw_up_k g
  have e3 : tw_up st 13 0 c' k y = st k y := by
    by_cases g : k = 13
    · exact tw_up_i (by omega)
    · exact tw_up_k g
  rw [e2, h4 k y a1 b1 (by omega), e3]
theorem tw_lkr_q {st u : Nat → Nat → Nat} {a : Nat} {T : Nat → Nat} {f : Nat → Bool} (h : tw_lkq (tw_up st 13 0 0) u a T f) : tw_lkr st u a T f 0 := by
  have e := h.2.2.2 13 0 (by omega) (by omega) (by omega)
  rw [tw_up_e] at e
  have e2 : tw_up u 13 0 0 = u := by
    funext k y
    by_cases g : k = 13
    · by_cases g2 : y = 0
      · rw [g, g2, tw_up_e, e]
      · exact tw_up_i g2
    · exact tw_up_k g
  have := tw_lkr_of (c := 0) h
  rw [e2] at this
  exact this
theorem tw_lkr_c {st u : Nat → Nat → Nat} {a : Nat} {T : Nat → Nat} {f : Nat → Bool} {c c' : Nat} (h : tw_lkr st u a T f c) : tw_lkr st (tw_up u 13 0 c') a T f c' := by
  obtain ⟨h0, h1, h2, h3, h4⟩ := h
  refine ⟨tw_up_e, by rw [tw_up_i (by omega)]; exact h1, by rw [tw_up_i (by omega)]; exact h2, fun p hp fp => by rw [tw_up_k (by omega)]; exact h3 p hp fp, fun k y a1 b1 c1 => ?_⟩
  have e2 : tw_up u 13 0 c' k y = u k y := by
    by_cases g : k = 13
    · exact tw_up_i (by omega)
    · exact tw_up_k g
  rw [e2]
  exact h4 k y a1 b1 c1
theorem tw_lkp_b {st : Nat → Nat → Nat} {a b : Nat} {T : Nat → Nat} {f : Nat → Bool} (h : tw_lkp st a T f) : tw_lkp (tw_up st 13 0 b) a T f := h
theorem tw_up_up {s : Nat → Nat → Nat} {k i v w : Nat} : tw_up (tw_up s k i v) k i w = tw_up s k i w := by
  funext k' i'
  by_cases g : k' = k
  · by_cases g2 : i' = i
    · rw [g, g2, tw_up_e, tw_up_e]
    · rw [tw_up_i g2, tw_up_i g2, tw_up_i g2]
  · rw [tw_up_k g, tw_up_k g, tw_up_k g]
/-- letter t of the text, and what is said of it -/
def tw_plM (L : Nat) (f : Nat → Bool) (t r : Int32) (g : Nat → Nat) : Prop := (∃ p, p < L - 1 ∧ f p = true ∧ t = nI (tw_cn f p) ∧ r = nI (g p)) ∨ (r = -1 ∧ ∀ p, p < L - 1 → f p = true → t ≠ nI (tw_cn f p))
theorem tw_no {f : Nat → Bool} {m : Nat} {t : Int32} (hm : m < 2147483648) (h : nI (tw_cn f m) ≤ t) : ∀ p, p < m → f p = true → t ≠ nI (tw_cn f p) := by
  intro p hp fp e
  rw [e] at h
  have h1 := tw_cn_lt hp fp
  have h2 := tw_cn_le f m
  have := (tw_le (a := tw_cn f m) (b := tw_cn f p) (by omega) (by omega)).mp h
  omega
theorem tw_neg_no {f : Nat → Bool} {m : Nat} {t : Int32} (hm : m < 2147483648) (h : t < 0) : ∀ p, p < m → f p = true → t ≠ nI (tw_cn f p) := by
  intro p hp fp e
  rw [e] at h
  have h2 := tw_cn_le f p
  exact nI_pos (by omega) h
theorem tw_yes {f : Nat → Bool} {m : Nat} {t : Int32} (hm : m < 2147483648) (h0 : ¬ t < 0) (h : ¬ nI (tw_cn f m) ≤ t) : ∃ p, p < m ∧ f p = true ∧ t = nI (tw_cn f p) := by
  have h2 := tw_cn_le f m
  obtain ⟨j, hj, rfl⟩ := nI_of h0
  have hj2 : j < tw_cn f m := Nat.not_le.mp (fun g => h ((tw_le (by omega) hj).mpr g))
  obtain ⟨p, p1, p2, p3⟩ := tw_cn_at hj2
  exact ⟨p, p1, p2, by rw [p3]⟩
