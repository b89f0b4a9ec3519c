/-! merge: the log is gone through up to i; s0 the state before, n what is new -/
def tw_mrg (md : Nat → Nat) (s0 s : Nat → Nat → Nat) (fr to i n : Nat) : Prop :=
  tw_ci md s ∧ (∀ k x, (k < 5 ∨ k = 6 ∨ (8 < k ∧ k < 24)) → s k x = s0 k x) ∧ (∀ d x, d < 4 → d ≠ to → s (24 + d) x = s0 (24 + d) x) ∧
  (∀ m, m < 4 → s0 (24 + to) m ≤ s (24 + to) m) ∧
  (∀ m k, m < 4 → k < s0 (24 + fr) m → s0 (20 + m) k < i → k < s (24 + to) m) ∧
  (∀ m k, m < 4 → s0 (24 + to) m ≤ k → k < s (24 + to) m → k < s0 (24 + fr) m ∧ s0 (20 + m) k < i) ∧
  n + s0 (24 + to) 0 + s0 (24 + to) 1 + s0 (24 + to) 2 + s0 (24 + to) 3 = s (24 + to) 0 + s (24 + to) 1 + s (24 + to) 2 + s (24 + to) 3
theorem tw_mrg_0 {md : Nat → Nat} {s : Nat → Nat → Nat} {fr to : Nat} (h : tw_ci md s) : tw_mrg md s s fr to 0 0 :=
  ⟨h, fun _ _ _ => rfl, fun _ _ _ _ => rfl, fun _ _ => Nat.le_refl _, fun _ _ _ _ z => absurd z (Nat.not_lt_zero _), fun m k _ h1 h2 => by omega, by omega⟩
theorem tw_mrg_no {md : Nat → Nat} {s0 s : Nat → Nat → Nat} {fr to i n : Nat} (h : tw_mrg md s0 s fr to i n) (h0 : tw_ci md s0) (hf : fr < 4) (ht : to < 4) (hi : i < s0 9 0) (hno : ¬ (tw_has s fr i ∧ ¬ tw_has s to i)) : tw_mrg md s0 s fr to (i + 1) n := by
  obtain ⟨c1, c2, c3, c4, c5, c6, c7⟩ := h
  refine ⟨c1, c2, c3, c4, fun m k hm hk hz => ?_, fun m k hm a b => ?_, c7⟩
  · rcases Nat.lt_or_ge (s0 (20 + m) k) i with g | g
    · exact c5 m k hm hk g
    · have hz2 : s0 (20 + m) k = i := by omega
      have hkm : k < md m := Nat.lt_of_lt_of_le hk (h0.2.1.1 fr m hf hm)
      obtain ⟨-, x2, x3⟩ := h0.1.1 m k hm hkm
      rw [hz2] at x2 x3
      have e0 : s 0 i = m := by rw [c2 0 i (by omega)]; exact x2
      have e1 : s 1 i = k := by rw [c2 1 i (by omega)]; exact x3
      by_cases hft : fr = to
      · subst hft
        have := c4 m hm
        omega
      · have hin : tw_has s fr i := by
          unfold tw_has
          rw [e0, e1, c3 fr m hf hft]; exact hk
        have hin2 : tw_has s to i := Classical.byContradiction fun z => hno ⟨hin, z⟩
        unfold tw_has at hin2
        rw [e0, e1] at hin2
        exact hin2
  · obtain ⟨x1, x2⟩ := c6 m k hm a b
    exact ⟨x1, by omega⟩
theorem tw_mrg_yes {md : Nat → Nat} {s0 s : Nat → Nat → Nat} {fr to i n : Nat} (h : tw_mrg md s0 s fr to i n) (h0 : tw_ci md s0) (hf : fr < 4) (ht : to < 4) (hi : i < s0 9 0) (hy : tw_has s fr i) (hn : ¬ tw_has s to i) : tw_mrg md s0 (tw_rcv s to i) fr to (i + 1) (n + 1) := by
  have hft : fr ≠ to := fun z => by subst z; exact hn hy
  obtain ⟨c1, c2, c3, c4, c5, c6, c7⟩ := h
  have e9 : s 9 0 = s0 9 0 := c2 9 0 (by omega)
  have e0 : s 0 i = s0 0 i := c2 0 i (by omega)
  have e1 : s 1 i = s0 1 i := c2 1 i (by omega)
  obtain ⟨mi, ni, oi⟩ := h0.1.2.1 i hi
  obtain ⟨li, lj⟩ := h0.1.2.2.2.1 i hi
  have hy0 : s0 1 i < s0 (24 + fr) (s0 0 i) := by
    unfold tw_has at hy
    rw [e0, e1, c3 fr _ hf hft] at hy
    exact hy
  have hn0 : ¬ s0 1 i < s (24 + to) (s0 0 i) := by
    unfold tw_has at hn
    rw [e0, e1] at hn
    exact hn
  have hk : s 1 i = s (24 + to) (s 0 i) := by
    rw [e0, e1]
    rcases Nat.lt_or_ge (s (24 + to) (s0 0 i)) (s0 1 i) with g | g
    · have := (lj (s0 0 i) (s (24 + to) (s0 0 i)) mi (by rw [li]; exact g)).2
      have := c5 (s0 0 i) (s (24 + to) (s0 0 i)) mi (by omega) this
      omega
    · omega
  have hh : ∀ m, m < 4 → s (16 + m) i ≤ s (24 + to) m := by
    intro m hm
    rw [c2 (16 + m) i (by omega)]
    rcases Nat.lt_or_ge (s (24 + to) m) (s0 (16 + m) i) with g | g
    · have h1 := (lj m (s (24 + to) m) hm g).2
      have h2 := h0.2.1.2 fr i hf hi hy0 m hm
      have h3 := c5 m (s (24 + to) m) hm (by omega) h1
      omega
    · exact g
  have hci := tw_rcv_ci c1 ht (by rw [e9]; exact hi) hk hh
  have row : ∀ m, tw_rcv s to i (24 + to) m = if m = s0 0 i then s0 1 i + 1 else s (24 + to) m := by
    intro m
    rw [tw_rcv_k, e0, e1]
    by_cases g : m = s0 0 i
    · rw [if_pos ⟨rfl, g⟩, if_pos g]
    · rw [if_neg (fun z => g z.2), if_neg g]
  have hk0 : s (24 + to) (s0 0 i) = s0 1 i := by rw [e0, e1] at hk; exact hk.symm
  refine ⟨hci, fun k x hx => by rw [tw_rcv_o hx]; exact c2 k x hx, fun d x hd hd2 => ?_, fun m hm => ?_, fun m k hm hk9 hz => ?_, fun m k hm a b => ?_, ?_⟩
  · rw [tw_rcv_k, if_neg (fun z => hd2 z.1)]
    exact c3 d x hd hd2
  · rw [row]
    have := c4 m hm
    split
    · rename_i g; rw [g] at this ⊢; omega
    · exact this
  · rw [row]
    rcases Nat.lt_or_ge (s0 (20 + m) k) i with g | g
    · have := c5 m k hm hk9 g
      split
      · rename_i z; rw [z] at this; omega
      · exact this
    · have hz2 : s0 (20 + m) k = i := by omega
      have hkm : k < md m := Nat.lt_of_lt_of_le hk9 (h0.2.1.1 fr m hf hm)
      obtain ⟨-, x2, x3⟩ := h0.1.1 m k hm hkm
      rw [hz2] at x2 x3
      rw [if_pos x2.symm]
      omega
  · rw [row] at b
    by_cases g : m = s0 0 i
    · rw [if_pos g] at b
      rcases Nat.lt_or_ge k (s0 1 i) with z | z
      · obtain ⟨x1, x2⟩ := c6 m k hm a (by rw [g, hk0]; exact z)
        exact ⟨x1, by omega⟩
      · have : k = s0 1 i := by omega
        rw [g, this]
        exact ⟨hy0, by rw [oi]; omega⟩
    · rw [if_neg g] at b
      obtain ⟨x1, x2⟩ := c6 m k hm a b
      exact ⟨x1, by omega⟩
  · have r0 := row 0
    have r1 := row 1
    have r2 := row 2
    have r3 := row 3
    have hm4 : s0 0 i = 0 ∨ s0 0 i = 1 ∨ s0 0 i = 2 ∨ s0 0 i = 3 := by omega
    rcases hm4 with g | g | g | g <;> rw [g] at r0 r1 r2 r3 hk0 <;> simp at r0 r1 r2 r3 <;> omega
theorem tw_mrg_end {md : Nat → Nat} {s0 s : Nat → Nat → Nat} {fr to n : Nat} (h : tw_mrg md s0 s fr to (s0 9 0) n) (h0 : tw_ci md s0) (hf : fr < 4) : ∀ m, m < 4 → s (24 + to) m = max (s0 (24 + to) m) (s0 (24 + fr) m) := by
  obtain ⟨c1, c2, c3, c4, c5, c6, c7⟩ := h
  intro m hm
  have h1 := c4 m hm
  have h2 : s0 (24 + fr) m ≤ s (24 + to) m := by
    rcases Nat.lt_or_ge (s (24 + to) m) (s0 (24 + fr) m) with g | g
    · have hkm : s (24 + to) m < md m := Nat.lt_of_lt_of_le g (h0.2.1.1 fr m hf hm)
      have := c5 m (s (24 + to) m) hm g (h0.1.1 m _ hm hkm).1
      omega
    · exact g
  have h3 : s (24 + to) m ≤ s0 (24 + to) m ∨ s (24 + to) m ≤ s0 (24 + fr) m := by
    rcases Nat.lt_or_ge (s0 (24 + to) m) (s (24 + to) m) with g | g
    · right
      have := (c6 m (s (24 + to) m - 1) hm (by omega) (by omega)).1
      omega
    · exact Or.inl g
  omega
