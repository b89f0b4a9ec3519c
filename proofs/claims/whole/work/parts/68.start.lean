/-! The start: a new class and a new reference agree. -/
def tw_s0 : Nat → Nat → Nat := fun k _ => if k = 2 then 1 else 0
theorem tw_s0z {k y : Nat} (h : k ≠ 2) : tw_s0 k y = 0 := by unfold tw_s0; rw [if_neg h]
theorem tw_t0n {k y : Nat} (h : k ≠ 13) : tw_t0 k y = 0 := by unfold tw_t0; rw [if_neg h]
theorem tw_inv_0 : tw_inv 0 tw_s0 tw_t0 := by
  have s9 : ∀ y, tw_s0 9 y = 0 := fun y => rfl
  have t1 : tw_t0 13 1 = 1 := rfl
  refine ⟨fun _ => 0, fun k => k, fun k => k, ⟨⟨⟨?_, ?_, ?_, ?_, ?_⟩, ⟨?_, ?_⟩, ⟨?_, ?_, ?_⟩, ⟨?_, ?_, ?_, ?_, ?_⟩, ?_⟩, ⟨?_, ?_, ?_, ?_⟩, ⟨?_, ?_, ?_⟩, ⟨⟨?_, ?_, ?_, ?_, ?_⟩, ?_, ?_, ?_, ?_, ⟨?_, ?_, ?_⟩, ?_, ?_⟩⟩, tw_cache_0 rfl, ?_, ?_, ?_, ?_, ?_⟩
  · intro c k hc hk; exact absurd hk (Nat.not_lt_zero k)
  · intro i hi; rw [s9] at hi; exact absurd hi (Nat.not_lt_zero i)
  · intro c hc; exact Nat.zero_le _
  · intro i hi; rw [s9] at hi; exact absurd hi (Nat.not_lt_zero i)
  · intro i j hi; rw [s9] at hi; exact absurd hi (Nat.not_lt_zero i)
  · intro c m hc hm; rw [tw_s0z (by omega)]; exact Nat.zero_le _
  · intro c i hc hi; rw [s9] at hi; exact absurd hi (Nat.not_lt_zero i)
  · intro i; rw [tw_s0z (by omega)]; omega
  · intro i c hc
    rw [tw_s0z (by omega), Nat.zero_testBit]
    exact ⟨fun h => absurd h (by decide), fun h => absurd h.1 (by rw [s9]; exact Nat.not_lt_zero i)⟩
  · intro c hc; rw [tw_s0z (by omega), s9]; rfl
  · rw [s9, s9]; exact Nat.le_refl _
  · intro p hp; rw [s9] at hp; exact absurd hp (Nat.not_lt_zero p)
  · intro p q hp; rw [s9] at hp; exact absurd hp (Nat.not_lt_zero p)
  · intro i hi; rw [s9] at hi; exact absurd hi (Nat.not_lt_zero i)
  · intro i hi; rw [s9] at hi; exact absurd hi (Nat.not_lt_zero i)
  · intro c hc
    exact ⟨fun i hi => by rw [s9] at hi; exact absurd hi (Nat.not_lt_zero i), Or.inl (tw_s0z (by omega))⟩
  · intro c hc; exact tw_s0z (by omega)
  · intro c m hc hm; rw [tw_s0z (by omega), tw_t0n (by omega)]
  · intro c hc; exact tw_t0n (by omega)
  · intro i m hi; rw [s9] at hi; exact absurd hi (Nat.not_lt_zero i)
  · rw [t1, s9]
  · intro k h1 h2; rw [t1] at h2; omega
  · intro i j hi; rw [s9] at hi; exact absurd hi (Nat.not_lt_zero i)
  · rw [t1]; exact Nat.le_refl _
  · rfl
  · intro i hi; exact hi
  · intro i j hi hj h; exact h
  · intro k hk; exact ⟨k, hk, rfl⟩
  · intro p hp; rw [s9] at hp; exact absurd hp (Nat.not_lt_zero p)
  · exact tw_t0n (by omega)
  · exact tw_t0n (by omega)
  · intro k hk; exact tw_t0n (by omega)
  · intro i h1 h2; rw [t1] at h2; omega
  · intro i hi
    rw [t1] at hi ⊢
    exact Or.inr ⟨tw_t0n (by omega), fun h => by omega⟩
  · intro i h1 h2; rw [t1] at h2; omega
  · intro i j hi hj _; rw [t1] at hi hj; omega
  · intro k h1 h2; rw [t1] at h2; omega
  · exact Nat.le_refl _
  · intro y; rw [tw_s0z (by omega)]; omega
  · intro y; rw [tw_t0n (by omega)]; omega
  · intro y; rw [tw_t0n (by omega)]; omega
  · intro y; rw [tw_t0n (by omega)]; omega
