/-! the reference's insert: its states, and what comes out -/
def tw_In (st : Nat → Nat → Nat) (a k : Nat) : Prop := st 2 k < st 10 (4 * a + st 1 k)
def tw_most (st : Nat → Nat → Nat) (a j mo : Nat) : Prop := (∀ k, 1 ≤ k → k < j → tw_In st a k → st 0 k ≤ mo) ∧ (mo = 0 ∨ ∃ k, 1 ≤ k ∧ k < j ∧ tw_In st a k ∧ st 0 k = mo)
def tw_i5 (s : Nat → Nat → Nat) (L mo a m d : Nat) : Nat → Nat → Nat := tw_up (tw_up (tw_up (tw_up (tw_up s 13 1 (L + 1)) 0 L (mo + 1)) 1 L a) 2 L m) 3 L d
def tw_i6 (s : Nat → Nat → Nat) (L mo a m d beh : Nat) : Nat → Nat → Nat := tw_up (tw_i5 s L mo a m d) 6 L beh
def tw_i8 (s : Nat → Nat → Nat) (L mo a m d beh sb last : Nat) : Nat → Nat → Nat := if last = 0 then tw_up (tw_up (tw_i6 s L mo a m d beh) 5 L sb) 4 beh L else tw_up (tw_up (tw_i6 s L mo a m d beh) 5 L sb) 5 last L
theorem tw_i5_o {s : Nat → Nat → Nat} {L mo a m d k y : Nat} (h : 3 < k) (h2 : k ≠ 13 ∨ y ≠ 1) : tw_i5 s L mo a m d k y = s k y := by
  unfold tw_i5
  rw [tw_up_k (by omega), tw_up_k (by omega), tw_up_k (by omega), tw_up_k (by omega)]
  by_cases g : k = 13
  · exact tw_up_i (by omega)
  · exact tw_up_k g
theorem tw_i5_y {s : Nat → Nat → Nat} {L mo a m d k y : Nat} (h : y ≠ L) (h2 : k ≠ 13) : tw_i5 s L mo a m d k y = s k y := by
  unfold tw_i5
  rw [tw_up_i h, tw_up_i h, tw_up_i h, tw_up_i h, tw_up_k h2]
theorem tw_i5_0 {s : Nat → Nat → Nat} {L mo a m d : Nat} : tw_i5 s L mo a m d 0 L = mo + 1 := by
  unfold tw_i5
  rw [tw_up_k (by omega), tw_up_k (by omega), tw_up_k (by omega), tw_up_e]
theorem tw_i5_1 {s : Nat → Nat → Nat} {L mo a m d : Nat} : tw_i5 s L mo a m d 1 L = a := by
  unfold tw_i5
  rw [tw_up_k (by omega), tw_up_k (by omega), tw_up_e]
theorem tw_i5_2 {s : Nat → Nat → Nat} {L mo a m d : Nat} : tw_i5 s L mo a m d 2 L = m := by
  unfold tw_i5
  rw [tw_up_k (by omega), tw_up_e]
theorem tw_i5_3 {s : Nat → Nat → Nat} {L mo a m d : Nat} : tw_i5 s L mo a m d 3 L = d := by
  unfold tw_i5
  rw [tw_up_e]
theorem tw_i5_13 {s : Nat → Nat → Nat} {L mo a m d : Nat} : tw_i5 s L mo a m d 13 1 = L + 1 := by
  unfold tw_i5
  rw [tw_up_k (by omega), tw_up_k (by omega), tw_up_k (by omega), tw_up_k (by omega), tw_up_e]
theorem tw_i8_o {s : Nat → Nat → Nat} {L mo a m d beh sb last k y : Nat} (h : k ≠ 4) (h2 : k ≠ 5) (h3 : k ≠ 6) : tw_i8 s L mo a m d beh sb last k y = tw_i5 s L mo a m d k y := by
  unfold tw_i8 tw_i6
  split
  · rw [tw_up_k h, tw_up_k h2, tw_up_k h3]
  · rw [tw_up_k h2, tw_up_k h2, tw_up_k h3]
theorem tw_i8_6 {s : Nat → Nat → Nat} {L mo a m d beh sb last y : Nat} : tw_i8 s L mo a m d beh sb last 6 y = if y = L then beh else s 6 y := by
  have h : tw_i8 s L mo a m d beh sb last 6 y = tw_i6 s L mo a m d beh 6 y := by
    unfold tw_i8
    split
    · rw [tw_up_k (by omega), tw_up_k (by omega)]
    · rw [tw_up_k (by omega), tw_up_k (by omega)]
  rw [h]
  unfold tw_i6
  by_cases g : y = L
  · rw [if_pos g, g, tw_up_e]
  · rw [if_neg g, tw_up_i g, tw_i5_o (by omega) (by omega)]
theorem tw_i8_4 {s : Nat → Nat → Nat} {L mo a m d beh sb last y : Nat} : tw_i8 s L mo a m d beh sb last 4 y = if last = 0 ∧ y = beh then L else s 4 y := by
  unfold tw_i8 tw_i6
  by_cases g : last = 0
  · rw [if_pos g]
    by_cases g2 : y = beh
    · rw [if_pos ⟨g, g2⟩, g2, tw_up_e]
    · rw [if_neg (fun z => g2 z.2), tw_up_i g2, tw_up_k (by omega), tw_up_k (by omega), tw_i5_o (by omega) (by omega)]
  · rw [if_neg g, if_neg (fun z => g z.1), tw_up_k (by omega), tw_up_k (by omega), tw_up_k (by omega), tw_i5_o (by omega) (by omega)]
theorem tw_i8_5 {s : Nat → Nat → Nat} {L mo a m d beh sb last y : Nat} : tw_i8 s L mo a m d beh sb last 5 y = if last ≠ 0 ∧ y = last then L else if y = L then sb else s 5 y := by
  unfold tw_i8 tw_i6
  by_cases g : last = 0
  · rw [if_pos g, if_neg (fun z => z.1 g), tw_up_k (by omega)]
    by_cases g2 : y = L
    · rw [if_pos g2, g2, tw_up_e]
    · rw [if_neg g2, tw_up_i g2, tw_up_k (by omega), tw_i5_o (by omega) (by omega)]
  · rw [if_neg g]
    by_cases g3 : y = last
    · rw [if_pos ⟨g, g3⟩, g3, tw_up_e]
    · rw [if_neg (fun z => g3 z.2), tw_up_i g3]
      by_cases g2 : y = L
      · rw [if_pos g2, g2, tw_up_e]
      · rw [if_neg g2, tw_up_i g2, tw_up_k (by omega), tw_i5_o (by omega) (by omega)]
/-- where letter k of the text is put: behind which -/
def tw_bhM (L : Nat) (f : Nat → Bool) (k b : Nat) : Prop := (k = 0 ∧ b = 0) ∨ ∃ p, p < L - 1 ∧ f p = true ∧ tw_cn f p + 1 = k ∧ b = p + 1
def tw_last (L : Nat) (T n up : Nat → Nat) (b q last : Nat) : Prop := (last = 0 ∧ q = b + 1) ∨ ∃ i, b < i ∧ i < q ∧ last = T i ∧ up (T i) = T b ∧ (∀ k, i < k → k < q → n (T i) < n (T k)) ∧ (q < L → n (T q) < n (T i))
def tw_insM (st u : Nat → Nat → Nat) (a k d : Nat) (T : Nat → Nat) (f : Nat → Bool) : Prop :=
  ∃ mo b q s2, tw_most st a (st 13 1) mo ∧ tw_bhM (st 13 1) f k b ∧ b < q ∧ q ≤ st 13 1 ∧ (∀ j, b < j → j < q → 4 * (mo + 1) + a < tw_n st (T j)) ∧ (q < st 13 1 → tw_n st (T q) < 4 * (mo + 1) + a) ∧
    s2 13 1 = st 13 1 + 1 ∧ (∀ c y, c < 4 → y ≠ st 13 1 → s2 c y = st c y) ∧ s2 0 (st 13 1) = mo + 1 ∧ s2 1 (st 13 1) = a ∧ s2 2 (st 13 1) = st 9 a ∧ s2 3 (st 13 1) = d ∧ (∀ y, y ≠ st 13 1 → s2 6 y = st 6 y) ∧ s2 6 (st 13 1) = T b ∧ (∀ y, st 13 1 + 1 ≤ y → s2 4 y = 0) ∧
    tw_tree (st 13 1 + 1) (tw_ins T q (st 13 1)) (tw_n s2) (s2 4) (s2 5) (s2 6) ∧ (∀ c y, 6 < c → c < 11 → s2 c y = st c y) ∧ s2 13 0 = 0 ∧ u = tw_dn s2 a (2 * st 13 1)
theorem tw_insM_of {st sA u : Nat → Nat → Nat} {a k d mo b q sb last : Nat} {T : Nat → Nat} {f : Nat → Bool} (hP : tw_lkp st a T f) (hR : tw_lkr st sA a T f 0) (ha : a < 4) (hmo : tw_most st a (st 13 1) mo) (hbh : tw_bhM (st 13 1) f k b) (hown : ∀ y, 1 ≤ y → y < st 13 1 → tw_In st (st 1 y) y) (hfs : ∀ y, st 13 1 ≤ y → st 4 y = 0)
    (hsw : tw_sw (st 13 1) T (tw_n st) (st 6) b q sb) (hgt : ∀ j, b < j → j < q → 4 * (mo + 1) + a < tw_n st (T j)) (hend : sb ≠ 0 → ¬ 4 * (mo + 1) + a < tw_n st sb) (hla : tw_last (st 13 1) T (tw_n st) (st 6) b q last) (hu : u = tw_dn (tw_i8 sA (st 13 1) mo a (st 9 a) d (T b) sb last) a (2 * st 13 1)) : tw_insM st u a k d T f := by
  obtain ⟨⟨L1, L2⟩, hli, htr, hinj, hn0, hr5, hr6, hr7, hr8, hr9, hr10, hr11⟩ := hP
  obtain ⟨hA0, hA2, hA3, hA4, hA5⟩ := hR
  have oA : ∀ c y, c < 11 → sA c y = st c y := fun c y h => hA5 c y (by omega) (by omega) (by omega)
  have hbL : b < st 13 1 := by have := hsw.1; have := hsw.2.1; omega
  have hnx : ∀ i, i < st 13 1 → tw_n st (T i) ≠ 4 * (mo + 1) + a := by
    intro i hi e
    rcases Nat.eq_zero_or_pos i with g | g
    · rw [g, hli.2.1, hn0] at e; omega
    · have hp := tw_pos hli g hi
      have hl := hli.2.2.1 i hi
      have h5 := (hr5 _ hp hl).1
      have e1 : st 1 (T i) = a ∧ st 0 (T i) = mo + 1 := by unfold tw_n at e; omega
      have := hmo.1 _ hp hl (by have := hown _ hp hl; rw [e1.1] at this; exact this)
      omega
  have hbx : tw_n st (T b) < 4 * (mo + 1) + a := by
    rcases hbh with ⟨-, rfl⟩ | ⟨p, p1, p2, p3, rfl⟩
    · rw [hli.2.1, hn0]; omega
    · have hp := tw_pos hli (show 1 ≤ p + 1 by omega) hbL
      have hl := hli.2.2.1 (p + 1) hbL
      have hin := ((hr9 p hbL).mp p2).1
      have h1 := hmo.1 _ hp hl hin
      have h5 := (hr5 _ hp hl).1
      have := hnx (p + 1) hbL
      unfold tw_n at this ⊢
      omega
  have hend2 : q < st 13 1 → tw_n st (T q) < 4 * (mo + 1) + a := by
    intro hq
    rcases hsw.2.2.2 with ⟨g1, g2, g3⟩ | ⟨g1, g2⟩
    · have := hend (by rw [g2]; have := tw_pos hli (show 1 ≤ q by have := hsw.1; omega) g1; omega)
      rw [g2] at this
      have := hnx q g1
      omega
    · have := g2 hq
      omega
  have n1 : ∀ y, y < st 13 1 → tw_n (tw_i8 sA (st 13 1) mo a (st 9 a) d (T b) sb last) y = tw_n st y := fun y hy => by
    unfold tw_n
    rw [tw_i8_o (by omega) (by omega) (by omega), tw_i8_o (by omega) (by omega) (by omega), tw_i5_y (by omega) (by omega), tw_i5_y (by omega) (by omega), oA 0 y (by omega), oA 1 y (by omega)]
  refine ⟨mo, b, q, _, hmo, hbh, hsw.1, hsw.2.1, hgt, hend2, ?_, ?_, ?_, ?_, ?_, ?_, ?_, ?_, ?_, ?_, ?_, ?_, hu⟩
  · rw [tw_i8_o (by omega) (by omega) (by omega), tw_i5_13]
  · intro c y hc hy
    rw [tw_i8_o (by omega) (by omega) (by omega), tw_i5_y hy (by omega), oA c y (by omega)]
  · rw [tw_i8_o (by omega) (by omega) (by omega), tw_i5_0]
  · rw [tw_i8_o (by omega) (by omega) (by omega), tw_i5_1]
  · rw [tw_i8_o (by omega) (by omega) (by omega), tw_i5_2]
  · rw [tw_i8_o (by omega) (by omega) (by omega), tw_i5_3]
  · intro y hy
    rw [tw_i8_6, if_neg hy, oA 6 y (by omega)]
  · rw [tw_i8_6, if_pos rfl]
  · intro y hy
    have hTb := hli.2.2.1 b hbL
    rw [tw_i8_4, if_neg (fun z => by omega), oA 4 y (by omega)]
    exact hfs y (by omega)
  · refine tw_put hli htr hbL hsw.1 hsw.2.1 hgt hend2 hbx hnx hsw.2.2.2 hla n1 ?_ (fun y hy => ?_) ?_ ?_ (fun h0 => ?_) (fun y hy h => ?_) ?_ (fun h0 => ?_) (fun y h1 hy hne => ?_)
    · unfold tw_n
      rw [tw_i8_o (by omega) (by omega) (by omega), tw_i8_o (by omega) (by omega) (by omega), tw_i5_0, tw_i5_1]
    · rw [tw_i8_6, if_neg (by omega), oA 6 y (by omega)]
    · rw [tw_i8_6, if_pos rfl]
    · have hTb := hli.2.2.1 b hbL
      rw [tw_i8_4, if_neg (fun z => by omega), oA 4 _ (by omega)]
      exact hfs _ (Nat.le_refl _)
    · rw [tw_i8_4, if_pos ⟨h0, rfl⟩]
    · rw [tw_i8_4, if_neg (fun z => h z.1 z.2), oA 4 y (by omega)]
    · have hlL : last ≠ st 13 1 := by
        rcases hla with ⟨e, -⟩ | ⟨i, i1, i2, i3, -⟩
        · omega
        · have := hli.2.2.1 i (by have := hsw.2.1; omega)
          omega
      rw [tw_i8_5, if_neg (fun z => hlL z.2.symm), if_pos rfl]
    · rw [tw_i8_5, if_pos ⟨h0, rfl⟩]
    · rw [tw_i8_5, if_neg (fun z => hne z.2), if_neg (by omega), oA 5 y (by omega)]
  · intro c y h1 h2
    rw [tw_i8_o (by omega) (by omega) (by omega), tw_i5_o (by omega) (by omega), oA c y (by omega)]
  · rw [tw_i8_o (by omega) (by omega) (by omega), tw_i5_o (by omega) (by omega)]
    exact hA0
