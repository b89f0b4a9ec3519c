/-! What the class's calls answer, in words of its state. -/
theorem tw_add_o {st : Nat → Nat → Nat} {a t k y : Nat} (h : (2 < k ∧ k < 9) ∨ 24 ≤ k ∨ (k = 9 ∧ y ≠ 0)) (ha : a < 4) : tw_add st a t k y = st k y := by
  unfold tw_add
  have e1 : tw_up (tw_up (tw_hadK st (tw_add3 st a t) a (st 9 0) 4) (20 + a) (st (24 + a) a) (st 9 0)) 9 0 (st 9 0 + 1) k y = tw_up (tw_hadK st (tw_add3 st a t) a (st 9 0) 4) (20 + a) (st (24 + a) a) (st 9 0) k y := by
    by_cases g : k = 9
    · exact tw_up_i (by omega)
    · exact tw_up_k g
  rw [e1, tw_up_k (by omega), tw_hadK_o (by omega) (by omega), tw_add3_o (by omega)]
theorem tw_add_l {st : Nat → Nat → Nat} {a t k y : Nat} (h : k ≤ 2) (ha : a < 4) : tw_add st a t k y = tw_add3 st a t k y := by
  unfold tw_add
  rw [tw_up_k (by omega), tw_up_k (by omega), tw_hadK_o (by omega) (by omega)]
theorem tw_add_0 {st : Nat → Nat → Nat} {a t : Nat} (ha : a < 4) : tw_add st a t 0 (st 9 0) = a := by
  rw [tw_add_l (by omega) ha]; unfold tw_add3; rw [tw_up_k (by omega), tw_up_k (by omega), tw_up_e]
theorem tw_add_1 {st : Nat → Nat → Nat} {a t : Nat} (ha : a < 4) : tw_add st a t 1 (st 9 0) = st (24 + a) a := by
  rw [tw_add_l (by omega) ha]; unfold tw_add3; rw [tw_up_k (by omega), tw_up_e]
theorem tw_add_2 {st : Nat → Nat → Nat} {a t : Nat} (ha : a < 4) : tw_add st a t 2 (st 9 0) = t := by
  rw [tw_add_l (by omega) ha]; unfold tw_add3; rw [tw_up_e]
theorem tw_add_9 {st : Nat → Nat → Nat} {a t : Nat} : tw_add st a t 9 0 = st 9 0 + 1 := by unfold tw_add; rw [tw_up_e]
/-- .. with its byte and name -/
def tw_new (st : Nat → Nat → Nat) (a b : Nat) : Nat → Nat → Nat := tw_up (tw_up (tw_add st a 0) 3 (st 9 0) b) 4 (st 9 0) (4 * (st 7 a + 1) + a)
theorem tw_new_o {st : Nat → Nat → Nat} {a b k y : Nat} (h : k ≠ 3) (h2 : k ≠ 4) : tw_new st a b k y = tw_add st a 0 k y := by unfold tw_new; rw [tw_up_k h2, tw_up_k h]
theorem tw_new_4 {st : Nat → Nat → Nat} {a b y : Nat} (ha : a < 4) : tw_new st a b 4 y = if y = st 9 0 then 4 * (st 7 a + 1) + a else st 4 y := by
  unfold tw_new
  by_cases g : y = st 9 0
  · rw [if_pos g, g, tw_up_e]
  · rw [if_neg g, tw_up_i g, tw_up_k (by omega), tw_add_o (by omega) ha]
theorem tw_wv_o {st : Nat → Nat → Nat} {q i k y : Nat} (h : k ≠ 6) (h2 : k ≠ 9 ∨ y ≠ 1) : tw_wv st q i k y = st k y := by
  unfold tw_wv
  have e : tw_up (tw_up (tw_mv st q) 6 q i) 9 1 (st 9 1 + 1) k y = tw_up (tw_mv st q) 6 q i k y := by
    by_cases g : k = 9
    · exact tw_up_i (by omega)
    · exact tw_up_k g
  rw [e, tw_up_k h]
  unfold tw_mv
  rw [if_neg h]
theorem tw_wv_9 {st : Nat → Nat → Nat} {q i : Nat} : tw_wv st q i 9 1 = st 9 1 + 1 := by unfold tw_wv; rw [tw_up_e]
theorem tw_wv_6 {st : Nat → Nat → Nat} {q i p : Nat} (hp : p < st 9 1 + 1) : tw_wv st q i 6 p = tw_ins (st 6) q i p := by
  unfold tw_wv
  rw [tw_up_k (by omega)]
  rcases Nat.lt_trichotomy p q with g | g | g
  · rw [tw_up_i (by omega), tw_ins_lt g]
    unfold tw_mv
    rw [if_pos rfl, if_neg (by omega)]
  · rw [g, tw_up_e, tw_ins_eq]
  · rw [tw_up_i (by omega), tw_ins_gt g]
    unfold tw_mv
    rw [if_pos rfl, if_pos (by omega)]
def tw_nc (v : Int32) : Prop := v < 0 ∨ nI 3 < v
theorem tw_up_of {v : Int32} {n : Nat} (hn : n < 2147483648) (h : ¬ v < 0 ∧ v ≤ nI n) : ∃ k, k ≤ n ∧ v = nI k := nI_of2 (nI_toInt hn) h.1 h.2
theorem tw_copy {v : Int32} (h : ¬ v < 0 ∧ v ≤ nI 3) : ∃ a, a < 4 ∧ v = nI a := by
  obtain ⟨k, h1, h2⟩ := tw_up_of (by decide) h
  exact ⟨k, by omega, h2⟩
theorem tw_max_i {v : Int32} : ¬ (2147483647 : Int32) < v := by
  intro h
  have h1 := Int32.lt_iff_toInt_lt.mp h
  have h2 : (2147483647 : Int32).toInt = 2147483647 := by decide
  have h3 := Int32.toInt_lt v
  omega
/-- numbers that the class's state keeps to -/
def tw_bd (md : Nat → Nat) (st : Nat → Nat → Nat) : Prop :=
  st 9 1 ≤ 512 ∧ (∀ p, p < st 9 1 → st 6 p < 512) ∧ (∀ i, st 5 i < 16) ∧ (∀ c m, c < 4 → m < 4 → st (24 + c) m ≤ 400) ∧ (∀ c, c < 4 → st 8 c ≤ 512 ∧ st 7 c ≤ 512) ∧
  (∀ i, i < st 9 0 → i < 512 ∧ st 0 i < 4 ∧ st 1 i < 400 ∧ (∀ j, st 2 i = j + 1 → j < 512) ∧ st 2 i < 2147483648 ∧ ∀ m, m < 4 → st (16 + m) i < 2147483648) ∧
  (∀ c k, c < 4 → k < md c → st (20 + c) k < st 9 0) ∧ (∀ c j, c < 4 → (st 5 j).testBit c = true → 1 ≤ st 8 c)
theorem tw_bd_of {md : Nat → Nat} {st : Nat → Nat → Nat} (h : tw_ci md st) (hn : st 9 0 ≤ 512) : tw_bd md st := by
  obtain ⟨⟨l1, l2, l3, l4, l5⟩, ⟨k1, k2⟩, ⟨b1, b2, b3⟩, ho, hg⟩ := h
  have ho2 := ho
  obtain ⟨o1, o2, o3, o4, o5⟩ := ho
  refine ⟨by omega, fun p hp => by have := (o2 p hp).1; omega, b1, fun c m hc hm => by have := k1 c m hc hm; have := l3 m hm; omega, fun c hc => ⟨by rw [b3 c hc]; have := tw_cn_le (fun p => (st 5 (st 6 p)).testBit c) (st 9 1); omega, by have := tw_gr_le ho2 hg hc; omega⟩, fun i hi => ?_, fun c k hc hk => (l1 c k hc hk).1, fun c j hc hb => ?_⟩
  · obtain ⟨x1, x2, x3⟩ := l2 i hi
    refine ⟨by omega, x1, by have := l3 _ x1; omega, fun j hj => by have := (l5 i j hi hj).1; omega, ?_, fun m hm => ?_⟩
    · rcases Nat.eq_zero_or_pos (st 2 i) with g | g
      · omega
      · have := (l5 i (st 2 i - 1) hi (by omega)).1
        omega
    · rcases Nat.lt_or_ge (st (16 + m) i) 2147483648 with g | g
      · exact g
      · have := ((l4 i hi).2 m 400 hm (by omega)).1
        have := l3 m hm
        omega
  · obtain ⟨x1, x2, -, -⟩ := (b2 j c hc).mp hb
    obtain ⟨p, p1, p2⟩ := o4 j x1 x2
    rw [b3 c hc]
    have : tw_cn (fun p => (st 5 (st 6 p)).testBit c) p < tw_cn (fun p => (st 5 (st 6 p)).testBit c) (st 9 1) := tw_cn_lt p1 (by rw [p2]; exact hb)
    omega
def tw_pl (st : Nat → Nat → Nat) (a : Nat) (t r : Int32) (g : Nat → Nat) : Prop := (∃ p, p < st 9 1 ∧ tw_f st a p = true ∧ t = nI (tw_cn (tw_f st a) p) ∧ r = nI (g p)) ∨ (r = -1 ∧ ∀ p, p < st 9 1 → tw_f st a p = true → t ≠ nI (tw_cn (tw_f st a) p))
/-- which place stands behind place b (counted from 1, 0 the START) of text letter k -/
def tw_bh (st : Nat → Nat → Nat) (a k b : Nat) : Prop := (k = 0 ∧ b = 0) ∨ ∃ p, p < st 9 1 ∧ tw_f st a p = true ∧ tw_cn (tw_f st a) p + 1 = k ∧ b = p + 1
def tw_okIns (st : Nat → Nat → Nat) (v t b r : Int32) (u : Nat → Nat → Nat) : Prop :=
  ∃ a k d bh q, a < 4 ∧ v = nI a ∧ k ≤ st 8 a ∧ t = nI k ∧ d ≤ 255 ∧ b = nI d ∧ st (24 + a) a < 400 ∧ st 9 0 < 512 ∧ r = nI (st (24 + a) a) ∧ tw_bh st a k bh ∧ bh ≤ q ∧ q ≤ st 9 1 ∧
    (∀ j, bh ≤ j → j < q → tw_new st a d 4 (st 9 0) < tw_new st a d 4 (st 6 j)) ∧ (q < st 9 1 → tw_new st a d 4 (st 6 q) ≤ tw_new st a d 4 (st 9 0)) ∧ u = tw_rcv (tw_wv (tw_new st a d) q (st 9 0)) a (st 9 0)
def tw_pxIns (st : Nat → Nat → Nat) (v t b : Int32) (u : Nat) : Prop :=
  (u = 1 ∧ (tw_nc v ∨ ∃ a, a < 4 ∧ v = nI a ∧ (t < 0 ∨ nI (st 8 a) < t ∨ b < 0 ∨ nI 255 < b))) ∨ (u = 2 ∧ ∃ a k d, a < 4 ∧ v = nI a ∧ k ≤ st 8 a ∧ t = nI k ∧ d ≤ 255 ∧ b = nI d ∧ (400 ≤ st (24 + a) a ∨ 512 ≤ st 9 0))
def tw_okRem (st : Nat → Nat → Nat) (v t r : Int32) (u : Nat → Nat → Nat) : Prop :=
  ∃ a p, a < 4 ∧ v = nI a ∧ p < st 9 1 ∧ tw_f st a p = true ∧ t = nI (tw_cn (tw_f st a) p) ∧ st (24 + a) a < 400 ∧ st 9 0 < 512 ∧ r = nI (st (24 + a) a) ∧ u = tw_rcv (tw_add st a (st 6 p + 1)) a (st 9 0)
def tw_pxRem (st : Nat → Nat → Nat) (v t : Int32) (u : Nat) : Prop :=
  (u = 1 ∧ (tw_nc v ∨ ∃ a, a < 4 ∧ v = nI a ∧ ∀ p, p < st 9 1 → tw_f st a p = true → t ≠ nI (tw_cn (tw_f st a) p))) ∨ (u = 2 ∧ ∃ a p, a < 4 ∧ v = nI a ∧ p < st 9 1 ∧ tw_f st a p = true ∧ t = nI (tw_cn (tw_f st a) p) ∧ (400 ≤ st (24 + a) a ∨ 512 ≤ st 9 0))
def tw_okBr (st : Nat → Nat → Nat) (v t w : Int32) (u : Nat → Nat → Nat) : Prop :=
  ∃ a b k, a < 4 ∧ v = nI a ∧ b < 4 ∧ w = nI b ∧ a ≠ b ∧ k < st (24 + a) a ∧ t = nI k ∧ ((tw_has st b (st (20 + a) k) ∧ u = st) ∨ (¬ tw_has st b (st (20 + a) k) ∧ (∀ j, j < 4 → st (16 + j) (st (20 + a) k) ≤ st (24 + b) j) ∧ u = tw_rcv st b (st (20 + a) k)))
def tw_pxBr (st : Nat → Nat → Nat) (v t w : Int32) (u : Nat) : Prop :=
  (u = 1 ∧ (tw_nc v ∨ tw_nc w ∨ v = w ∨ ∃ a, a < 4 ∧ v = nI a ∧ (t < 0 ∨ nI (st (24 + a) a) - nI 1 < t))) ∨ (u = 2 ∧ ∃ a b k, a < 4 ∧ v = nI a ∧ b < 4 ∧ w = nI b ∧ a ≠ b ∧ k < st (24 + a) a ∧ t = nI k ∧ ¬ tw_has st b (st (20 + a) k) ∧ ¬ ∀ j, j < 4 → st (16 + j) (st (20 + a) k) ≤ st (24 + b) j)
theorem tw_m1le {t : Int32} {n : Nat} (hn : n < 2147483648) (h : ¬ t < 0 ∧ t ≤ nI n - nI 1) : ∃ k, k < n ∧ t = nI k := by
  rcases Nat.eq_zero_or_pos n with g | g
  · rw [g] at h
    have h1 : nI 0 - nI 1 = (-1 : Int32) := by decide
    rw [h1] at h
    have h2 := Int32.le_iff_toInt_le.mp h.2
    have h3 : ¬ t.toInt < 0 := fun q => h.1 (Int32.lt_iff_toInt_lt.mpr (by simpa using q))
    have h4 : (-1 : Int32).toInt = -1 := by decide
    omega
  · rw [pk_sub g] at h
    obtain ⟨k, h1, h2⟩ := tw_up_of (by omega) h
    exact ⟨k, by omega, h2⟩
