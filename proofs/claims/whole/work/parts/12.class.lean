/-! The class's state s: component, index -> number. 0 maker, 1 number, 2 taken (0: none, j+1: letter j), 3 bytes, 4 names, 5 shownIn, 6 order, 7 greatest, 8 lengths; 9: changes, letters; 16+ had, 20+ own, 24+ known. md: how many changes a copy has made. -/
def tw_log (md : Nat → Nat) (s : Nat → Nat → Nat) : Prop :=
  (∀ c k, c < 4 → k < md c → s (20 + c) k < s 9 0 ∧ s 0 (s (20 + c) k) = c ∧ s 1 (s (20 + c) k) = k) ∧
  (∀ i, i < s 9 0 → s 0 i < 4 ∧ s 1 i < md (s 0 i) ∧ s (20 + s 0 i) (s 1 i) = i) ∧
  (∀ c, c < 4 → md c ≤ 400) ∧
  (∀ i, i < s 9 0 → s (16 + s 0 i) i = s 1 i ∧ ∀ m k, m < 4 → k < s (16 + m) i → k < md m ∧ s (20 + m) k < i) ∧
  (∀ i j, i < s 9 0 → s 2 i = j + 1 → j < i ∧ s 2 j = 0 ∧ s 1 j < s (16 + s 0 j) i)
def tw_has (s : Nat → Nat → Nat) (c i : Nat) : Prop := s 1 i < s (24 + c) (s 0 i)
def tw_kn (md : Nat → Nat) (s : Nat → Nat → Nat) : Prop :=
  (∀ c m, c < 4 → m < 4 → s (24 + c) m ≤ md m) ∧
  (∀ c i, c < 4 → i < s 9 0 → tw_has s c i → ∀ m, m < 4 → s (16 + m) i ≤ s (24 + c) m)
def tw_shows (s : Nat → Nat → Nat) (c i : Nat) : Prop := i < s 9 0 ∧ s 2 i = 0 ∧ tw_has s c i ∧ ∀ j, j < s 9 0 → s 2 j = i + 1 → ¬ tw_has s c j
def tw_shn (s : Nat → Nat → Nat) : Prop :=
  (∀ i, s 5 i < 16) ∧ (∀ i c, c < 4 → ((s 5 i).testBit c = true ↔ tw_shows s c i)) ∧
  (∀ c, c < 4 → s 8 c = tw_cn (fun p => (s 5 (s 6 p)).testBit c) (s 9 1))
def tw_ord (s : Nat → Nat → Nat) : Prop :=
  s 9 1 ≤ s 9 0 ∧ (∀ p, p < s 9 1 → s 6 p < s 9 0 ∧ s 2 (s 6 p) = 0) ∧ (∀ p q, p < s 9 1 → q < s 9 1 → s 6 p = s 6 q → p = q) ∧ (∀ i, i < s 9 0 → s 2 i = 0 → ∃ p, p < s 9 1 ∧ s 6 p = i) ∧
  (∀ i, i < s 9 0 → s 2 i = 0 → 4 ≤ s 4 i ∧ s 4 i % 4 = s 0 i ∧ s 4 i / 4 ≤ i + 1)
def tw_gr (s : Nat → Nat → Nat) : Prop :=
  ∀ c, c < 4 → (∀ i, i < s 9 0 → s 2 i = 0 → tw_has s c i → s 4 i / 4 ≤ s 7 c) ∧ (s 7 c = 0 ∨ ∃ i, i < s 9 0 ∧ s 2 i = 0 ∧ tw_has s c i ∧ s 4 i / 4 = s 7 c)
def tw_ci (md : Nat → Nat) (s : Nat → Nat → Nat) : Prop := tw_log md s ∧ tw_kn md s ∧ tw_shn s ∧ tw_ord s ∧ tw_gr s
/-- text letter p of copy c is shown -/
def tw_f (s : Nat → Nat → Nat) (c : Nat) : Nat → Bool := fun p => (s 5 (s 6 p)).testBit c
/-- a change comes to a copy -/
def tw_rcv (s : Nat → Nat → Nat) (c i : Nat) : Nat → Nat → Nat :=
  if s 2 i = 0 then tw_up (tw_up (tw_up (tw_up s (24 + c) (s 0 i) (s 1 i + 1)) 5 i (tw_on (s 5 i) c)) 8 c (s 8 c + 1)) 7 c (max (s 7 c) (s 4 i / 4))
  else if (s 5 (s 2 i - 1)).testBit c = true then tw_up (tw_up (tw_up s (24 + c) (s 0 i) (s 1 i + 1)) 5 (s 2 i - 1) (tw_off (s 5 (s 2 i - 1)) c)) 8 c (s 8 c - 1)
  else tw_up s (24 + c) (s 0 i) (s 1 i + 1)
theorem tw_rcv_o {s : Nat → Nat → Nat} {c i k x : Nat} (h : k < 5 ∨ k = 6 ∨ (8 < k ∧ k < 24)) : tw_rcv s c i k x = s k x := by
  have h1 : k ≠ 24 + c := by omega
  have h2 : k ≠ 5 := by omega
  have h3 : k ≠ 7 := by omega
  have h4 : k ≠ 8 := by omega
  unfold tw_rcv
  split
  · rw [tw_up_k h3, tw_up_k h4, tw_up_k h2, tw_up_k h1]
  · split
    · rw [tw_up_k h4, tw_up_k h2, tw_up_k h1]
    · rw [tw_up_k h1]
theorem tw_rcv_k {s : Nat → Nat → Nat} {c i d x : Nat} : tw_rcv s c i (24 + d) x = if d = c ∧ x = s 0 i then s 1 i + 1 else s (24 + d) x := by
  have h2 : 24 + d ≠ 5 := by omega
  have h3 : 24 + d ≠ 7 := by omega
  have h4 : 24 + d ≠ 8 := by omega
  have h0 : tw_rcv s c i (24 + d) x = tw_up s (24 + c) (s 0 i) (s 1 i + 1) (24 + d) x := by
    unfold tw_rcv
    split
    · rw [tw_up_k h3, tw_up_k h4, tw_up_k h2]
    · split
      · rw [tw_up_k h4, tw_up_k h2]
      · rfl
  rw [h0]
  by_cases e : d = c
  · subst e
    by_cases g : x = s 0 i
    · rw [if_pos ⟨rfl, g⟩, g, tw_up_e]
    · rw [if_neg (fun z => g z.2), tw_up_i g]
  · rw [if_neg (fun z => e z.1), tw_up_k (by omega)]
/-- what copy c has behind it: the same, and i -/
theorem tw_rcv_has {md : Nat → Nat} {s : Nat → Nat → Nat} (h : tw_log md s) {c i : Nat} (hi : i < s 9 0) (hk : s 1 i = s (24 + c) (s 0 i)) {d j : Nat} (hj : j < s 9 0) : tw_has (tw_rcv s c i) d j ↔ tw_has s d j ∨ (d = c ∧ j = i) := by
  unfold tw_has
  rw [tw_rcv_k, tw_rcv_o (by omega), tw_rcv_o (by omega)]
  by_cases e : d = c ∧ s 0 j = s 0 i
  · rw [if_pos e]
    obtain ⟨rfl, e2⟩ := e
    constructor
    · intro g
      rcases Nat.lt_or_ge (s 1 j) (s 1 i) with z | z
      · left; rw [e2, ← hk]; exact z
      · right
        refine ⟨rfl, ?_⟩
        have h1 := (h.2.1 i hi).2.2
        have h2 := (h.2.1 j hj).2.2
        have h3 : s 1 j = s 1 i := by omega
        rw [e2, h3, h1] at h2
        exact h2.symm
    · rintro (g | ⟨-, rfl⟩)
      · rw [e2, ← hk] at g; omega
      · omega
  · rw [if_neg e]
    constructor
    · exact Or.inl
    · rintro (g | ⟨rfl, rfl⟩)
      · exact g
      · exact absurd ⟨rfl, rfl⟩ e
theorem tw_rcv_ci {md : Nat → Nat} {s : Nat → Nat → Nat} (h : tw_ci md s) {c i : Nat} (hc : c < 4) (hi : i < s 9 0) (hk : s 1 i = s (24 + c) (s 0 i)) (hh : ∀ m, m < 4 → s (16 + m) i ≤ s (24 + c) m) : tw_ci md (tw_rcv s c i) := by
  obtain ⟨hlog, hkn, hsh, hor, hgr⟩ := h
  have has : ∀ {d j : Nat}, j < s 9 0 → (tw_has (tw_rcv s c i) d j ↔ tw_has s d j ∨ (d = c ∧ j = i)) := fun hj => tw_rcv_has hlog hi hk hj
  have e0 : ∀ x, tw_rcv s c i 0 x = s 0 x := fun x => tw_rcv_o (by omega)
  have e1 : ∀ x, tw_rcv s c i 1 x = s 1 x := fun x => tw_rcv_o (by omega)
  have e2 : ∀ x, tw_rcv s c i 2 x = s 2 x := fun x => tw_rcv_o (by omega)
  have e4 : ∀ x, tw_rcv s c i 4 x = s 4 x := fun x => tw_rcv_o (by omega)
  have e6 : ∀ x, tw_rcv s c i 6 x = s 6 x := fun x => tw_rcv_o (by omega)
  have e9 : ∀ x, tw_rcv s c i 9 x = s 9 x := fun x => tw_rcv_o (by omega)
  have e16 : ∀ m x, m < 4 → tw_rcv s c i (16 + m) x = s (16 + m) x := fun m x hm => tw_rcv_o (by omega)
  have e20 : ∀ m x, m < 4 → tw_rcv s c i (20 + m) x = s (20 + m) x := fun m x hm => tw_rcv_o (by omega)
  have hlog2 := hlog
  obtain ⟨l1, l2, l3, l4, l5⟩ := hlog
  obtain ⟨k1, k2⟩ := hkn
  obtain ⟨b1, b2, b3⟩ := hsh
  obtain ⟨o1, o2, o3, o4, o5⟩ := hor
  obtain ⟨mi, ni, oi⟩ := l2 i hi
  have hnot : ¬ tw_has s c i := by unfold tw_has; omega
  -- what the bits say behind it
  have shw : ∀ x d, d < 4 → (tw_shows (tw_rcv s c i) d x ↔ (d ≠ c ∧ tw_shows s d x) ∨ (d = c ∧ ((s 2 i = 0 ∧ x = i) ∨ (tw_shows s c x ∧ s 2 i ≠ x + 1)))) := by
    intro x d hd
    unfold tw_shows
    rw [e9, e2]
    by_cases e : d = c
    · subst e
      constructor
      · rintro ⟨a1, a2, a3, a4⟩
        refine Or.inr ⟨rfl, ?_⟩
        rcases (has a1).mp a3 with g | ⟨-, g⟩
        · refine Or.inr ⟨⟨a1, a2, g, fun j hj e2j q => a4 j hj (by rw [e2]; exact e2j) ((has hj).mpr (Or.inl q))⟩, fun z => ?_⟩
          exact a4 i hi (by rw [e2]; exact z) ((has hi).mpr (Or.inr ⟨rfl, rfl⟩))
        · exact Or.inl ⟨by rw [← g]; exact a2, g⟩
      · rintro (⟨g, -⟩ | ⟨-, ⟨g1, rfl⟩ | ⟨⟨a1, a2, a3, a4⟩, g2⟩⟩)
        · exact absurd rfl g
        · refine ⟨hi, g1, (has hi).mpr (Or.inr ⟨rfl, rfl⟩), fun j hj e2j q => ?_⟩
          rw [e2] at e2j
          rcases (has hj).mp q with z | ⟨-, z⟩
          · have hx := k2 d j hd hj z (s 0 x) mi
            have hy := (l5 j x hj e2j).2.2
            omega
          · rw [z] at e2j; omega
        · refine ⟨a1, a2, (has a1).mpr (Or.inl a3), fun j hj e2j q => ?_⟩
          rw [e2] at e2j
          rcases (has hj).mp q with z | ⟨-, z⟩
          · exact a4 j hj e2j z
          · rw [z] at e2j; exact g2 e2j
    · constructor
      · rintro ⟨a1, a2, a3, a4⟩
        refine Or.inl ⟨e, a1, a2, ?_, fun j hj e2j q => a4 j hj (by rw [e2]; exact e2j) ((has hj).mpr (Or.inl q))⟩
        rcases (has a1).mp a3 with g | ⟨g, -⟩
        · exact g
        · exact absurd g e
      · rintro (⟨-, a1, a2, a3, a4⟩ | ⟨g, -⟩)
        · refine ⟨a1, a2, (has a1).mpr (Or.inl a3), fun j hj e2j q => ?_⟩
          rw [e2] at e2j
          rcases (has hj).mp q with z | ⟨z, -⟩
          · exact a4 j hj e2j z
          · exact e z
        · exact absurd g e
  refine ⟨⟨fun a k ha hk9 => ?_, fun j hj => ?_, l3, fun j hj => ?_, fun j x hj e => ?_⟩, ⟨fun d m hd hm => ?_, fun d j hd hj q m hm => ?_⟩, ?_, ⟨?_, ?_, ?_, ?_, ?_⟩, fun d hd => ⟨fun j hj z q => ?_, ?_⟩⟩
  · rw [e20 a k ha, e9, e0, e1]; exact l1 a k ha hk9
  · rw [e9] at hj
    rw [e0, e1, e20 _ _ (l2 j hj).1]; exact l2 j hj
  · rw [e9] at hj
    obtain ⟨x1, x2⟩ := l4 j hj
    rw [e0, e1, e16 _ _ (l2 j hj).1]
    refine ⟨x1, fun m k hm z => ?_⟩
    rw [e16 m j hm] at z
    rw [e20 m k hm]
    exact x2 m k hm z
  · rw [e9] at hj
    rw [e2] at e
    obtain ⟨x1, x2, x3⟩ := l5 j x hj e
    rw [e2, e1, e0, e16 _ _ (l2 x (by omega)).1]
    exact ⟨x1, x2, x3⟩
  · rw [tw_rcv_k]
    split
    · rename_i z; rw [z.2]; omega
    · exact k1 d m hd hm
  · rw [e9] at hj
    rw [e16 m j hm, tw_rcv_k]
    rcases (has hj).mp q with z | ⟨rfl, rfl⟩
    · have := k2 d j hd hj z m hm
      split
      · rename_i g; obtain ⟨rfl, rfl⟩ := g; omega
      · exact this
    · have := hh m hm
      split
      · rename_i g; rw [g.2] at this; rw [g.2]; omega
      · exact this
  · -- the bits and the lengths
    by_cases t0 : s 2 i = 0
    · have e5 : ∀ x, tw_rcv s c i 5 x = if x = i then tw_on (s 5 i) c else s 5 x := by
        intro x
        unfold tw_rcv
        rw [if_pos t0, tw_up_k (by omega), tw_up_k (by omega)]
        by_cases g : x = i
        · rw [if_pos g, g, tw_up_e]
        · rw [if_neg g, tw_up_i g, tw_up_k (by omega)]
      have e8 : ∀ x, tw_rcv s c i 8 x = if x = c then s 8 c + 1 else s 8 x := by
        intro x
        unfold tw_rcv
        rw [if_pos t0, tw_up_k (by omega)]
        by_cases g : x = c
        · rw [if_pos g, g, tw_up_e]
        · rw [if_neg g, tw_up_i g, tw_up_k (by omega), tw_up_k (by omega)]
      have hbit : ∀ x d, d < 4 → (tw_rcv s c i 5 x).testBit d = ((s 5 x).testBit d || decide (x = i ∧ d = c)) := by
        intro x d hd
        rw [e5]
        by_cases g : x = i
        · rw [if_pos g, tw_on_b _ (b1 i) c hc d hd, g]
          simp
        · rw [if_neg g]
          simp [g]
      refine ⟨fun x => ?_, fun x d hd => ?_, fun d hd => ?_⟩
      · rw [e5]
        split
        · exact tw_on_lt _ (b1 i) c hc
        · exact b1 x
      · rw [hbit x d hd, shw x d hd, Bool.or_eq_true, b2 x d hd, decide_eq_true_iff]
        constructor
        · rintro (g | ⟨rfl, rfl⟩)
          · by_cases z : d = c
            · subst z; exact Or.inr ⟨rfl, Or.inr ⟨g, by omega⟩⟩
            · exact Or.inl ⟨z, g⟩
          · exact Or.inr ⟨rfl, Or.inl ⟨t0, rfl⟩⟩
        · rintro (⟨-, g⟩ | ⟨rfl, ⟨-, rfl⟩ | ⟨g, -⟩⟩)
          · exact Or.inl g
          · exact Or.inr ⟨rfl, rfl⟩
          · exact Or.inl g
      · rw [e8, e9]
        obtain ⟨p0, hp0, hpi⟩ := o4 i hi t0
        by_cases g : d = c
        · subst g
          rw [if_pos rfl, b3 d hd]
          refine (tw_cn_one hp0 ?_ ?_ fun p hp hn => ?_).symm
          · rw [hpi]
            cases hb : (s 5 i).testBit d with
            | false => rfl
            | true => exact absurd ((b2 i d hd).mp hb).2.2.1 hnot
          · rw [e6, hpi, hbit i d hd]
            simp
          · rw [e6, hbit _ d hd]
            have : ¬ s 6 p = i := fun z => hn (o3 p p0 hp hp0 (by rw [z, hpi]))
            simp [this]
        · rw [if_neg g, b3 d hd]
          refine tw_cn_congr fun p hp => ?_
          rw [e6, hbit _ d hd]
          simp [g]
    · obtain ⟨y, hy⟩ : ∃ y, s 2 i = y + 1 := ⟨s 2 i - 1, by omega⟩
      obtain ⟨y1, y2, y3⟩ := l5 i y hi hy
      have hys : s 2 i - 1 = y := by omega
      have e5 : ∀ x, tw_rcv s c i 5 x = if x = y ∧ (s 5 y).testBit c = true then tw_off (s 5 y) c else s 5 x := by
        intro x
        unfold tw_rcv
        rw [if_neg t0, hys]
        by_cases gb : (s 5 y).testBit c = true
        · rw [if_pos gb, tw_up_k (by omega)]
          by_cases g : x = y
          · rw [if_pos ⟨g, gb⟩, g, tw_up_e]
          · rw [if_neg (fun z => g z.1), tw_up_i g, tw_up_k (by omega)]
        · rw [if_neg gb, if_neg (fun z => gb z.2), tw_up_k (by omega)]
      have e8 : ∀ x, tw_rcv s c i 8 x = if x = c ∧ (s 5 y).testBit c = true then s 8 c - 1 else s 8 x := by
        intro x
        unfold tw_rcv
        rw [if_neg t0, hys]
        by_cases gb : (s 5 y).testBit c = true
        · rw [if_pos gb]
          by_cases g : x = c
          · rw [if_pos ⟨g, gb⟩, g, tw_up_e]
          · rw [if_neg (fun z => g z.1), tw_up_i g, tw_up_k (by omega), tw_up_k (by omega)]
        · rw [if_neg gb, if_neg (fun z => gb z.2), tw_up_k (by omega)]
      have hbit : ∀ x d, d < 4 → (tw_rcv s c i 5 x).testBit d = ((s 5 x).testBit d && !decide (x = y ∧ d = c)) := by
        intro x d hd
        rw [e5]
        by_cases g : x = y ∧ (s 5 y).testBit c = true
        · rw [if_pos g, tw_off_b _ (b1 y) c hc d hd, g.1]
          simp
        · rw [if_neg g]
          by_cases z : x = y ∧ d = c
          · obtain ⟨rfl, rfl⟩ := z
            have : (s 5 x).testBit d = false := by
              cases hb : (s 5 x).testBit d with
              | false => rfl
              | true => exact absurd ⟨rfl, hb⟩ g
            simp [this]
          · simp [z]
      refine ⟨fun x => ?_, fun x d hd => ?_, fun d hd => ?_⟩
      · rw [e5]
        split
        · exact tw_off_lt _ (b1 y) c hc
        · exact b1 x
      · rw [hbit x d hd, shw x d hd, Bool.and_eq_true, b2 x d hd, Bool.not_eq_true', decide_eq_false_iff_not]
        constructor
        · rintro ⟨g, z⟩
          by_cases w : d = c
          · subst w
            refine Or.inr ⟨rfl, Or.inr ⟨g, fun v => z ⟨by omega, rfl⟩⟩⟩
          · exact Or.inl ⟨w, g⟩
        · rintro (⟨z, g⟩ | ⟨rfl, ⟨z, -⟩ | ⟨g, z⟩⟩)
          · exact ⟨g, fun w => z w.2⟩
          · exact absurd z t0
          · exact ⟨g, fun w => z (by rw [hy, w.1])⟩
      · rw [e8, e9]
        obtain ⟨p0, hp0, hpi⟩ := o4 y (by omega) y2
        by_cases g : d = c ∧ (s 5 y).testBit c = true
        · obtain ⟨rfl, gb⟩ := g
          rw [if_pos ⟨rfl, gb⟩, b3 d hd]
          have h1 : tw_cn (fun p => (s 5 (s 6 p)).testBit d) (s 9 1) = tw_cn (fun p => (tw_rcv s d i 5 (tw_rcv s d i 6 p)).testBit d) (s 9 1) + 1 := by
            refine tw_cn_one hp0 ?_ ?_ fun p hp hn => ?_
            · rw [e6, hpi, hbit y d hd]
              simp
            · rw [hpi]; exact gb
            · rw [e6, hbit _ d hd]
              have : ¬ s 6 p = y := fun z => hn (o3 p p0 hp hp0 (by rw [z, hpi]))
              simp [this]
          omega
        · rw [if_neg g, b3 d hd]
          refine tw_cn_congr fun p hp => ?_
          rw [e6, hbit _ d hd]
          by_cases z : s 6 p = y ∧ d = c
          · obtain ⟨z1, rfl⟩ := z
            have : (s 5 y).testBit d = false := by
              cases hb : (s 5 y).testBit d with
              | false => rfl
              | true => exact absurd ⟨rfl, hb⟩ g
            rw [z1, this]
            simp
          · simp [z]
  · rw [e9, e9]; exact o1
  · intro p hp
    rw [e9] at hp
    rw [e6, e9, e2]; exact o2 p hp
  · intro p q hp hq z
    rw [e9] at hp hq
    rw [e6, e6] at z
    exact o3 p q hp hq z
  · intro x hx z
    rw [e9] at hx
    rw [e2] at z
    obtain ⟨p, hp, hpx⟩ := o4 x hx z
    exact ⟨p, by rw [e9]; exact hp, by rw [e6]; exact hpx⟩
  · intro x hx z
    rw [e9] at hx
    rw [e2] at z
    rw [e4, e0]
    exact o5 x hx z
  · rw [e9] at hj
    rw [e2] at z
    rw [e4]
    have e7 : tw_rcv s c i 7 d = if d = c ∧ s 2 i = 0 then max (s 7 c) (s 4 i / 4) else s 7 d := by
      unfold tw_rcv
      by_cases t0 : s 2 i = 0
      · rw [if_pos t0]
        by_cases g : d = c
        · rw [if_pos ⟨g, t0⟩, g, tw_up_e]
        · rw [if_neg (fun z => g z.1), tw_up_i g, tw_up_k (by omega), tw_up_k (by omega), tw_up_k (by omega)]
      · rw [if_neg t0, if_neg (show ¬ (d = c ∧ s 2 i = 0) from fun z => t0 z.2)]
        split
        · rw [tw_up_k (by omega), tw_up_k (by omega), tw_up_k (by omega)]
        · rw [tw_up_k (by omega)]
    rw [e7]
    rcases (has hj).mp q with w | ⟨rfl, rfl⟩
    · have := (hgr d hd).1 j hj z w
      split
      · rename_i g; rw [g.1] at this; omega
      · exact this
    · rw [if_pos ⟨rfl, z⟩]; omega
  · have e7 : tw_rcv s c i 7 d = if d = c ∧ s 2 i = 0 then max (s 7 c) (s 4 i / 4) else s 7 d := by
      unfold tw_rcv
      by_cases t0 : s 2 i = 0
      · rw [if_pos t0]
        by_cases g : d = c
        · rw [if_pos ⟨g, t0⟩, g, tw_up_e]
        · rw [if_neg (fun z => g z.1), tw_up_i g, tw_up_k (by omega), tw_up_k (by omega), tw_up_k (by omega)]
      · rw [if_neg t0, if_neg (show ¬ (d = c ∧ s 2 i = 0) from fun z => t0 z.2)]
        split
        · rw [tw_up_k (by omega), tw_up_k (by omega), tw_up_k (by omega)]
        · rw [tw_up_k (by omega)]
    rw [e7]
    have old : s 7 d = 0 ∨ ∃ j, j < tw_rcv s c i 9 0 ∧ tw_rcv s c i 2 j = 0 ∧ tw_has (tw_rcv s c i) d j ∧ tw_rcv s c i 4 j / 4 = s 7 d := by
      rcases (hgr d hd).2 with w | ⟨j, j1, j2, j3, j4⟩
      · exact Or.inl w
      · exact Or.inr ⟨j, by rw [e9]; exact j1, by rw [e2]; exact j2, (has j1).mpr (Or.inl j3), by rw [e4]; exact j4⟩
    split
    · rename_i g
      obtain ⟨rfl, t0⟩ := g
      rcases Nat.le_total (s 7 d) (s 4 i / 4) with w | w
      · rw [Nat.max_eq_right w]
        exact Or.inr ⟨i, by rw [e9]; exact hi, by rw [e2]; exact t0, (has hi).mpr (Or.inr ⟨rfl, rfl⟩), by rw [e4]⟩
      · rw [Nat.max_eq_left w]
        exact old
    · exact old
