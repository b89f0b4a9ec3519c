/-! The tree of letters as a sequence: T lists the letters in ORDER, T 0 = 0 the START; n gives a letter's NAME as a number. -/
def tw_tree (L : Nat) (T n fs sb up : Nat → Nat) : Prop :=
  (∀ i, 1 ≤ i → i < L → ∃ j, j < i ∧ up (T i) = T j ∧ n (T j) < n (T i) ∧ ∀ k, j < k → k < i → n (T i) < n (T k)) ∧
  (∀ i, i < L → (i + 1 < L ∧ n (T i) < n (T (i + 1)) ∧ fs (T i) = T (i + 1)) ∨ (fs (T i) = 0 ∧ (i + 1 < L → n (T (i + 1)) < n (T i)))) ∧
  (∀ i, 1 ≤ i → i < L → ∃ j, i < j ∧ j ≤ L ∧ (∀ k, i < k → k < j → n (T i) < n (T k)) ∧ (j < L → n (T j) < n (T i)) ∧
    ((j < L ∧ sb (T i) = T j ∧ up (T j) = up (T i)) ∨ (sb (T i) = 0 ∧ (j < L → n (T j) < n (up (T i))))))
/-- T lists 0 .. L-1, each once, 0 first -/
def tw_list (L : Nat) (T : Nat → Nat) : Prop :=
  1 ≤ L ∧ T 0 = 0 ∧ (∀ i, i < L → T i < L) ∧ (∀ i j, i < L → j < L → T i = T j → i = j) ∧ ∀ l, l < L → ∃ i, i < L ∧ T i = l
/-- a walk along the siblings behind the letter at P: all up to q is passed, 'to' is the next one or 0 -/
def tw_sw (L : Nat) (T n up : Nat → Nat) (P q to : Nat) : Prop :=
  P < q ∧ q ≤ L ∧ (∀ k, P < k → k < q → n (T P) < n (T k)) ∧ ((q < L ∧ to = T q ∧ up (T q) = T P) ∨ (to = 0 ∧ (q < L → n (T q) < n (T P))))
theorem tw_pos {L : Nat} {T : Nat → Nat} (h : tw_list L T) {i : Nat} (h1 : 1 ≤ i) (hi : i < L) : 1 ≤ T i := by
  obtain ⟨h0, h2, -, h3, -⟩ := h
  rcases Nat.eq_zero_or_pos (T i) with e | e
  · have := h3 i 0 hi (by omega) (by rw [e, h2])
    omega
  · exact e
theorem tw_swf {L : Nat} {T n fs sb up : Nat → Nat} (h : tw_tree L T n fs sb up) {i : Nat} (hi : i < L) : tw_sw L T n up i (i + 1) (fs (T i)) := by
  obtain ⟨hU, hF, -⟩ := h
  refine ⟨by omega, by omega, fun k h1 h2 => by omega, ?_⟩
  rcases hF i hi with ⟨h1, h2, h3⟩ | ⟨h1, h2⟩
  · refine Or.inl ⟨h1, h3, ?_⟩
    obtain ⟨j, hj, e, hn, hk⟩ := hU (i + 1) (by omega) h1
    rcases Nat.lt_or_ge j i with g | g
    · have := hk i g (by omega)
      omega
    · have : j = i := by omega
      rw [e, this]
  · exact Or.inr ⟨h1, h2⟩
theorem tw_swn {L : Nat} {T n fs sb up : Nat → Nat} (hl : tw_list L T) (h : tw_tree L T n fs sb up) {P q to : Nat} (w : tw_sw L T n up P q to) (h0 : to ≠ 0) : to = T q ∧ q < L ∧ up (T q) = T P ∧ n (T P) < n (T q) ∧ ∃ q', q < q' ∧ tw_sw L T n up P q' (sb to) ∧ (∀ k, q < k → k < q' → n (T q) < n (T k)) ∧ (q' < L → n (T q') < n (T q)) := by
  obtain ⟨hU, -, hS⟩ := h
  obtain ⟨h1, h2, h3, h4⟩ := w
  rcases h4 with ⟨g1, rfl, g3⟩ | ⟨g1, -⟩
  · obtain ⟨j, hj, e, hn, -⟩ := hU q (by omega) g1
    have hjP : j = P := hl.2.2.2.1 j P (by omega) (by omega) (by rw [← e, g3])
    subst hjP
    obtain ⟨r, r1, r2, r3, r4, r5⟩ := hS q (by omega) g1
    refine ⟨rfl, g1, g3, hn, r, r1, ⟨by omega, r2, fun k a b => ?_, ?_⟩, r3, r4⟩
    · rcases Nat.lt_trichotomy k q with g | g | g
      · exact h3 k a g
      · rw [g]; exact hn
      · exact Nat.lt_trans hn (r3 k g b)
    · rcases r5 with ⟨x1, x2, x3⟩ | ⟨x1, x2⟩
      · exact Or.inl ⟨x1, x2, by rw [x3, g3]⟩
      · exact Or.inr ⟨x1, fun g => by rw [← g3]; exact x2 g⟩
  · exact absurd g1 h0
/-- the way on from a letter whose own ones are all passed -/
theorem tw_sws {L : Nat} {T n fs sb up : Nat → Nat} (h : tw_tree L T n fs sb up) (hinj : ∀ i j, i < L → j < L → n (T i) = n (T j) → i = j) {i q : Nat} (h1 : 1 ≤ i) (hi : i < L) (hq : i < q) (hqL : q ≤ L) (hb : ∀ k, i < k → k < q → n (T i) < n (T k)) (he : q < L → n (T q) < n (T i)) : ∃ P, P < i ∧ up (T i) = T P ∧ n (T P) < n (T i) ∧ tw_sw L T n up P q (sb (T i)) := by
  obtain ⟨hU, -, hS⟩ := h
  obtain ⟨P, p1, p2, p3, p4⟩ := hU i h1 hi
  obtain ⟨j, j1, j2, j3, j4, j5⟩ := hS i h1 hi
  have hjq : j = q := by
    rcases Nat.lt_trichotomy j q with g | g | g
    · have := hb j j1 g
      have := j4 (by omega)
      omega
    · exact g
    · have := j3 q hq g
      have := he (by omega)
      omega
  subst hjq
  refine ⟨P, p1, p2, p3, by omega, j2, fun k a b => ?_, ?_⟩
  · rcases Nat.lt_trichotomy k i with g | g | g
    · have := p4 k a g
      omega
    · rw [g]; exact p3
    · exact Nat.lt_trans p3 (j3 k g b)
  · rcases j5 with ⟨x1, x2, x3⟩ | ⟨x1, x2⟩
    · exact Or.inl ⟨x1, x2, by rw [x3, p2]⟩
    · exact Or.inr ⟨x1, fun g => by rw [← p2]; exact x2 g⟩
/-- what a copy lacks, it lacks with all that stands behind it -/
theorem tw_lack {L : Nat} {T n fs sb up : Nat → Nat} (h : tw_tree L T n fs sb up) {In : Nat → Prop} (hin : ∀ i, 1 ≤ i → i < L → up (T i) ≠ 0 → In (T i) → In (up (T i))) (h0 : T 0 = 0) (hz : ∀ i, 1 ≤ i → i < L → T i ≠ 0) {i q : Nat} (h1 : 1 ≤ i) (hq : q ≤ L) (hb : ∀ k, i < k → k < q → n (T i) < n (T k)) (hi : ¬ In (T i)) : ∀ k, i ≤ k → k < q → ¬ In (T k) := by
  intro k
  induction k using Nat.strongRecOn with
  | _ k ih =>
    intro a b hk
    rcases Nat.lt_or_ge i k with g | g
    · obtain ⟨j, j1, j2, j3, j4⟩ := h.1 k (by omega) (by omega)
      have hij : i ≤ j := by
        rcases Nat.lt_or_ge j i with x | x
        · have := j4 i x g
          have := hb k g b
          omega
        · exact x
      have hj0 : up (T k) ≠ 0 := by rw [j2]; exact hz j (by omega) (by omega)
      have hI := hin k (by omega) (by omega) hj0 hk
      rw [j2] at hI
      exact ih j j1 hij (by omega) hI
    · have : k = i := by omega
      rw [this] at hk
      exact hi hk
/-- T with the letter l at place q -/
def tw_ins (T : Nat → Nat) (q l : Nat) : Nat → Nat := fun i => if i < q then T i else if i = q then l else T (i - 1)
theorem tw_ins_lt {T : Nat → Nat} {q l i : Nat} (h : i < q) : tw_ins T q l i = T i := by simp [tw_ins, h]
theorem tw_ins_eq {T : Nat → Nat} {q l : Nat} : tw_ins T q l q = l := by simp [tw_ins]
theorem tw_ins_gt {T : Nat → Nat} {q l i : Nat} (h : q < i) : tw_ins T q l i = T (i - 1) := by
  have h1 : ¬ i < q := by omega
  have h2 : ¬ i = q := by omega
  simp [tw_ins, h1, h2]
theorem tw_ins_s {T : Nat → Nat} {q l i : Nat} (h : q ≤ i) : tw_ins T q l (i + 1) = T i := by rw [tw_ins_gt (by omega)]; simp
theorem tw_ins_list {L q : Nat} {T : Nat → Nat} (h : tw_list L T) (h1 : 1 ≤ q) (hq : q ≤ L) : tw_list (L + 1) (tw_ins T q L) := by
  obtain ⟨a0, a1, a2, a3, a4⟩ := h
  refine ⟨by omega, by rw [tw_ins_lt (by omega)]; exact a1, fun i hi => ?_, fun i j hi hj e => ?_, fun l hl => ?_⟩
  · rcases Nat.lt_trichotomy i q with g | g | g
    · rw [tw_ins_lt g]; have := a2 i (by omega); omega
    · rw [g, tw_ins_eq]; omega
    · rw [tw_ins_gt g]; have := a2 (i - 1) (by omega); omega
  · rcases Nat.lt_trichotomy i q with g | g | g <;> rcases Nat.lt_trichotomy j q with k | k | k
    · rw [tw_ins_lt g, tw_ins_lt k] at e; exact a3 i j (by omega) (by omega) e
    · rw [tw_ins_lt g, k, tw_ins_eq] at e; have := a2 i (by omega); omega
    · rw [tw_ins_lt g, tw_ins_gt k] at e; have := a3 i (j - 1) (by omega) (by omega) e; omega
    · rw [g, tw_ins_eq, tw_ins_lt k] at e; have := a2 j (by omega); omega
    · omega
    · rw [g, tw_ins_eq, tw_ins_gt k] at e; have := a2 (j - 1) (by omega); omega
    · rw [tw_ins_gt g, tw_ins_lt k] at e; have := a3 (i - 1) j (by omega) (by omega) e; omega
    · rw [tw_ins_gt g, k, tw_ins_eq] at e; have := a2 (i - 1) (by omega); omega
    · rw [tw_ins_gt g, tw_ins_gt k] at e; have := a3 (i - 1) (j - 1) (by omega) (by omega) e; omega
  · rcases Nat.lt_or_ge l L with g | g
    · obtain ⟨i, hi, e⟩ := a4 l g
      rcases Nat.lt_or_ge i q with k | k
      · exact ⟨i, by omega, by rw [tw_ins_lt k]; exact e⟩
      · exact ⟨i + 1, by omega, by rw [tw_ins_s k]; exact e⟩
    · exact ⟨q, by omega, by rw [tw_ins_eq]; omega⟩
/-- a new letter L, with the name x, behind the letter at b, comes to the place q -/
theorem tw_put {L b q x s last : Nat} {T n fs sb up n' fs' sb' up' : Nat → Nat} (hl : tw_list L T) (h : tw_tree L T n fs sb up) (hb : b < L) (hbq : b < q) (hq : q ≤ L) (hm : ∀ k, b < k → k < q → x < n (T k)) (he : q < L → n (T q) < x) (hbx : n (T b) < x) (hx : ∀ i, i < L → n (T i) ≠ x)
    (hs : (q < L ∧ s = T q ∧ up (T q) = T b) ∨ (s = 0 ∧ (q < L → n (T q) < n (T b))))
    (hla : (last = 0 ∧ q = b + 1) ∨ ∃ i, b < i ∧ i < q ∧ last = T i ∧ up (T i) = T b ∧ (∀ k, i < k → k < q → n (T i) < n (T k)) ∧ (q < L → n (T q) < n (T i)))
    (n1 : ∀ l, l < L → n' l = n l) (n2 : n' L = x) (u1 : ∀ l, l < L → up' l = up l) (u2 : up' L = T b) (f0 : fs' L = 0)
    (f1 : last = 0 → fs' (T b) = L) (f2 : ∀ l, l < L → (last = 0 → l ≠ T b) → fs' l = fs l)
    (s0 : sb' L = s) (s1 : last ≠ 0 → sb' last = L) (s2 : ∀ l, 1 ≤ l → l < L → l ≠ last → sb' l = sb l) : tw_tree (L + 1) (tw_ins T q L) n' fs' sb' up' := by
  have hlt : ∀ i, i < L → T i < L := hl.2.2.1
  have hinj : ∀ i j, i < L → j < L → T i = T j → i = j := hl.2.2.2.1
  obtain ⟨hU, hF, hS⟩ := h
  have nlo : ∀ i, i < q → n' (tw_ins T q L i) = n (T i) := fun i hi => by rw [tw_ins_lt hi]; exact n1 _ (hlt i (by omega))
  have nq : n' (tw_ins T q L q) = x := by rw [tw_ins_eq]; exact n2
  have nhi : ∀ i, q ≤ i → i < L → n' (tw_ins T q L (i + 1)) = n (T i) := fun i hi hi2 => by rw [tw_ins_s hi]; exact n1 _ (hlt i hi2)
  have hlast : ∀ i, i < L → T i = last → 1 ≤ i → b < i ∧ i < q ∧ up (T i) = T b ∧ (∀ k, i < k → k < q → n (T i) < n (T k)) := by
    intro i hi e h1
    rcases hla with ⟨e0, -⟩ | ⟨i', a1, a2, a3, a4, a5, -⟩
    · have := tw_pos hl h1 hi
      omega
    · have : i = i' := hinj i i' hi (by omega) (by rw [e, a3])
      subst this
      exact ⟨a1, a2, a4, a5⟩
  refine ⟨fun i h1 hi => ?_, fun i hi => ?_, fun i h1 hi => ?_⟩
  · rcases Nat.lt_trichotomy i q with g | g | g
    · obtain ⟨j, j1, j2, j3, j4⟩ := hU i h1 (by omega)
      refine ⟨j, j1, ?_, ?_, fun k a c => ?_⟩
      · rw [tw_ins_lt g, tw_ins_lt (by omega), u1 _ (hlt i (by omega))]; exact j2
      · rw [nlo i g, nlo j (by omega)]; exact j3
      · rw [nlo i g, nlo k (by omega)]; exact j4 k a c
    · subst g
      refine ⟨b, hbq, ?_, ?_, fun k a c => ?_⟩
      · rw [tw_ins_eq, tw_ins_lt hbq]; exact u2
      · rw [nq, nlo b hbq]; exact hbx
      · rw [nq, nlo k c]; exact hm k a c
    · obtain ⟨i0, rfl⟩ : ∃ i0, i = i0 + 1 := ⟨i - 1, by omega⟩
      obtain ⟨j, j1, j2, j3, j4⟩ := hU i0 (by omega) (by omega)
      rcases Nat.lt_or_ge j q with c | c
      · refine ⟨j, by omega, ?_, ?_, fun k a d => ?_⟩
        · rw [tw_ins_s (by omega), tw_ins_lt c, u1 _ (hlt i0 (by omega))]; exact j2
        · rw [nhi i0 (by omega) (by omega), nlo j c]; exact j3
        · rw [nhi i0 (by omega) (by omega)]
          rcases Nat.lt_trichotomy k q with z | z | z
          · rw [nlo k z]; exact j4 k a (by omega)
          · rw [z, nq]
            rcases Nat.lt_or_ge q i0 with y | y
            · exact Nat.lt_trans (j4 q c y) (he (by omega))
            · have : i0 = q := by omega
              rw [this]; exact he (by omega)
          · obtain ⟨k0, rfl⟩ : ∃ k0, k = k0 + 1 := ⟨k - 1, by omega⟩
            rw [nhi k0 (by omega) (by omega)]; exact j4 k0 (by omega) (by omega)
      · refine ⟨j + 1, by omega, ?_, ?_, fun k a d => ?_⟩
        · rw [tw_ins_s (by omega), tw_ins_s c, u1 _ (hlt i0 (by omega))]; exact j2
        · rw [nhi i0 (by omega) (by omega), nhi j c (by omega)]; exact j3
        · obtain ⟨k0, rfl⟩ : ∃ k0, k = k0 + 1 := ⟨k - 1, by omega⟩
          rw [nhi i0 (by omega) (by omega), nhi k0 (by omega) (by omega)]; exact j4 k0 (by omega) (by omega)
  · rcases Nat.lt_trichotomy i q with g | g | g
    · have hT : tw_ins T q L i = T i := tw_ins_lt g
      rcases Nat.lt_or_ge (i + 1) q with c | c
      · have e : fs' (T i) = fs (T i) := f2 _ (hlt i (by omega)) (fun z y => by
          rcases hla with ⟨-, e2⟩ | ⟨i', a1, a2, a3, -⟩
          · have := hinj i b (by omega) hb y
            omega
          · have := tw_pos hl (i := i') (by omega) (by omega)
            omega)
        rw [nlo i g, nlo (i + 1) c, hT, tw_ins_lt c, e]
        rcases hF i (by omega) with ⟨y1, y2, y3⟩ | ⟨y1, y2⟩
        · exact Or.inl ⟨by omega, y2, y3⟩
        · exact Or.inr ⟨y1, fun _ => y2 (by omega)⟩
      · have eq : i + 1 = q := by omega
        rw [eq, nlo i g, nq, hT, tw_ins_eq]
        rcases hla with ⟨e1, e2⟩ | ⟨i', a1, a2, a3, -⟩
        · have : i = b := by omega
          subst this
          exact Or.inl ⟨by omega, hbx, f1 e1⟩
        · have hp := tw_pos hl (i := i') (by omega) (by omega)
          have e : fs' (T i) = fs (T i) := f2 _ (hlt i (by omega)) (fun z => by omega)
          have hxi := hm i (by omega) g
          refine Or.inr ⟨?_, fun _ => hxi⟩
          rw [e]
          rcases hF i (by omega) with ⟨y1, y2, y3⟩ | ⟨y1, y2⟩
          · rw [eq] at y1 y2
            have := he y1
            omega
          · exact y1
    · subst g
      rw [nq, tw_ins_eq]
      refine Or.inr ⟨f0, fun c => ?_⟩
      rw [nhi i (by omega) (by omega)]
      exact he (by omega)
    · obtain ⟨i0, rfl⟩ : ∃ i0, i = i0 + 1 := ⟨i - 1, by omega⟩
      have e : fs' (T i0) = fs (T i0) := f2 _ (hlt i0 (by omega)) (fun z y => by
        have := hinj i0 b (by omega) hb y
        omega)
      rw [nhi i0 (by omega) (by omega), tw_ins_s (i := i0) (by omega), e, tw_ins_s (i := i0 + 1) (by omega)]
      rcases hF i0 (by omega) with ⟨y1, y2, y3⟩ | ⟨y1, y2⟩
      · exact Or.inl ⟨by omega, by rw [n1 _ (hlt (i0 + 1) y1)]; exact y2, y3⟩
      · exact Or.inr ⟨y1, fun c => by rw [n1 _ (hlt (i0 + 1) (by omega))]; exact y2 (by omega)⟩
  · have hup : ∀ i, 1 ≤ i → i < L → n' (up' (T i)) = n (up (T i)) := fun i h1 hi => by
      obtain ⟨p, p1, p2, -⟩ := hU i h1 hi
      rw [u1 _ (hlt i hi), p2]
      exact n1 _ (hlt p (by omega))
    rcases Nat.lt_trichotomy i q with g | g | g
    · obtain ⟨j, j1, j2, j3, j4, j5⟩ := hS i h1 (by omega)
      have hT : tw_ins T q L i = T i := tw_ins_lt g
      have hpi := tw_pos hl h1 (show i < L by omega)
      rcases Nat.lt_or_ge j q with c | c
      · have hne : T i ≠ last := fun z => by
          obtain ⟨-, -, -, a4⟩ := hlast i (by omega) z h1
          have := a4 j j1 c
          have := j4 (by omega)
          omega
        refine ⟨j, j1, by omega, fun k a d => ?_, fun _ => ?_, ?_⟩
        · rw [nlo i g, nlo k (by omega)]; exact j3 k a d
        · rw [nlo i g, nlo j c]; exact j4 (by omega)
        · rw [hT, s2 _ hpi (hlt i (by omega)) hne, tw_ins_lt c, hup i h1 (by omega), u1 _ (hlt i (by omega)), n1 _ (hlt j (by omega)), u1 _ (hlt j (by omega))]
          rcases j5 with ⟨y1, y2, y3⟩ | ⟨y1, y2⟩
          · exact Or.inl ⟨by omega, y2, y3⟩
          · exact Or.inr ⟨y1, fun _ => y2 (by omega)⟩
      · rcases Nat.lt_or_ge x (n (T i)) with z | z
        · have hbi : b < i := by
            rcases Nat.lt_trichotomy b i with y | y | y
            · exact y
            · rw [← y] at z; omega
            · have := j3 b y (by omega)
              omega
          have hjq : j = q := by
            rcases Nat.lt_or_ge q j with y | y
            · have := j3 q (by omega) y
              have := he (by omega)
              omega
            · omega
          subst hjq
          refine ⟨j, g, by omega, fun k a d => ?_, fun _ => ?_, ?_⟩
          · rw [nlo i g, nlo k d]; exact j3 k a d
          · rw [nlo i g, nq]; exact z
          · rw [hT, tw_ins_eq, hup i h1 (by omega), u1 _ (hlt i (by omega)), n2, u2]
            by_cases hi : T i = last
            · obtain ⟨-, -, a3, -⟩ := hlast i (by omega) hi h1
              exact Or.inl ⟨by omega, by rw [hi]; exact s1 (by omega), a3.symm⟩
            · rw [s2 _ hpi (hlt i (by omega)) hi]
              obtain ⟨p, p1, p2, p3, p4⟩ := hU i h1 (by omega)
              have hpb : p ≠ b := fun y => by
                subst y
                rcases hla with ⟨-, e2⟩ | ⟨i', a1, a2, a3, a4, a5, -⟩
                · omega
                · obtain ⟨p', q1, q2, q3, q4⟩ := hU i' (by omega) (by omega)
                  have hpp : p' = p := hinj p' p (by omega) (by omega) (by rw [← q2, a4])
                  subst hpp
                  rcases Nat.lt_trichotomy i i' with y | y | y
                  · have := j3 i' y a2
                    have := q4 i hbi y
                    omega
                  · rw [y] at hi; exact hi a3.symm
                  · have := a5 i y g
                    have := p4 i' a1 y
                    omega
              have hbp : b < p := by
                rcases Nat.lt_trichotomy b p with y | y | y
                · exact y
                · exact absurd y.symm hpb
                · have := p4 b y hbi
                  omega
              have hxp := hm p hbp (by omega)
              refine Or.inr ⟨?_, fun _ => by rw [p2]; exact hxp⟩
              rcases j5 with ⟨y1, y2, y3⟩ | ⟨y1, y2⟩
              · obtain ⟨p', q1, q2, q3, -⟩ := hU j (by omega) y1
                have hpp : p' = p := hinj p' p (by omega) (by omega) (by rw [← q2, y3, p2])
                subst hpp
                have := he y1
                omega
              · exact y1
        · have hxi : n (T i) < x := by have := hx i (by omega); omega
          have hne : T i ≠ last := fun y => by
            obtain ⟨a1, a2, -⟩ := hlast i (by omega) y h1
            have := hm i a1 a2
            omega
          refine ⟨j + 1, by omega, by omega, fun k a d => ?_, fun y => ?_, ?_⟩
          · rw [nlo i g]
            rcases Nat.lt_trichotomy k q with y | y | y
            · rw [nlo k y]; exact j3 k a (by omega)
            · rw [y, nq]; exact hxi
            · obtain ⟨k0, rfl⟩ : ∃ k0, k = k0 + 1 := ⟨k - 1, by omega⟩
              rw [nhi k0 (by omega) (by omega)]; exact j3 k0 (by omega) (by omega)
          · rw [nlo i g, nhi j c (by omega)]; exact j4 (by omega)
          · rw [hT, s2 _ hpi (hlt i (by omega)) hne, hup i h1 (by omega), u1 _ (hlt i (by omega)), tw_ins_s c]
            rcases j5 with ⟨y1, y2, y3⟩ | ⟨y1, y2⟩
            · exact Or.inl ⟨by omega, y2, by rw [u1 _ (hlt j y1)]; exact y3⟩
            · exact Or.inr ⟨y1, fun y => by rw [n1 _ (hlt j (by omega))]; exact y2 (by omega)⟩
    · subst g
      refine ⟨i + 1, by omega, by omega, fun k a d => by omega, fun y => ?_, ?_⟩
      · rw [nq, nhi i (by omega) (by omega)]; exact he (by omega)
      · rw [tw_ins_eq, s0, u2, tw_ins_s (by omega)]
        rcases hs with ⟨y1, y2, y3⟩ | ⟨y1, y2⟩
        · exact Or.inl ⟨by omega, y2, by rw [u1 _ (hlt i y1)]; exact y3⟩
        · exact Or.inr ⟨y1, fun y => by rw [n1 _ (hlt i (by omega)), n1 _ (hlt b hb)]; exact y2 (by omega)⟩
    · obtain ⟨i0, rfl⟩ : ∃ i0, i = i0 + 1 := ⟨i - 1, by omega⟩
      obtain ⟨j, j1, j2, j3, j4, j5⟩ := hS i0 (by omega) (by omega)
      have hne : T i0 ≠ last := fun y => by
        obtain ⟨-, a2, -⟩ := hlast i0 (by omega) y (by omega)
        omega
      have hpi := tw_pos hl (i := i0) (by omega) (by omega)
      refine ⟨j + 1, by omega, by omega, fun k a d => ?_, fun y => ?_, ?_⟩
      · obtain ⟨k0, rfl⟩ : ∃ k0, k = k0 + 1 := ⟨k - 1, by omega⟩
        rw [nhi i0 (by omega) (by omega), nhi k0 (by omega) (by omega)]; exact j3 k0 (by omega) (by omega)
      · rw [nhi i0 (by omega) (by omega), nhi j (by omega) (by omega)]; exact j4 (by omega)
      · rw [tw_ins_s (by omega), s2 _ hpi (hlt i0 (by omega)) hne, hup i0 (by omega) (by omega), u1 _ (hlt i0 (by omega)), tw_ins_s (by omega)]
        rcases j5 with ⟨y1, y2, y3⟩ | ⟨y1, y2⟩
        · exact Or.inl ⟨by omega, y2, by rw [u1 _ (hlt j y1)]; exact y3⟩
        · exact Or.inr ⟨y1, fun y => by rw [n1 _ (hlt j (by omega))]; exact y2 (by omega)⟩
