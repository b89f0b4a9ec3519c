/-! class and reference side by side -/
theorem tw_rel_let {md : Nat → Nat} {s t : Nat → Nat → Nat} {g T : Nat → Nat} (h : tw_rel md s t g T) {i : Nat} (hi : i < s 9 0) (h2 : s 2 i = 0) : ∃ k, 1 ≤ k ∧ k < t 13 1 ∧ g k = i := by
  obtain ⟨hci, -, ⟨e1, -, -⟩, ⟨hli, ho, -⟩⟩ := h
  obtain ⟨p, p1, p2⟩ := hci.2.2.2.1.2.2.2.1 i hi h2
  exact ⟨T (p + 1), tw_pos hli (by omega) (by omega), hli.2.2.1 _ (by omega), by rw [← ho p p1, p2]⟩
theorem tw_rel_ginj {md : Nat → Nat} {s t : Nat → Nat → Nat} {g T : Nat → Nat} (h : tw_rel md s t g T) {a b : Nat} (u1 : 1 ≤ a) (u2 : a < t 13 1) (v1 : 1 ≤ b) (v2 : b < t 13 1) (e : g a = g b) : a = b := by
  obtain ⟨-, -, ⟨-, a2, -⟩, -⟩ := h
  have e1 := (a2 a u1 u2).2.2.2.2.2.2
  have e2 := (a2 b v1 v2).2.2.2.2.2.2
  rw [e] at e1
  omega
theorem tw_rel_gone {md : Nat → Nat} {s t : Nat → Nat → Nat} {g T : Nat → Nat} (h : tw_rel md s t g T) {c k : Nat} (hc : c < 4) (h1 : 1 ≤ k) (hk : k < t 13 1) : (∃ m j, m < 4 ∧ j < t 10 (4 * c + m) ∧ t 7 (400 * m + j) = 2 * k + 1) ↔ ∃ j, j < s 9 0 ∧ s 2 j = g k + 1 ∧ tw_has s c j := by
  have hlet := @tw_rel_let _ _ _ _ _ h
  have hinj := @tw_rel_ginj _ _ _ _ _ h
  obtain ⟨hci, ⟨-, r2, -, -⟩, ⟨-, a2, a3⟩, -⟩ := h
  obtain ⟨l1, l2, l3, -, -⟩ := hci.1
  constructor
  · rintro ⟨m, j, hm, hj, e⟩
    rw [r2 c m hc hm] at hj
    have hkm : j < md m := Nat.lt_of_lt_of_le hj (hci.2.1.1 c m hc hm)
    obtain ⟨x1, x2, x3⟩ := l1 m j hm hkm
    refine ⟨s (20 + m) j, x1, ?_, by unfold tw_has; rw [x2, x3]; exact hj⟩
    rcases Nat.eq_zero_or_pos (s 2 (s (20 + m) j)) with z | z
    · obtain ⟨k', k1, k2, k3⟩ := hlet x1 z
      have := (a2 k' k1 k2).2.2.2.2.2.2
      rw [k3, x2, x3, e] at this
      omega
    · obtain ⟨i, hi⟩ : ∃ i, s 2 (s (20 + m) j) = i + 1 := ⟨s 2 (s (20 + m) j) - 1, by omega⟩
      obtain ⟨k', y1, y2, y3, y4⟩ := a3 _ i x1 hi
      rw [x2, x3, e] at y4
      have : k = k' := by omega
      rw [hi, ← y3, this]
  · rintro ⟨j, j1, j2, j3⟩
    obtain ⟨k', y1, y2, y3, y4⟩ := a3 j (g k) j1 j2
    have : k' = k := hinj y1 y2 h1 hk y3
    subst this
    obtain ⟨m1, m2, -⟩ := l2 j j1
    exact ⟨s 0 j, s 1 j, m1, by rw [r2 c _ hc m1]; exact j3, y4⟩
/-- what the reference's walk wants, out of the relation -/
theorem tw_rel_lkp {md : Nat → Nat} {s t : Nat → Nat → Nat} {g T : Nat → Nat} (h : tw_rel md s t g T) (hc9 : tw_cache s t T) (hn : s 9 0 ≤ 512) {a : Nat} (ha : a < 4) : tw_lkp t a T (tw_f s a) := by
  have hlet := @tw_rel_let _ _ _ _ _ h
  have hin := fun k => @tw_rel_in _ _ _ _ _ h a k ha
  have hgone := fun k => @tw_rel_gone _ _ _ _ _ h a k ha
  have h' := h
  obtain ⟨hci, ⟨r1, r2, r3, r4⟩, ⟨e1, a2, a3⟩, ⟨hli, ho, z0, z1, hfs, htr, hnj, hup⟩⟩ := h
  have bd := tw_bd_of hci hn
  obtain ⟨⟨l1, l2, l3, l4, l5⟩, ⟨k1, k2⟩, ⟨b1, b2, b3⟩, hor, hgr⟩ := hci
  refine ⟨⟨by omega, by have := bd.1; omega⟩, hli, htr, hnj, by unfold tw_n; rw [z0, z1], fun k h1 h2 => ?_, fun m hm => by rw [r2 a m ha hm]; exact bd.2.2.2.1 a m ha hm, fun m k hm hk => ?_, fun k h1 h2 h3 h4 => ?_, fun p hp => ?_, fun hz => ?_, hc9.1⟩
  · obtain ⟨x1, x2, x3, x4, -⟩ := a2 k h1 h2
    have := bd.2.2.2.2.2.1 _ x1
    rw [x3, x4]
    omega
  · rw [r2 a m ha hm] at hk
    have hkm : k < md m := Nat.lt_of_lt_of_le hk (k1 a m ha hm)
    obtain ⟨x1, x2, x3⟩ := l1 m k hm hkm
    rcases Nat.eq_zero_or_pos (s 2 (s (20 + m) k)) with z | z
    · obtain ⟨k', y1, y2, y3⟩ := hlet x1 z
      have := (a2 k' y1 y2).2.2.2.2.2.2
      rw [y3, x2, x3] at this
      exact ⟨k', y2, Or.inl this⟩
    · obtain ⟨k', y1, y2, y3, y4⟩ := a3 (s (20 + m) k) (s 2 (s (20 + m) k) - 1) x1 (by omega)
      rw [x2, x3] at y4
      exact ⟨k', y2, Or.inr ⟨y4, y1⟩⟩
  · obtain ⟨i, hi, rfl⟩ := hli.2.2.2.2 k h2
    have hi1 : 1 ≤ i := by
      rcases Nat.eq_zero_or_pos i with z | z
      · rw [z, hli.2.1] at h1; omega
      · exact z
    obtain ⟨j, j1, j2, -, -⟩ := htr.1 i hi1 hi
    rw [j2] at h3 ⊢
    have hj1 : 1 ≤ j := by
      rcases Nat.eq_zero_or_pos j with z | z
      · rw [z, hli.2.1] at h3; exact absurd rfl h3
      · exact z
    have hTj := hli.2.2.1 j (by omega)
    have hTp := tw_pos hli hj1 (by omega)
    have hhas := (hin _ h1 h2).mp h4
    have hu := hup _ h1 h2 (by rw [j2]; exact h3)
    rw [j2] at hu
    have hgj := a2 _ hTp hTj
    have := k2 a _ ha (a2 _ h1 h2).1 hhas _ (l2 _ hgj.1).1
    refine (hin _ hTp hTj).mpr ?_
    unfold tw_has
    omega
  · have hT1 := hli.2.2.1 (p + 1) hp
    have hT0 := tw_pos hli (show 1 ≤ p + 1 by omega) hp
    unfold tw_f
    rw [ho p (by omega), b2 _ a ha]
    unfold tw_shows
    constructor
    · rintro ⟨x1, x2, x3, x4⟩
      refine ⟨(hin _ hT0 hT1).mpr x3, fun z => ?_⟩
      obtain ⟨j, j1, j2, j3⟩ := (hgone _ hT0 hT1).mp z
      exact x4 j j1 j2 j3
    · rintro ⟨x1, x2⟩
      refine ⟨(a2 _ hT0 hT1).1, (a2 _ hT0 hT1).2.1, (hin _ hT0 hT1).mp x1, fun j j1 j2 j3 => x2 ((hgone _ hT0 hT1).mpr ⟨j, j1, j2, j3⟩)⟩
  · have := hc9.2 (by omega)
    rw [hz, show a + 1 - 1 = a by omega] at this
    rw [e1, show s 9 1 + 1 - 1 = s 9 1 by omega]
    exact this
theorem tw_rel_congr {md : Nat → Nat} {s t t' : Nat → Nat → Nat} {g T : Nat → Nat} (h : tw_rel md s t g T) (hk : ∀ k y, k < 11 → t' k y = t k y) (hL : t' 13 1 = t 13 1) : tw_rel md s t' g T := by
  obtain ⟨hci, ⟨r1, r2, r3, r4⟩, ⟨e1, a2, a3⟩, ⟨hli, ho, z0, z1, hfs, htr, hnj, hup⟩⟩ := h
  have en : tw_n t' = tw_n t := funext fun k => by unfold tw_n; rw [hk 0 k (by omega), hk 1 k (by omega)]
  have e4 : t' 4 = t 4 := funext fun k => hk 4 k (by omega)
  have e5 : t' 5 = t 5 := funext fun k => hk 5 k (by omega)
  have e6 : t' 6 = t 6 := funext fun k => hk 6 k (by omega)
  refine ⟨hci, ⟨r1, fun c m hc hm => by rw [hk 10 _ (by omega)]; exact r2 c m hc hm, fun c hc => by rw [hk 9 _ (by omega)]; exact r3 c hc, fun i m hi hm => by rw [hk 8 _ (by omega)]; exact r4 i m hi hm⟩, ⟨by rw [hL]; exact e1, fun k h1 h2 => ?_, fun i j hi hj => ?_⟩, ?_⟩
  · rw [hL] at h2
    rw [hk 1 k (by omega), hk 2 k (by omega), hk 3 k (by omega), hk 7 _ (by omega), en]
    exact a2 k h1 h2
  · rw [hL, hk 7 _ (by omega)]
    exact a3 i j hi hj
  · unfold tw_rtree
    rw [hL, en, e4, e5, e6, hk 0 0 (by omega), hk 1 0 (by omega)]
    exact ⟨hli, ho, z0, z1, hfs, htr, hnj, hup⟩
theorem tw_rel_lkr {md : Nat → Nat} {s t u : Nat → Nat → Nat} {g T : Nat → Nat} {a c : Nat} (h : tw_rel md s t g T) (ha : a < 4) (hu : tw_lkr t u a T (tw_f s a) c) : tw_rel md s u g T ∧ tw_cache s u T := by
  obtain ⟨u0, u1, u2, u3, u4⟩ := hu
  have e1 := h.2.2.1.1
  refine ⟨tw_rel_congr h (fun k y hk => u4 k y (by omega) (by omega) (by omega)) (u4 13 1 (by omega) (by omega) (by omega)), by omega, fun _ => ?_⟩
  rw [u1, show a + 1 - 1 = a by omega]
  rw [e1, show s 9 1 + 1 - 1 = s 9 1 by omega] at u2 u3
  exact ⟨u2, u3⟩
theorem tw_rel_thr {md : Nat → Nat} {s t : Nat → Nat → Nat} {g T : Nat → Nat} {c : Nat} (h : tw_rel md s t g T) (hc : tw_cache s t T) : tw_rel md s (tw_up t 13 0 c) g T ∧ tw_cache s (tw_up t 13 0 c) T :=
  ⟨tw_rel_congr h (fun k y hk => tw_up_k (by omega)) (tw_up_i (by omega)), hc⟩
theorem tw_cache_0 {s u : Nat → Nat → Nat} {T : Nat → Nat} (h : u 13 2 = 0) : tw_cache s u T := ⟨by omega, fun z => by omega⟩
/-- letter or name, on both sides -/
theorem tw_pl_eq {s : Nat → Nat → Nat} {a L : Nat} {v r r' : Int32} {g1 g2 : Nat → Nat} (hL : L = s 9 1 + 1) (hb : s 9 1 ≤ 512) (h1 : tw_pl s a v r g1) (h2 : tw_plM L (tw_f s a) v r' g2) (he : ∀ p, p < s 9 1 → g1 p = g2 p) : r = r' := by
  rcases h1 with ⟨p, p1, p2, p3, rfl⟩ | ⟨rfl, n1⟩ <;> rcases h2 with ⟨q, q1, q2, q3, rfl⟩ | ⟨rfl, n2⟩
  · have c1 := tw_cn_le (tw_f s a) p
    have c2 := tw_cn_le (tw_f s a) q
    have : tw_cn (tw_f s a) p = tw_cn (tw_f s a) q := (tw_eq (by omega) (by omega)).mp (p3.symm.trans q3)
    have : p = q := tw_cn_inj p2 q2 this
    rw [← this, he p p1]
  · exact absurd p3 (n2 p (by omega) p2)
  · exact absurd q3 (n1 q (by omega) q2)
  · rfl
