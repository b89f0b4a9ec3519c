/-! insert, on both sides -/
theorem tw_rel_mo {md : Nat → Nat} {s t : Nat → Nat → Nat} {g T : Nat → Nat} {a mo : Nat} (h : tw_rel md s t g T) (ha : a < 4) (hmo : tw_most t a (t 13 1) mo) : mo = s 7 a := by
  have hlet := @tw_rel_let _ _ _ _ _ h
  have hin := fun k => @tw_rel_in _ _ _ _ _ h a k ha
  have l2 := h.1.1.2.1
  obtain ⟨g1, g2⟩ := h.1.2.2.2.2 a ha
  have a2 := h.2.2.1.2.1
  have num : ∀ k, 1 ≤ k → k < t 13 1 → t 0 k = s 4 (g k) / 4 := fun k h1 h2 => by
    obtain ⟨x1, x2, x3, x4, x5, x6, x7⟩ := a2 k h1 h2
    have := (l2 _ x1).1
    unfold tw_n at x6
    omega
  have hA : s 7 a ≤ mo := by
    rcases g2 with z | ⟨i, i1, i2, i3, i4⟩
    · omega
    · obtain ⟨k, k1, k2, k3⟩ := hlet i1 i2
      have := hmo.1 k k1 k2 ((hin k k1 k2).mpr (by rw [k3]; exact i3))
      rw [num k k1 k2, k3] at this
      omega
  have hB : mo ≤ s 7 a := by
    rcases hmo.2 with z | ⟨k, k1, k2, k3, k4⟩
    · omega
    · obtain ⟨x1, x2, -⟩ := a2 k k1 k2
      have := g1 _ x1 x2 ((hin k k1 k2).mp k3)
      rw [← num k k1 k2] at this
      omega
  omega
theorem tw_rel_bh {s : Nat → Nat → Nat} {a k b b' L : Nat} (hL : L = s 9 1 + 1) (h1 : tw_bh s a k b) (h2 : tw_bhM L (tw_f s a) k b') : b = b' := by
  rcases h1 with ⟨e1, rfl⟩ | ⟨p, p1, p2, p3, rfl⟩ <;> rcases h2 with ⟨e2, rfl⟩ | ⟨q, q1, q2, q3, rfl⟩
  · rfl
  · omega
  · omega
  · rw [tw_cn_inj p2 q2 (by omega)]
/-- a letter's place, the same on both sides -/
theorem tw_rel_q {x b q q' lt L : Nat} {n1 n2 : Nat → Nat} (hL : L = lt + 1) (he : ∀ j, j < lt → n1 j = n2 (j + 1)) (hb : b ≤ q) (hq : q ≤ lt) (h1 : ∀ j, b ≤ j → j < q → x < n1 j) (h2 : q < lt → n1 q ≤ x) (hb' : b < q') (hq' : q' ≤ L) (h3 : ∀ j, b < j → j < q' → x < n2 j) (h4 : q' < L → n2 q' < x) : q' = q + 1 := by
  rcases Nat.lt_trichotomy q' (q + 1) with z | z | z
  · have h5 := h4 (by omega)
    have h6 := h1 (q' - 1) (by omega) (by omega)
    rw [he (q' - 1) (by omega), show q' - 1 + 1 = q' by omega] at h6
    omega
  · exact z
  · have h5 := h3 (q + 1) (by omega) z
    rw [← he q (by omega)] at h5
    have := h2 (by omega)
    omega
theorem tw_rel_ins {md : Nat → Nat} {s t u u' : Nat → Nat → Nat} {g T : Nat → Nat} {a k d bh q : Nat} (h : tw_rel md s t g T) (ha : a < 4) (hmd : md a < 400) (hbh : tw_bh s a k bh) (g1 : bh ≤ q) (g2 : q ≤ s 9 1) (g3 : ∀ j, bh ≤ j → j < q → tw_new s a d 4 (s 9 0) < tw_new s a d 4 (s 6 j)) (g4 : q < s 9 1 → tw_new s a d 4 (s 6 q) ≤ tw_new s a d 4 (s 9 0)) (hu : u = tw_rcv (tw_wv (tw_new s a d) q (s 9 0)) a (s 9 0)) (hM : tw_insM t u' a k d T (tw_f s a)) :
    tw_rel (tw_md md a) u u' (fun y => if y = t 13 1 then s 9 0 else g y) (tw_ins T (q + 1) (t 13 1)) ∧ tw_cache u u' (tw_ins T (q + 1) (t 13 1)) := by
  obtain ⟨mo, b, q', s2, hmo, hbm, m1, m2, m3, m4, e131, ec, ez0, ez1, ez2, ez3, e6o, e6L, e4z, htr', eo, e130, hu'⟩ := hM
  have hmo' := tw_rel_mo h ha hmo
  subst hmo'
  have hr1 := h.2.1.1 a ha
  have hhas := fun i => @tw_rel_in _ _ _ _ _ h a i ha
  have h0 := h
  obtain ⟨hci, ⟨r1, r2, r3, r4⟩, ⟨e1, a2', a3'⟩, ⟨hli, hor, z0, z1, hfs, htr, hnj, hup⟩⟩ := h
  have hbb := tw_rel_bh e1 hbh hbm
  subst hbb
  have hlt := hci.2.2.2.1.1
  have od := hci.2.2.2.1.2.1
  have nmx : tw_new s a d 4 (s 9 0) = 4 * (s 7 a + 1) + a := by rw [tw_new_4 ha, if_pos rfl]
  have nmo : ∀ j, j < s 9 1 → tw_new s a d 4 (s 6 j) = tw_n t (T (j + 1)) := fun j hj => by
    have hT := hli.2.2.1 (j + 1) (by omega)
    have hT0 := tw_pos hli (show 1 ≤ j + 1 by omega) (by omega)
    rw [tw_new_4 ha, if_neg (by have := (od j hj).1; omega), hor j hj, (a2' _ hT0 hT).2.2.2.2.2.1]
  have hqq : q' = q + 1 := tw_rel_q (x := 4 * (s 7 a + 1) + a) (n1 := fun j => tw_new s a d 4 (s 6 j)) (n2 := fun j => tw_n t (T j)) e1 nmo g1 g2 (by rw [nmx] at g3; exact g3) (by rw [nmx] at g4; exact g4) m1 m2 m3 m4
  subst hqq
  -- the class
  have wo : ∀ c y, c ≠ 3 → c ≠ 4 → c ≠ 6 → (c ≠ 9 ∨ y ≠ 1) → tw_wv (tw_new s a d) q (s 9 0) c y = tw_add s a 0 c y := fun c y h3 h4 h6 h9 => by rw [tw_wv_o h6 h9, tw_new_o h3 h4]
  have n91 : tw_new s a d 9 1 = s 9 1 := by rw [tw_new_o (by omega) (by omega), tw_add_o (by omega) ha]
  have n6 : tw_new s a d 6 = s 6 := funext fun j => by rw [tw_new_o (by omega) (by omega), tw_add_o (by omega) ha]
  have hadds : tw_adds md s (tw_wv (tw_new s a d) q (s 9 0)) a 0 := tw_add_adds ha hr1 (fun c y hc => by
    by_cases z : c = 4
    · have hy : y < s 9 0 := by omega
      rw [z, tw_wv_o (by omega) (by omega), tw_new_4 ha, if_neg (by omega), tw_add_o (by omega) ha]
    · exact wo c y (by omega) z (by omega) (by omega))
  have w91 : tw_wv (tw_new s a d) q (s 9 0) 9 1 = s 9 1 + 1 := by rw [tw_wv_9, n91]
  have w6 : ∀ p, p < s 9 1 + 1 → tw_wv (tw_new s a d) q (s 9 0) 6 p = tw_ins (s 6) q (s 9 0) p := fun p hp => by rw [tw_wv_6 (by rw [n91]; exact hp), n6]
  have w4 : tw_wv (tw_new s a d) q (s 9 0) 4 (s 9 0) = 4 * (s 7 a + 1) + a := by rw [tw_wv_o (by omega) (by omega), nmx]
  have w3 : ∀ y, tw_wv (tw_new s a d) q (s 9 0) 3 y = if y = s 9 0 then d else s 3 y := fun y => by
    rw [tw_wv_o (by omega) (by omega)]
    unfold tw_new
    rw [tw_up_k (by omega)]
    by_cases z : y = s 9 0
    · rw [if_pos z, z, tw_up_e]
    · rw [if_neg z, tw_up_i z, tw_add_o (by omega) ha]
  have hci4 : tw_ci (tw_md md a) (tw_wv (tw_new s a d) q (s 9 0)) := tw_ins_ci hadds hci ha hr1 hmd w91 g2 w6 w4
  generalize tw_wv (tw_new s a d) q (s 9 0) = s4 at hu hadds w91 w6 w4 w3 hci4
  obtain ⟨n1, n2⟩ := tw_rel_new (v := 2 * t 13 1) h0 ha hmd hadds hci4 (s2 := s2) (fun y => eo 10 y (by omega) (by omega)) (fun y => eo 9 y (by omega) (by omega)) (fun y => eo 8 y (by omega) (by omega))
  have l2 := hci.1.2.1
  have l3 := hci.1.2.2.1
  obtain ⟨a0, b0, a1, b1, a2, b2, a16, b16, a20, b20, a24, a5, a7, a8, a4, b9⟩ := hadds
  subst hu
  subst hu'
  have e9 : s2 9 a = md a := by rw [eo 9 a (by omega) (by omega)]; exact r3 a ha
  have en : tw_n (tw_dn s2 a (2 * t 13 1)) = tw_n s2 := funext fun y => by unfold tw_n; rw [tw_dn_o (by omega), tw_dn_o (by omega)]
  have d4 : tw_dn s2 a (2 * t 13 1) 4 = s2 4 := funext fun y => tw_dn_o (by omega)
  have d5 : tw_dn s2 a (2 * t 13 1) 5 = s2 5 := funext fun y => tw_dn_o (by omega)
  have d6 : tw_dn s2 a (2 * t 13 1) 6 = s2 6 := funext fun y => tw_dn_o (by omega)
  have dL : tw_dn s2 a (2 * t 13 1) 13 1 = t 13 1 + 1 := by rw [tw_dn_o (by omega), e131]
  have idx : ∀ i, i < s 9 0 → ¬ 400 * s 0 i + s 1 i = 400 * a + md a := fun i hi z => by
    obtain ⟨x1, x2, -⟩ := l2 i hi
    have := tw_idx (by have := l3 _ x1; omega) hmd z
    rw [this.1] at x2
    omega
  have n2o : ∀ y, y ≠ t 13 1 → tw_n s2 y = tw_n t y := fun y hy => by unfold tw_n; rw [ec 0 y (by omega) hy, ec 1 y (by omega) hy]
  have n2L : tw_n s2 (t 13 1) = 4 * (s 7 a + 1) + a := by unfold tw_n; rw [ez0, ez1]
  refine ⟨⟨n1, n2, ⟨by rw [dL, tw_rcv_o (by omega), w91, e1], fun y h1 h2 => ?_, fun i j hi hj => ?_⟩, ?_⟩, tw_cache_0 tw_dn_13⟩
  · rw [dL] at h2
    dsimp only
    rw [tw_rcv_o (k := 9) (by omega), tw_rcv_o (k := 2) (by omega), tw_rcv_o (k := 0) (by omega), tw_rcv_o (k := 1) (by omega), tw_rcv_o (k := 3) (by omega), tw_rcv_o (k := 4) (by omega), b9, en, tw_dn_o (k := 1) (by omega), tw_dn_o (k := 2) (by omega), tw_dn_o (k := 3) (by omega), tw_dn_7, e9]
    by_cases z : y = t 13 1
    · rw [if_pos z, z, b2, b0, b1, ez1, ez2, ez3, w3, if_pos rfl, w4, n2L, if_pos rfl]
      exact ⟨by omega, rfl, rfl, r3 a ha, rfl, rfl, rfl⟩
    · obtain ⟨x1, x2, x3, x4, x5, x6, x7⟩ := a2' y h1 (by omega)
      rw [if_neg z, a2 _ x1, a0 _ x1, a1 _ x1, a4 _ x1, w3, if_neg (by omega), ec 1 y (by omega) z, ec 2 y (by omega) z, ec 3 y (by omega) z, n2o y z, if_neg (idx _ x1), eo 7 _ (by omega) (by omega)]
      exact ⟨by omega, x2, x3, x4, x5, x6, x7⟩
  · rw [tw_rcv_o (by omega), b9] at hi
    rw [tw_rcv_o (by omega)] at hj
    rw [dL, tw_rcv_o (by omega), tw_rcv_o (by omega), tw_dn_7, e9]
    rcases Nat.lt_or_ge i (s 9 0) with z | z
    · rw [a2 i z] at hj
      obtain ⟨y, y1, y2, y3, y4⟩ := a3' i j z hj
      rw [a0 i z, a1 i z, if_neg (idx i z), eo 7 _ (by omega) (by omega)]
      exact ⟨y, y1, by omega, by dsimp only; rw [if_neg (by omega)]; exact y3, y4⟩
    · have : i = s 9 0 := by omega
      rw [this, b2] at hj
      omega
  · unfold tw_rtree
    rw [dL, en, d4, d5, d6, tw_dn_o (by omega), tw_dn_o (by omega), tw_rcv_o (by omega), w91]
    refine ⟨tw_ins_list hli (by omega) m2, fun p hp => ?_, by rw [ec 0 0 (by omega) (by omega)]; exact z0, by rw [ec 1 0 (by omega) (by omega)]; exact z1, e4z, htr', fun i j hi hj e => ?_, fun y h1 h2 h3 => ?_⟩
    · rw [tw_rcv_o (by omega), w6 p hp]
      dsimp only
      rcases Nat.lt_trichotomy p q with z | z | z
      · rw [tw_ins_lt z, tw_ins_lt (by omega), if_neg (by have := hli.2.2.1 (p + 1) (by omega); omega)]
        exact hor p (by omega)
      · rw [z, tw_ins_eq, tw_ins_eq, if_pos rfl]
      · rw [tw_ins_gt z, tw_ins_gt (by omega), show p + 1 - 1 = (p - 1) + 1 by omega, if_neg (by have := hli.2.2.1 (p - 1 + 1) (by omega); omega)]
        exact hor (p - 1) (by omega)
    · have hxx : ∀ j, j < t 13 1 → tw_n t (T j) ≠ 4 * (s 7 a + 1) + a := by
        intro j hj e
        rcases Nat.eq_zero_or_pos j with z | z
        · rw [z, hli.2.1] at e
          unfold tw_n at e
          rw [z0, z1] at e
          omega
        · have hT := hli.2.2.1 j hj
          have hT0 := tw_pos hli z hj
          obtain ⟨x1, x2, x3, x4, x5, x6, x7⟩ := a2' _ hT0 hT
          have hl := l2 _ x1
          have ee : t 1 (T j) = a ∧ t 0 (T j) = s 7 a + 1 := by unfold tw_n at e; omega
          have hin : t 2 (T j) < t 10 (4 * a + t 1 (T j)) := by
            rw [ee.1, r2 a a ha ha, r1 a ha, x4]
            have := hl.2.1
            rw [← x3, ee.1] at this
            exact this
          have := hmo.1 _ hT0 hT hin
          omega
      have ni : ∀ i, i < t 13 1 + 1 → (i = q + 1 ∧ tw_n s2 (tw_ins T (q + 1) (t 13 1) i) = 4 * (s 7 a + 1) + a) ∨ ∃ i0, i0 < t 13 1 ∧ tw_n s2 (tw_ins T (q + 1) (t 13 1) i) = tw_n t (T i0) ∧ ((i < q + 1 ∧ i = i0) ∨ (q + 1 < i ∧ i = i0 + 1)) := by
        intro i hi
        rcases Nat.lt_trichotomy i (q + 1) with z | z | z
        · refine Or.inr ⟨i, by omega, ?_, Or.inl ⟨z, rfl⟩⟩
          rw [tw_ins_lt z, n2o _ (by have := hli.2.2.1 i (by omega); omega)]
        · exact Or.inl ⟨z, by rw [z, tw_ins_eq, n2L]⟩
        · refine Or.inr ⟨i - 1, by omega, ?_, Or.inr ⟨z, by omega⟩⟩
          rw [tw_ins_gt z, n2o _ (by have := hli.2.2.1 (i - 1) (by omega); omega)]
      rcases ni i hi with ⟨x1, x2⟩ | ⟨i0, x1, x2, x3⟩ <;> rcases ni j hj with ⟨y1, y2⟩ | ⟨j0, y1, y2, y3⟩
      · omega
      · rw [x2, y2] at e
        exact absurd e.symm (hxx j0 y1)
      · rw [x2, y2] at e
        exact absurd e (hxx i0 x1)
      · rw [x2, y2] at e
        have := hnj i0 j0 x1 y1 e
        omega
    · dsimp only
      by_cases z : y = t 13 1
      · rw [z, e6L] at h3 ⊢
        have hbL : bh < t 13 1 := by omega
        have hb1 : 1 ≤ bh := by
          rcases Nat.eq_zero_or_pos bh with w | w
          · rw [w, hli.2.1] at h3; exact absurd rfl h3
          · exact w
        have hT := hli.2.2.1 bh hbL
        have hT0 := tw_pos hli hb1 hbL
        obtain ⟨x1, -⟩ := a2' _ hT0 hT
        rw [if_neg (by omega), if_pos rfl]
        rcases hbh with ⟨-, w⟩ | ⟨p, p1, p2, -, w⟩
        · omega
        · have hs := (hci.2.2.1.2.1 (s 6 p) a ha).mp p2
          rw [hor p p1, ← w] at hs
          have hl := (l2 _ x1).1
          rw [tw_rcv_o (k := 1) (by omega), tw_rcv_o (k := 0) (by omega), a1 _ x1, a0 _ x1, tw_rcv_o (by omega), b16 _ hl]
          exact hs.2.2.1
      · have hy : y < t 13 1 := by omega
        rw [e6o y z] at h3 ⊢
        obtain ⟨i, hi, hTi⟩ := hli.2.2.2.2 y hy
        have hi1 : 1 ≤ i := by
          rcases Nat.eq_zero_or_pos i with w | w
          · rw [w, hli.2.1] at hTi; omega
          · exact w
        obtain ⟨j, j1, j2, -, -⟩ := htr.1 i hi1 hi
        rw [hTi] at j2
        have hj0 : 1 ≤ t 6 y := by omega
        have hj1 : t 6 y < t 13 1 := by rw [j2]; exact hli.2.2.1 j (by omega)
        have hg := (a2' _ hj0 hj1).1
        have hgk := (a2' _ h1 hy).1
        have hl := (l2 _ hg).1
        rw [if_neg (by omega), if_neg z, tw_rcv_o (k := 1) (by omega), tw_rcv_o (k := 0) (by omega), a1 _ hg, a0 _ hg, tw_rcv_o (by omega), a16 _ _ hl hgk]
        exact hup y h1 hy h3
