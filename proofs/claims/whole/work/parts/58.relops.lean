/-! calls that change what copies have -/
theorem tw_rel_kn {md : Nat → Nat} {s t s' t' : Nat → Nat → Nat} {g T : Nat → Nat} (h : tw_rel md s t g T) (hci : tw_ci md s') (ho : ∀ k x, (k < 5 ∨ k = 6 ∨ (8 < k ∧ k < 24)) → s' k x = s k x) (hd : ∀ c, c < 4 → s' (24 + c) c = md c) (hk : ∀ k y, k < 10 → t' k y = t k y) (hL : t' 13 1 = t 13 1) (h10 : ∀ c m, c < 4 → m < 4 → t' 10 (4 * c + m) = s' (24 + c) m) : tw_rel md s' t' g T := by
  have l2 := h.1.1.2.1
  obtain ⟨hci0, ⟨r1, r2, r3, r4⟩, ⟨e1, a2, a3⟩, ⟨hli, hor, z0, z1, hfs, htr, hnj, hup⟩⟩ := h
  have en : tw_n t' = tw_n t := funext fun k => by unfold tw_n; rw [hk 0 k (by omega), hk 1 k (by omega)]
  have e4 : t' 4 = t 4 := funext fun k => hk 4 k (by omega)
  have e5 : t' 5 = t 5 := funext fun k => hk 5 k (by omega)
  have e6 : t' 6 = t 6 := funext fun k => hk 6 k (by omega)
  have s9 : ∀ x, s' 9 x = s 9 x := fun x => ho 9 x (by omega)
  have s0 : ∀ x, s' 0 x = s 0 x := fun x => ho 0 x (by omega)
  have s1 : ∀ x, s' 1 x = s 1 x := fun x => ho 1 x (by omega)
  have s2 : ∀ x, s' 2 x = s 2 x := fun x => ho 2 x (by omega)
  refine ⟨hci, ⟨hd, h10, fun c hc => by rw [hk 9 _ (by omega)]; exact r3 c hc, fun i m hi hm => ?_⟩, ⟨by rw [hL, s9]; exact e1, fun k h1 h2 => ?_, fun i j hi hj => ?_⟩, ?_⟩
  · rw [s9] at hi
    rw [hk 8 _ (by omega), s0, s1, ho (16 + m) i (by omega)]
    exact r4 i m hi hm
  · rw [hL] at h2
    rw [s9, s2, s0, s1, ho 3 _ (by omega), ho 4 _ (by omega), hk 1 k (by omega), hk 2 k (by omega), hk 3 k (by omega), hk 7 _ (by omega), en]
    exact a2 k h1 h2
  · rw [s9] at hi
    rw [s2] at hj
    rw [hL, s0, s1, hk 7 _ (by omega)]
    exact a3 i j hi hj
  · unfold tw_rtree
    rw [hL, en, e4, e5, e6, hk 0 0 (by omega), hk 1 0 (by omega)]
    refine ⟨hli, fun p hp => ?_, z0, z1, hfs, htr, hnj, fun k h1 h2 h3 => ?_⟩
    · rw [s9] at hp
      rw [ho 6 p (by omega)]
      exact hor p hp
    · obtain ⟨i, hi, hTi⟩ := hli.2.2.2.2 k h2
      have hi1 : 1 ≤ i := by
        rcases Nat.eq_zero_or_pos i with z | z
        · rw [z, hli.2.1] at hTi; omega
        · exact z
      obtain ⟨j, j1, j2, -, -⟩ := htr.1 i hi1 hi
      rw [hTi] at j2
      have hj0 : 1 ≤ t 6 k := by omega
      have hj1 : t 6 k < t 13 1 := by rw [j2]; exact hli.2.2.1 j (by omega)
      have hg := (a2 _ hj0 hj1).1
      rw [s1, s0, ho (16 + s 0 (g (t 6 k))) _ (by have := (l2 _ hg).1; omega)]
      exact hup k h1 h2 h3
/-- bring -/
theorem tw_rel_br {md : Nat → Nat} {s t u u' : Nat → Nat → Nat} {g T : Nat → Nat} {a b k : Nat} (h : tw_rel md s t g T) (ha : a < 4) (hb : b < 4) (hab : a ≠ b) (hk : k < md a) (hno : ¬ tw_has s b (s (20 + a) k)) (hcan : ∀ j, j < 4 → s (16 + j) (s (20 + a) k) ≤ s (24 + b) j) (hu : u = tw_rcv s b (s (20 + a) k)) (hu' : u' = tw_up (tw_up (tw_up t 13 0 0) 10 (4 * b + a) (k + 1)) 13 2 0) : tw_rel md u u' g T ∧ tw_cache u u' T := by
  have hci := h.1
  obtain ⟨x1, x2, x3⟩ := h.1.1.1 a k ha hk
  have hl4 := (h.1.1.2.2.2.1 _ x1).1
  rw [x2, x3] at hl4
  have hc := hcan a ha
  unfold tw_has at hno
  rw [x2, x3] at hno
  have hk2 : s 1 (s (20 + a) k) = s (24 + b) (s 0 (s (20 + a) k)) := by rw [x2, x3]; omega
  obtain ⟨r1, r2, r3, r4⟩ := h.2.1
  subst hu
  subst hu'
  refine ⟨tw_rel_kn h (tw_rcv_ci hci hb x1 hk2 hcan) (fun k' x hx => tw_rcv_o hx) (fun c hc => ?_) (fun k' y hk' => ?_) rfl (fun c m hc hm => ?_), tw_cache_0 rfl⟩
  · rw [tw_rcv_k, x2, if_neg (by omega)]
    exact r1 c hc
  · rw [tw_up_k (by omega), tw_up_k (by omega), tw_up_k (by omega)]
  · rw [tw_up_k (by omega), tw_rcv_k, x2, x3]
    by_cases e : c = b ∧ m = a
    · rw [if_pos e, e.1, e.2, tw_up_e]
    · rw [if_neg e, tw_up_i (by omega), tw_up_k (by omega)]
      exact r2 c m hc hm
/-- what bring looks at, on both sides -/
theorem tw_rel_brc {md : Nat → Nat} {s t : Nat → Nat → Nat} {g T : Nat → Nat} {a b k : Nat} (h : tw_rel md s t g T) (ha : a < 4) (hb : b < 4) (hk : k < md a) : (tw_has s b (s (20 + a) k) ↔ k < t 10 (4 * b + a)) ∧ ∀ j, j < 4 → (s (16 + j) (s (20 + a) k) ≤ s (24 + b) j ↔ t 8 ((400 * a + k) * 4 + j) ≤ t 10 (4 * b + j)) := by
  obtain ⟨x1, x2, x3⟩ := h.1.1.1 a k ha hk
  obtain ⟨r1, r2, r3, r4⟩ := h.2.1
  constructor
  · unfold tw_has
    rw [x2, x3, r2 b a hb ha]
  · intro j hj
    have := r4 _ j x1 hj
    rw [x2, x3] at this
    rw [this, r2 b j hb hj]
/-- merge -/
theorem tw_rel_mg {md : Nat → Nat} {s t u u' sm : Nat → Nat → Nat} {g T : Nat → Nat} {a b n n' : Nat} (h : tw_rel md s t g T) (ha : a < 4) (hb : b < 4) (hm : tw_mrg md s u a b (s 9 0) n) (hm' : tw_mm t sm a b 4 n') (hu' : u' = tw_up sm 13 2 0) : n = n' ∧ tw_rel md u u' g T ∧ tw_cache u u' T := by
  have hmax := tw_mrg_end hm h.1 ha
  obtain ⟨c1, c2, c3, c4, c5, c6, c7⟩ := hm
  obtain ⟨m1, m2, m3, m4⟩ := hm'
  obtain ⟨r1, r2, r3, r4⟩ := h.2.1
  have k1 := h.1.2.1.1
  have e : ∀ j, j < 4 → sm 10 (4 * b + j) = u (24 + b) j := fun j hj => by rw [m1 j hj, if_pos hj, hmax j hj, r2 b j hb hj, r2 a j ha hj]
  subst hu'
  refine ⟨?_, tw_rel_kn h c1 c2 (fun c hc => ?_) (fun k' y hk' => ?_) ?_ (fun c m hc hm => ?_), tw_cache_0 (by rw [tw_up_e])⟩
  · rw [e 0 (by omega), e 1 (by omega), e 2 (by omega), e 3 (by omega), r2 b 0 hb (by omega), r2 b 1 hb (by omega), r2 b 2 hb (by omega), r2 b 3 hb (by omega)] at m4
    omega
  · by_cases z : c = b
    · rw [z, hmax b hb, r1 b hb]
      have := k1 a b ha hb
      omega
    · rw [c3 c c hc z]
      exact r1 c hc
  · rw [tw_up_k (by omega), m3 k' y (by omega), tw_up_k (by omega)]
  · rw [tw_up_i (by omega), m3 13 1 (by omega), tw_up_i (by omega)]
  · rw [tw_up_k (by omega)]
    by_cases z : c = b
    · rw [z]; exact e m hm
    · rw [m2 _ (fun j hj => by omega), r2 c m hc hm, c3 c m hc z]
/-- the class's new change -/
theorem tw_hadK_r {st s : Nat → Nat → Nat} {a i m y : Nat} (hm : m < 4) : tw_hadK st s a i 4 (16 + m) y = if y = i then st (24 + a) m else s (16 + m) y := by
  show tw_up (tw_up (tw_up (tw_up s (16 + 0) i (st (24 + a) 0)) (16 + 1) i (st (24 + a) 1)) (16 + 2) i (st (24 + a) 2)) (16 + 3) i (st (24 + a) 3) (16 + m) y = _
  by_cases g : y = i
  · rw [if_pos g, g]
    rcases (show m = 0 ∨ m = 1 ∨ m = 2 ∨ m = 3 by omega) with rfl | rfl | rfl | rfl
    · rw [tw_up_k (by omega), tw_up_k (by omega), tw_up_k (by omega), tw_up_e]
    · rw [tw_up_k (by omega), tw_up_k (by omega), tw_up_e]
    · rw [tw_up_k (by omega), tw_up_e]
    · rw [tw_up_e]
  · rw [if_neg g, tw_up_i g, tw_up_i g, tw_up_i g, tw_up_i g]
theorem tw_add_adds {md : Nat → Nat} {s s' : Nat → Nat → Nat} {a t : Nat} (ha : a < 4) (hm : s (24 + a) a = md a) (hs : ∀ k y, (k < 3 ∨ k = 5 ∨ k = 7 ∨ k = 8 ∨ 16 ≤ k ∨ (k = 9 ∧ y = 0) ∨ (k = 4 ∧ y < s 9 0)) → s' k y = tw_add s a t k y) : tw_adds md s s' a t := by
  have e3 : ∀ k y, k ≤ 2 → s' k y = tw_add3 s a t k y := fun k y hk => by rw [hs k y (by omega), tw_add_l hk ha]
  have e16 : ∀ m y, m < 4 → s' (16 + m) y = if y = s 9 0 then s (24 + a) m else s (16 + m) y := fun m y h => by
    rw [hs _ y (by omega)]
    unfold tw_add
    rw [tw_up_k (by omega), tw_up_k (by omega), tw_hadK_r h, tw_add3_o (by omega)]
  have e20 : ∀ d k, d < 4 → s' (20 + d) k = if d = a ∧ k = md a then s 9 0 else s (20 + d) k := fun d k h => by
    rw [hs _ k (by omega)]
    unfold tw_add
    rw [tw_up_k (by omega)]
    by_cases g : d = a
    · by_cases g2 : k = md a
      · rw [if_pos ⟨g, g2⟩, g, g2, ← hm, tw_up_e]
      · rw [if_neg (fun z => g2 z.2), tw_up_i (by rw [hm]; exact g2), tw_hadK_o (by omega) (by omega), tw_add3_o (by omega)]
    · rw [if_neg (fun z => g z.1), tw_up_k (by omega), tw_hadK_o (by omega) (by omega), tw_add3_o (by omega)]
  refine ⟨fun x hx => ?_, by rw [hs 0 _ (by omega), tw_add_0 ha], fun x hx => ?_, by rw [hs 1 _ (by omega), tw_add_1 ha, hm], fun x hx => ?_, by rw [hs 2 _ (by omega), tw_add_2 ha], fun m x h1 h2 => by rw [e16 m x h1, if_neg (by omega)], fun m h1 => by rw [e16 m _ h1, if_pos rfl], fun d k h1 h2 => by rw [e20 d k h1, if_neg (by omega)], by rw [e20 a _ ha, if_pos ⟨rfl, rfl⟩], fun d m h1 => by rw [hs _ m (by omega), tw_add_o (by omega) ha], fun x => by rw [hs 5 x (by omega), tw_add_o (by omega) ha], fun x => by rw [hs 7 x (by omega), tw_add_o (by omega) ha], fun x => by rw [hs 8 x (by omega), tw_add_o (by omega) ha], fun x hx => by rw [hs 4 x (by omega), tw_add_o (by omega) ha], by rw [hs 9 0 (by omega), tw_add_9]⟩
  · rw [e3 0 x (by omega)]; unfold tw_add3; rw [tw_up_k (by omega), tw_up_k (by omega), tw_up_i (by omega)]
  · rw [e3 1 x (by omega)]; unfold tw_add3; rw [tw_up_k (by omega), tw_up_i (by omega), tw_up_k (by omega)]
  · rw [e3 2 x (by omega)]; unfold tw_add3; rw [tw_up_i (by omega), tw_up_k (by omega), tw_up_k (by omega)]
/-- the reference's new change -/
theorem tw_dn_o {st : Nat → Nat → Nat} {a h k y : Nat} (h1 : k < 7 ∨ (k = 13 ∧ y ≠ 2)) : tw_dn st a h k y = st k y := by
  unfold tw_dn
  have e : ∀ z : Nat → Nat → Nat, tw_up z 13 2 0 k y = z k y := fun z => by
    by_cases g : k = 13
    · exact tw_up_i (by omega)
    · exact tw_up_k g
  rw [e, tw_up_k (by omega), tw_up_k (by omega), tw_dnK_o (by omega), tw_up_k (by omega)]
theorem tw_dn_7 {st : Nat → Nat → Nat} {a h y : Nat} : tw_dn st a h 7 y = if y = 400 * a + st 9 a then h else st 7 y := by
  unfold tw_dn
  rw [tw_up_k (by omega), tw_up_k (by omega), tw_up_k (by omega), tw_dnK_o (by omega)]
  by_cases g : y = 400 * a + st 9 a
  · rw [if_pos g, g, tw_up_e]
  · rw [if_neg g, tw_up_i g]
theorem tw_dn_9 {st : Nat → Nat → Nat} {a h y : Nat} : tw_dn st a h 9 y = if y = a then st 9 a + 1 else st 9 y := by
  unfold tw_dn
  rw [tw_up_k (by omega), tw_up_k (by omega)]
  by_cases g : y = a
  · rw [if_pos g, g, tw_up_e]
  · rw [if_neg g, tw_up_i g, tw_dnK_o (by omega), tw_up_k (by omega)]
theorem tw_dn_10 {st : Nat → Nat → Nat} {a h y : Nat} : tw_dn st a h 10 y = if y = 4 * a + a then st 10 (4 * a + a) + 1 else st 10 y := by
  unfold tw_dn
  rw [tw_up_k (by omega)]
  by_cases g : y = 4 * a + a
  · rw [if_pos g, g, tw_up_e]
  · rw [if_neg g, tw_up_i g, tw_up_k (by omega), tw_dnK_o (by omega), tw_up_k (by omega)]
theorem tw_dn_8 {st : Nat → Nat → Nat} {a h c k m : Nat} (hm : m < 4) : tw_dn st a h 8 ((400 * c + k) * 4 + m) = if 400 * c + k = 400 * a + st 9 a then st 10 (4 * a + m) else st 8 ((400 * c + k) * 4 + m) := by
  unfold tw_dn
  rw [tw_up_k (by omega), tw_up_k (by omega), tw_up_k (by omega)]
  show tw_up (tw_up (tw_up (tw_up (tw_up st 7 (400 * a + st 9 a) h) 8 ((400 * a + st 9 a) * 4 + 0) (st 10 (4 * a + 0))) 8 ((400 * a + st 9 a) * 4 + 1) (st 10 (4 * a + 1))) 8 ((400 * a + st 9 a) * 4 + 2) (st 10 (4 * a + 2))) 8 ((400 * a + st 9 a) * 4 + 3) (st 10 (4 * a + 3)) 8 ((400 * c + k) * 4 + m) = _
  by_cases g : 400 * c + k = 400 * a + st 9 a
  · rw [if_pos g, g]
    rcases (show m = 0 ∨ m = 1 ∨ m = 2 ∨ m = 3 by omega) with rfl | rfl | rfl | rfl
    · rw [tw_up_i (by omega), tw_up_i (by omega), tw_up_i (by omega), tw_up_e]
    · rw [tw_up_i (by omega), tw_up_i (by omega), tw_up_e]
    · rw [tw_up_i (by omega), tw_up_e]
    · rw [tw_up_e]
  · rw [if_neg g, tw_up_i (by omega), tw_up_i (by omega), tw_up_i (by omega), tw_up_i (by omega), tw_up_k (by omega)]
theorem tw_dn_13 {st : Nat → Nat → Nat} {a h : Nat} : tw_dn st a h 13 2 = 0 := by unfold tw_dn; rw [tw_up_e]
/-- what both sides say of a change made by a: the log -/
theorem tw_rel_new {md : Nat → Nat} {s t s4 s2 : Nat → Nat → Nat} {g T : Nat → Nat} {a w v : Nat} (h : tw_rel md s t g T) (ha : a < 4) (hmd : md a < 400) (hadds : tw_adds md s s4 a w) (hci : tw_ci (tw_md md a) s4) (h10 : ∀ y, s2 10 y = t 10 y) (h9 : ∀ y, s2 9 y = t 9 y) (h8 : ∀ y, s2 8 y = t 8 y) :
    tw_ci (tw_md md a) (tw_rcv s4 a (s 9 0)) ∧ tw_rlog (tw_md md a) (tw_rcv s4 a (s 9 0)) (tw_dn s2 a v) := by
  obtain ⟨hci0, ⟨r1, r2, r3, r4⟩, -, -⟩ := h
  obtain ⟨l1, l2, l3, -, -⟩ := hci0.1
  obtain ⟨a0, b0, a1, b1, a2, b2, a16, b16, a20, b20, a24, a5, a7, a8, a4, b9⟩ := hadds
  have hk : s4 1 (s 9 0) = s4 (24 + a) (s4 0 (s 9 0)) := by rw [b1, b0, a24 a _ ha, r1 a ha]
  have e9 : s2 9 a = md a := by rw [h9, r3 a ha]
  refine ⟨tw_rcv_ci hci ha (by rw [b9]; omega) hk (fun m hm => by rw [b16 m hm, a24 a m ha]; exact Nat.le_refl _), fun c hc => ?_, fun c m hc hm => ?_, fun c hc => ?_, fun i m hi hm => ?_⟩
  · rw [tw_rcv_k, b0, b1]
    by_cases e : c = a
    · rw [if_pos ⟨e, e⟩, e, tw_md_c]
    · rw [if_neg (fun z => e z.1), a24 c c hc, tw_md_ne e]
      exact r1 c hc
  · rw [tw_dn_10, h10, h10, tw_rcv_k, b0, b1]
    by_cases e : c = a ∧ m = a
    · rw [if_pos (by omega), if_pos e, r2 a a ha ha, r1 a ha]
    · rw [if_neg (by omega), if_neg e, a24 c m hc]
      exact r2 c m hc hm
  · rw [tw_dn_9, e9, h9]
    by_cases e : c = a
    · rw [if_pos e, e, tw_md_c]
    · rw [if_neg e, tw_md_ne e]
      exact r3 c hc
  · rw [tw_rcv_o (by omega), b9] at hi
    rw [tw_rcv_o (by omega), tw_rcv_o (by omega), tw_rcv_o (by omega), tw_dn_8 hm, e9, h10, h8]
    rcases Nat.lt_or_ge i (s 9 0) with z | z
    · obtain ⟨x1, x2, -⟩ := l2 i z
      have x4 := l3 _ x1
      rw [a0 i z, a1 i z, a16 m i hm z, if_neg (fun q => by have := tw_idx (by omega) hmd q; rw [this.1] at x2; omega)]
      exact r4 i m z hm
    · have : i = s 9 0 := by omega
      rw [this, b0, b1, b16 m hm, if_pos rfl]
      exact r2 a m ha hm
/-- remove -/
theorem tw_rel_rm {md : Nat → Nat} {s t u u' s1 : Nat → Nat → Nat} {g T : Nat → Nat} {a p c : Nat} (h : tw_rel md s t g T) (ha : a < 4) (hmd : md a < 400) (hp : p < s 9 1) (hf : tw_f s a p = true) (hs1 : tw_lkr t s1 a T (tw_f s a) c) (hu : u = tw_rcv (tw_add s a (s 6 p + 1)) a (s 9 0)) (hu' : u' = tw_dn s1 a (2 * T (p + 1) + 1)) : tw_rel (tw_md md a) u u' g T ∧ tw_cache u u' T := by
  have h' := tw_rel_congr h (t' := s1) (fun k y hk => hs1.2.2.2.2 k y (by omega) (by omega) (by omega)) (hs1.2.2.2.2 13 1 (by omega) (by omega) (by omega))
  have hr1 := h.2.1.1 a ha
  have hadds : tw_adds md s (tw_add s a (s 6 p + 1)) a (s 6 p + 1) := tw_add_adds ha hr1 (fun _ _ _ => rfl)
  have hsh := (h.1.2.2.1.2.1 (s 6 p) a ha).mp hf
  have hci : tw_ci (tw_md md a) (tw_add s a (s 6 p + 1)) := tw_rem_ci hadds h.1 ha hr1 hmd hsh.1 hsh.2.1 hsh.2.2.1 (by rw [tw_add_o (by omega) ha]) (fun q => by rw [tw_add_o (by omega) ha])
  obtain ⟨n1, n2⟩ := tw_rel_new (v := 2 * T (p + 1) + 1) h' ha hmd hadds hci (fun _ => rfl) (fun _ => rfl) (fun _ => rfl)
  have l2 := h.1.1.2.1
  have l3 := h.1.1.2.2.1
  have r3 := h'.2.1.2.2.1
  obtain ⟨-, -, ⟨e1, a2', a3'⟩, ⟨hli, hor, z0, z1, hfs, htr, hnj, hup⟩⟩ := h'
  obtain ⟨a0, b0, a1, b1, a2, b2, a16, b16, a20, b20, a24, a5, a7, a8, a4, b9⟩ := hadds
  subst hu
  subst hu'
  have e9 : s1 9 a = md a := r3 a ha
  have en : tw_n (tw_dn s1 a (2 * T (p + 1) + 1)) = tw_n s1 := funext fun k => by unfold tw_n; rw [tw_dn_o (by omega), tw_dn_o (by omega)]
  have d4 : tw_dn s1 a (2 * T (p + 1) + 1) 4 = s1 4 := funext fun k => tw_dn_o (by omega)
  have d5 : tw_dn s1 a (2 * T (p + 1) + 1) 5 = s1 5 := funext fun k => tw_dn_o (by omega)
  have d6 : tw_dn s1 a (2 * T (p + 1) + 1) 6 = s1 6 := funext fun k => tw_dn_o (by omega)
  have dL : tw_dn s1 a (2 * T (p + 1) + 1) 13 1 = s1 13 1 := tw_dn_o (by omega)
  have idx : ∀ i, i < s 9 0 → ¬ 400 * s 0 i + s 1 i = 400 * a + md a := fun i hi q => by
    obtain ⟨x1, x2, -⟩ := l2 i hi
    have := tw_idx (by have := l3 _ x1; omega) hmd q
    rw [this.1] at x2
    omega
  have s91 : tw_add s a (s 6 p + 1) 9 1 = s 9 1 := tw_add_o (by omega) ha
  refine ⟨⟨n1, n2, ⟨by rw [dL, tw_rcv_o (by omega), s91]; exact e1, fun k h1 h2 => ?_, fun i j hi hj => ?_⟩, ?_⟩, tw_cache_0 tw_dn_13⟩
  · rw [dL] at h2
    obtain ⟨x1, x2, x3, x4, x5, x6, x7⟩ := a2' k h1 h2
    rw [tw_rcv_o (by omega), tw_rcv_o (by omega), tw_rcv_o (by omega), tw_rcv_o (by omega), tw_rcv_o (by omega), tw_rcv_o (by omega), b9, a2 _ x1, a0 _ x1, a1 _ x1, a4 _ x1, tw_add_o (k := 3) (by omega) ha, en, tw_dn_o (by omega), tw_dn_o (by omega), tw_dn_o (by omega), tw_dn_7, e9, if_neg (idx _ x1)]
    exact ⟨by omega, x2, x3, x4, x5, x6, x7⟩
  · rw [tw_rcv_o (by omega), b9] at hi
    rw [tw_rcv_o (by omega)] at hj
    rw [dL, tw_rcv_o (by omega), tw_rcv_o (by omega), tw_dn_7, e9]
    rcases Nat.lt_or_ge i (s 9 0) with z | z
    · rw [a2 i z] at hj
      rw [a0 i z, a1 i z, if_neg (idx i z)]
      exact a3' i j z hj
    · have : i = s 9 0 := by omega
      rw [this, b2] at hj
      rw [this, b0, b1, if_pos rfl]
      exact ⟨T (p + 1), tw_pos hli (by omega) (by omega), hli.2.2.1 _ (by omega), by rw [← hor p hp]; omega, rfl⟩
  · unfold tw_rtree
    rw [dL, en, d4, d5, d6, tw_dn_o (by omega), tw_dn_o (by omega), tw_rcv_o (by omega), s91]
    refine ⟨hli, fun q hq => ?_, z0, z1, hfs, htr, hnj, fun k h1 h2 h3 => ?_⟩
    · rw [tw_rcv_o (by omega), tw_add_o (by omega) ha]
      exact hor q hq
    · obtain ⟨i, hi, hTi⟩ := hli.2.2.2.2 k h2
      have hi1 : 1 ≤ i := by
        rcases Nat.eq_zero_or_pos i with z | z
        · rw [z, hli.2.1] at hTi; omega
        · exact z
      obtain ⟨j, j1, j2, -, -⟩ := htr.1 i hi1 hi
      rw [hTi] at j2
      have hj0 : 1 ≤ s1 6 k := by omega
      have hj1 : s1 6 k < s1 13 1 := by rw [j2]; exact hli.2.2.1 j (by omega)
      have hg := (a2' _ hj0 hj1).1
      have hgk := (a2' _ h1 h2).1
      have hl := (l2 _ hg).1
      rw [tw_rcv_o (k := 1) (by omega), tw_rcv_o (k := 0) (by omega), a1 _ hg, a0 _ hg, tw_rcv_o (by omega), a16 _ _ hl hgk]
      exact hup k h1 h2 h3
