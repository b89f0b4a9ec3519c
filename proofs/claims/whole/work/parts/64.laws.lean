/-! The law's comparisons, call by call: what the class did and what the reference did agree. -/
def tw_inv (j : Nat) (s t : Nat → Nat → Nat) : Prop := ∃ md g T, tw_rel md s t g T ∧ tw_cache s t T ∧ s 9 0 ≤ j ∧ (∀ y, s 4 y < 2147483648) ∧ (∀ y, t 0 y < 1000000) ∧ (∀ y, t 8 y < 2147483648) ∧ ∀ y, t 10 y < 2147483648
def tw_agr (r r' : Int32) (l0 : Int64) (c : Nat) : Prop := nI c = r ∧ (r = nI 0 → l0 = r'.toInt64)
theorem tw_nnc {a : Nat} (h : a < 4) : ¬ tw_nc (nI a) := fun q => q.elim (fun g => nI_pos (by omega) g) (fun g => by have := (tw_lt (a := 3) (b := a) (by omega) (by omega)).mp g; omega)
theorem tw_a4 {a b : Nat} (ha : a < 4) (hb : b < 4) (h : nI a = nI b) : a = b := (tw_eq (by omega) (by omega)).mp h
theorem tw_n10 : ¬ nI 1 = nI 0 := by decide
theorem tw_n20 : ¬ nI 2 = nI 0 := by decide
section TWI
variable {j : Nat} {s t : Nat → Nat → Nat} {md g T : Nat → Nat}
theorem tw_inv_thr {c : Nat} (h : tw_rel md s t g T) (hc : tw_cache s t T) (hn : s 9 0 ≤ j) (b4 : ∀ y, s 4 y < 2147483648) (b0 : ∀ y, t 0 y < 1000000) (b8 : ∀ y, t 8 y < 2147483648) (b10 : ∀ y, t 10 y < 2147483648) : tw_inv (j + 1) s (tw_up t 13 0 c) :=
  ⟨md, g, T, (tw_rel_thr h hc).1, (tw_rel_thr (c := c) h hc).2, by omega, b4, b0, b8, b10⟩
theorem tw_inv_lkr {a c : Nat} {u : Nat → Nat → Nat} (h : tw_rel md s t g T) (ha : a < 4) (hu : tw_lkr t u a T (tw_f s a) c) (hn : s 9 0 ≤ j) (b4 : ∀ y, s 4 y < 2147483648) (b0 : ∀ y, t 0 y < 1000000) (b8 : ∀ y, t 8 y < 2147483648) (b10 : ∀ y, t 10 y < 2147483648) : tw_inv (j + 1) s u := by
  have e : ∀ k y, k < 11 → u k y = t k y := fun k y hk => hu.2.2.2.2 k y (by omega) (by omega) (by omega)
  exact ⟨md, g, T, (tw_rel_lkr h ha hu).1, (tw_rel_lkr h ha hu).2, by omega, b4, fun y => by rw [e 0 y (by omega)]; exact b0 y, fun y => by rw [e 8 y (by omega)]; exact b8 y, fun y => by rw [e 10 y (by omega)]; exact b10 y⟩
theorem tw_law_length {v r r' : Int32} {fo : Nat → Int64} {u : (Nat → Nat → Nat) × (Nat → Int64)} {u' : Nat → Nat → Nat} (h : tw_rel md s t g T) (hc : tw_cache s t T) (hn : s 9 0 ≤ j) (hj : j < 512) (b4 : ∀ y, s 4 y < 2147483648) (b0 : ∀ y, t 0 y < 1000000) (b8 : ∀ y, t 8 y < 2147483648) (b10 : ∀ y, t 10 y < 2147483648)
    (h1 : tw_wr (fun rr u => ∃ a, a < 4 ∧ v = nI a ∧ rr = nI (s 8 a) ∧ u = s) (fun u => u = 1 ∧ tw_nc v) s fo r u) (h2 : (tw_nc v ∧ u' = tw_up t 13 0 1) ∨ ∃ a, a < 4 ∧ v = nI a ∧ r' = nI (tw_cn (tw_f s a) (t 13 1 - 1)) ∧ tw_lkr t u' a T (tw_f s a) 0) : tw_agr r r' (u.2 0) (u' 13 0) ∧ tw_inv (j + 1) u.1 u' := by
  have e1 := h.2.2.1.1
  rcases h1 with ⟨rfl, rr, ⟨a, ha, rfl, rfl, hu⟩, ho⟩ | ⟨c, rfl, hc12, ⟨rfl, hnc⟩, rfl⟩
  · rcases h2 with ⟨q, -⟩ | ⟨a', ha', e, rfl, hl⟩
    · exact absurd q (tw_nnc ha)
    · have := tw_a4 ha ha' e
      subst this
      rw [hu]
      refine ⟨⟨by rw [hl.1], fun _ => ?_⟩, tw_inv_lkr h ha hl hn b4 b0 b8 b10⟩
      rw [ho, e1, show s 9 1 + 1 - 1 = s 9 1 by omega, h.1.2.2.1.2.2 a ha]
      rfl
  · rcases h2 with ⟨-, rfl⟩ | ⟨a', ha', rfl, -⟩
    · exact ⟨⟨by rw [tw_up_e], fun q => absurd q tw_n10⟩, tw_inv_thr h hc hn b4 b0 b8 b10⟩
    · exact absurd hnc (tw_nnc ha')
theorem tw_law_pl {v i r r' : Int32} {fo : Nat → Int64} {u : (Nat → Nat → Nat) × (Nat → Int64)} {u' : Nat → Nat → Nat} {g1 g2 : Nat → Nat} (h : tw_rel md s t g T) (hc : tw_cache s t T) (hn : s 9 0 ≤ j) (hj : j < 512) (b4 : ∀ y, s 4 y < 2147483648) (b0 : ∀ y, t 0 y < 1000000) (b8 : ∀ y, t 8 y < 2147483648) (b10 : ∀ y, t 10 y < 2147483648) (he : ∀ p, p < s 9 1 → g1 p = g2 p)
    (h1 : tw_wr (fun rr u => ∃ a, a < 4 ∧ v = nI a ∧ ¬ i < 0 ∧ tw_pl s a i rr g1 ∧ u = s) (fun u => u = 1 ∧ (tw_nc v ∨ i < 0)) s fo r u) (h2 : ((tw_nc v ∨ i < 0) ∧ u' = tw_up t 13 0 1) ∨ ∃ a, a < 4 ∧ v = nI a ∧ ¬ i < 0 ∧ tw_lkr t u' a T (tw_f s a) 0 ∧ tw_plM (t 13 1) (tw_f s a) i r' g2) : tw_agr r r' (u.2 0) (u' 13 0) ∧ tw_inv (j + 1) u.1 u' := by
  have e1 := h.2.2.1.1
  have hb := (tw_bd_of h.1 (by omega)).1
  rcases h1 with ⟨rfl, rr, ⟨a, ha, rfl, hi, hp, hu⟩, ho⟩ | ⟨c, rfl, hc12, ⟨rfl, hnc⟩, rfl⟩
  · rcases h2 with ⟨q, -⟩ | ⟨a', ha', e, -, hl, hp'⟩
    · exact absurd q (fun q => q.elim (tw_nnc ha) hi)
    · have := tw_a4 ha ha' e
      subst this
      rw [hu]
      refine ⟨⟨by rw [hl.1], fun _ => ?_⟩, tw_inv_lkr h ha hl hn b4 b0 b8 b10⟩
      rw [ho, tw_pl_eq e1 hb hp hp' he]
  · rcases h2 with ⟨-, rfl⟩ | ⟨a', ha', rfl, hi', -⟩
    · exact ⟨⟨by rw [tw_up_e], fun q => absurd q tw_n10⟩, tw_inv_thr h hc hn b4 b0 b8 b10⟩
    · exact absurd hnc (fun q => q.elim (tw_nnc ha') hi')
theorem tw_law_has {v i r r' : Int32} {fo : Nat → Int64} {u : (Nat → Nat → Nat) × (Nat → Int64)} {u' : Nat → Nat → Nat} (h : tw_rel md s t g T) (hc : tw_cache s t T) (hn : s 9 0 ≤ j) (b4 : ∀ y, s 4 y < 2147483648) (b0 : ∀ y, t 0 y < 1000000) (b8 : ∀ y, t 8 y < 2147483648) (b10 : ∀ y, t 10 y < 2147483648)
    (h1 : tw_wr (fun rr u => ∃ a b, a < 4 ∧ v = nI a ∧ b < 4 ∧ i = nI b ∧ rr = nI (s (24 + a) b) ∧ u = s) (fun u => u = 1 ∧ (tw_nc v ∨ tw_nc i)) s fo r u) (h2 : ((tw_nc v ∨ tw_nc i) ∧ u' = tw_up t 13 0 1) ∨ ∃ a b, a < 4 ∧ v = nI a ∧ b < 4 ∧ i = nI b ∧ r' = nI (t 10 (4 * a + b)) ∧ u' = tw_up t 13 0 0) : tw_agr r r' (u.2 0) (u' 13 0) ∧ tw_inv (j + 1) u.1 u' := by
  rcases h1 with ⟨rfl, rr, ⟨a, b, ha, rfl, hb, rfl, rfl, hu⟩, ho⟩ | ⟨c, rfl, hc12, ⟨rfl, hnc⟩, rfl⟩
  · rcases h2 with ⟨q, -⟩ | ⟨a', b', ha', e, hb', e2, rfl, rfl⟩
    · exact absurd q (fun q => q.elim (tw_nnc ha) (tw_nnc hb))
    · have := tw_a4 ha ha' e
      subst this
      have := tw_a4 hb hb' e2
      subst this
      rw [hu]
      refine ⟨⟨by rw [tw_up_e], fun _ => ?_⟩, tw_inv_thr h hc hn b4 b0 b8 b10⟩
      rw [ho, h.2.1.2.1 a b ha hb]
  · rcases h2 with ⟨-, rfl⟩ | ⟨a', b', ha', rfl, hb', rfl, -⟩
    · exact ⟨⟨by rw [tw_up_e], fun q => absurd q tw_n10⟩, tw_inv_thr h hc hn b4 b0 b8 b10⟩
    · exact absurd hnc (fun q => q.elim (tw_nnc ha') (tw_nnc hb'))
theorem tw_law_merge {v i r r' : Int32} {fo : Nat → Int64} {u : (Nat → Nat → Nat) × (Nat → Int64)} {u' : Nat → Nat → Nat} (h : tw_rel md s t g T) (hc : tw_cache s t T) (hn : s 9 0 ≤ j) (hj : j < 512) (b4 : ∀ y, s 4 y < 2147483648) (b0 : ∀ y, t 0 y < 1000000) (b8 : ∀ y, t 8 y < 2147483648) (b10 : ∀ y, t 10 y < 2147483648)
    (h1 : tw_wr (fun rr u => ∃ a b k, a < 4 ∧ v = nI a ∧ b < 4 ∧ i = nI b ∧ rr = nI k ∧ tw_mrg md s u a b (s 9 0) k) (fun u => u = 1 ∧ (tw_nc v ∨ tw_nc i)) s fo r u) (h2 : ((tw_nc v ∨ tw_nc i) ∧ u' = tw_up t 13 0 1) ∨ ∃ a b k, a < 4 ∧ v = nI a ∧ b < 4 ∧ i = nI b ∧ r' = nI k ∧ ∃ sm, tw_mm t sm a b 4 k ∧ u' = tw_up sm 13 2 0) : tw_agr r r' (u.2 0) (u' 13 0) ∧ tw_inv (j + 1) u.1 u' := by
  rcases h1 with ⟨rfl, rr, ⟨a, b, k, ha, rfl, hb, rfl, rfl, hm⟩, ho⟩ | ⟨c, rfl, hc12, ⟨rfl, hnc⟩, rfl⟩
  · rcases h2 with ⟨q, -⟩ | ⟨a', b', k', ha', e, hb', e2, rfl, sm, hm', hu'⟩
    · exact absurd q (fun q => q.elim (tw_nnc ha) (tw_nnc hb))
    · have := tw_a4 ha ha' e
      subst this
      have := tw_a4 hb hb' e2
      subst this
      obtain ⟨x1, x2, x3⟩ := tw_rel_mg h ha hb hm hm' hu'
      have k1 := h.1.2.1.1
      have e10 := x2.2.1.2.1
      have hs : ∀ k y, k ≠ 10 → (k ≠ 13 ∨ (y ≠ 2 ∧ y ≠ 0)) → u' k y = t k y := fun k y h1 h2 => by
        rw [hu']
        have z1 : tw_up sm 13 2 0 k y = sm k y := by
          by_cases g : k = 13
          · exact tw_up_i (by omega)
          · exact tw_up_k g
        rw [z1, hm'.2.2.1 k y h1]
        by_cases g : k = 13
        · exact tw_up_i (by omega)
        · exact tw_up_k g
      refine ⟨⟨?_, fun _ => by rw [ho, x1]⟩, md, g, T, x2, x3, ?_, fun y => ?_, fun y => by rw [hs 0 y (by omega) (by omega)]; exact b0 y, fun y => by rw [hs 8 y (by omega) (by omega)]; exact b8 y, fun y => ?_⟩
      · rw [hu', tw_up_i (by omega), hm'.2.2.1 13 0 (by omega), tw_up_e]
      · rw [hm.2.1 9 0 (by omega)]; omega
      · rw [hm.2.1 4 y (by omega)]; exact b4 y
      · by_cases g : ∃ q, q < 4 ∧ y = 4 * b + q
        · obtain ⟨q, q1, rfl⟩ := g
          have := (tw_bd_of x2.1 (by rw [hm.2.1 9 0 (by omega)]; omega : u.1 9 0 ≤ 512)).2.2.2.1 b q hb q1
          rw [e10 b q hb q1]
          omega
        · rw [hu', tw_up_k (by omega), hm'.2.1 y (fun q q1 q2 => g ⟨q, q1, q2⟩)]
          exact b10 y
  · rcases h2 with ⟨-, rfl⟩ | ⟨a', b', k', ha', rfl, hb', rfl, -⟩
    · exact ⟨⟨by rw [tw_up_e], fun q => absurd q tw_n10⟩, tw_inv_thr h hc hn b4 b0 b8 b10⟩
    · exact absurd hnc (fun q => q.elim (tw_nnc ha') (tw_nnc hb'))
theorem tw_law_bring {v i w r : Int32} {u u' : Nat → Nat → Nat} (h : tw_rel md s t g T) (hc : tw_cache s t T) (hn : s 9 0 ≤ j) (hj : j < 512) (b4 : ∀ y, s 4 y < 2147483648) (b0 : ∀ y, t 0 y < 1000000) (b8 : ∀ y, t 8 y < 2147483648) (b10 : ∀ y, t 10 y < 2147483648)
    (h1 : (r = nI 0 ∧ tw_okBr s v i w u) ∨ ∃ c, r = nI c ∧ (c = 1 ∨ c = 2) ∧ tw_pxBr s v i w c ∧ u = s)
    (h2 : ((tw_nc v ∨ tw_nc w ∨ v = w ∨ ∃ a, a < 4 ∧ v = nI a ∧ (i < 0 ∨ nI (t 9 a) ≤ i)) ∧ u' = tw_up t 13 0 1) ∨ ∃ a c k, a < 4 ∧ v = nI a ∧ c < 4 ∧ w = nI c ∧ a ≠ c ∧ k < t 9 a ∧ i = nI k ∧ ((k < t 10 (4 * c + a) ∧ u' = tw_up t 13 0 0) ∨ (¬ k < t 10 (4 * c + a) ∧ ((¬ (∀ m, m < 4 → t 8 ((400 * a + k) * 4 + m) ≤ t 10 (4 * c + m)) ∧ u' = tw_up t 13 0 2) ∨ ((∀ m, m < 4 → t 8 ((400 * a + k) * 4 + m) ≤ t 10 (4 * c + m)) ∧ u' = tw_up (tw_up (tw_up t 13 0 0) 10 (4 * c + a) (k + 1)) 13 2 0))))) : nI (u' 13 0) = r ∧ tw_inv (j + 1) u u' := by
  obtain ⟨bd1, bd2, bd3, bd4, -⟩ := tw_bd_of h.1 (show s 9 0 ≤ 512 by omega)
  have r1 := h.2.1.1
  have r3 := h.2.1.2.2.1
  have hm4 : ∀ a, a < 4 → md a ≤ 400 := h.1.1.2.2.1
  -- numbers that both sides call good
  have good : ∀ {a c k a' c' k' : Nat}, a < 4 → c < 4 → k < md a → a' < 4 → c' < 4 → k' < t 9 a' → nI a = nI a' → nI c = nI c' → nI k = nI k' → a = a' ∧ c = c' ∧ k = k' := fun ha hc hk ha' hc' hk' e1 e2 e3 => by
    have q1 := tw_a4 ha ha' e1
    have q2 := tw_a4 hc hc' e2
    subst q1
    have := hm4 _ ha
    rw [r3 _ ha] at hk'
    exact ⟨rfl, q2, (tw_eq (by omega) (by omega)).mp e3⟩
  have notbad : ∀ {a c k : Nat}, a < 4 → c < 4 → a ≠ c → k < md a → ¬ (tw_nc (nI a) ∨ tw_nc (nI c) ∨ nI a = nI c ∨ ∃ a', a' < 4 ∧ nI a = nI a' ∧ (nI k < 0 ∨ nI (t 9 a') ≤ nI k)) := fun ha hc hac hk q => by
    have := hm4 _ ha
    rcases q with q | q | q | ⟨a', ha', e, q⟩
    · exact tw_nnc ha q
    · exact tw_nnc hc q
    · exact hac (tw_a4 ha hc q)
    · have e := tw_a4 ha ha' e
      subst e
      rw [r3 _ ha] at q
      rcases q with q | q
      · exact nI_pos (by omega) q
      · have := (tw_le (by omega) (by omega)).mp q
        omega
  rcases h1 with ⟨rfl, a, b, k, ha, rfl, hb, rfl, hab, hk, rfl, hcase⟩ | ⟨c, rfl, hc12, hpx, rfl⟩
  · rw [r1 a ha] at hk
    obtain ⟨q1, q2⟩ := tw_rel_brc h ha hb hk
    rcases h2 with ⟨q, -⟩ | ⟨a', b', k', ha', e1, hb', e2, -, hk', e3, hcase'⟩
    · exact absurd q (notbad ha hb hab hk)
    · obtain ⟨rfl, rfl, rfl⟩ := good ha hb hk ha' hb' hk' e1 e2 e3
      rcases hcase with ⟨x1, rfl⟩ | ⟨x1, x2, x3⟩
      · rcases hcase' with ⟨y1, rfl⟩ | ⟨y1, -⟩
        · exact ⟨by rw [tw_up_e], tw_inv_thr h hc hn b4 b0 b8 b10⟩
        · exact absurd (q1.mp x1) y1
      · rcases hcase' with ⟨y1, -⟩ | ⟨y1, ⟨y2, -⟩ | ⟨y2, y3⟩⟩
        · exact absurd (q1.mpr y1) x1
        · exact absurd (fun m hm => (q2 m hm).mp (x2 m hm)) y2
        · obtain ⟨z1, z2⟩ := tw_rel_br h ha hb hab hk x1 x2 x3 y3
          refine ⟨by rw [y3, tw_up_i (by omega), tw_up_k (by omega), tw_up_e], md, g, T, z1, z2, ?_, fun y => ?_, fun y => ?_, fun y => ?_, fun y => ?_⟩
          · rw [x3, tw_rcv_o (by omega)]; omega
          · rw [x3, tw_rcv_o (by omega)]; exact b4 y
          · rw [y3, tw_up_k (by omega), tw_up_k (by omega), tw_up_k (by omega)]; exact b0 y
          · rw [y3, tw_up_k (by omega), tw_up_k (by omega), tw_up_k (by omega)]; exact b8 y
          · rw [y3, tw_up_k (by omega)]
            by_cases gy : y = 4 * b + a
            · rw [gy, tw_up_e]; have := hm4 a ha; omega
            · rw [tw_up_i gy, tw_up_k (by omega)]; exact b10 y
  · rcases hpx with ⟨rfl, hbad⟩ | ⟨rfl, a, b, k, ha, rfl, hb, rfl, hab, hk, rfl, hno, hcan⟩
    · rcases h2 with ⟨-, rfl⟩ | ⟨a', b', k', ha', rfl, hb', rfl, hab', hk', rfl, -⟩
      · exact ⟨by rw [tw_up_e], tw_inv_thr h hc hn b4 b0 b8 b10⟩
      · exfalso
        rcases hbad with q | q | q | ⟨a, ha, e, q⟩
        · exact tw_nnc ha' q
        · exact tw_nnc hb' q
        · exact hab' (tw_a4 ha' hb' q)
        · have e := tw_a4 ha' ha e
          subst e
          rw [r3 _ ha'] at hk'
          have := hm4 _ ha'
          rw [r1 _ ha', pk_sub (show 1 ≤ md a' by omega)] at q
          rcases q with q | q
          · exact nI_pos (by omega) q
          · have := (tw_lt (by omega) (by omega)).mp q
            omega
    · rw [r1 a ha] at hk
      obtain ⟨q1, q2⟩ := tw_rel_brc h ha hb hk
      rcases h2 with ⟨q, -⟩ | ⟨a', b', k', ha', e1, hb', e2, -, hk', e3, hcase'⟩
      · exact absurd q (notbad ha hb hab hk)
      · obtain ⟨rfl, rfl, rfl⟩ := good ha hb hk ha' hb' hk' e1 e2 e3
        rcases hcase' with ⟨y1, -⟩ | ⟨y1, ⟨y2, rfl⟩ | ⟨y2, -⟩⟩
        · exact absurd (q1.mpr y1) hno
        · exact ⟨by rw [tw_up_e], tw_inv_thr h hc hn b4 b0 b8 b10⟩
        · exact absurd (fun m hm => (q2 m hm).mpr (y2 m hm)) hcan
theorem tw_inv_dn {a w : Nat} {s2 u : Nat → Nat → Nat} {md' g' T' : Nat → Nat} (h : tw_rel md' u (tw_dn s2 a w) g' T') (hc : tw_cache u (tw_dn s2 a w) T') (ha : a < 4) (h9 : u 9 0 ≤ j + 1) (b4 : ∀ y, u 4 y < 2147483648) (b0 : ∀ y, s2 0 y < 1000000) (b8 : ∀ y, s2 8 y = t 8 y) (b10 : ∀ y, s2 10 y = t 10 y) (c8 : ∀ y, t 8 y < 2147483648) (c10 : ∀ y, t 10 y < 2147483648) (hk : t 10 (4 * a + a) ≤ 400) : tw_inv (j + 1) u (tw_dn s2 a w) := by
  refine ⟨md', g', T', h, hc, h9, b4, fun y => by rw [tw_dn_o (by omega)]; exact b0 y, fun y => ?_, fun y => ?_⟩
  · have e : y = (400 * 0 + y / 4) * 4 + y % 4 := by omega
    rw [e, tw_dn_8 (by omega), b10, b8]
    split
    · exact c10 _
    · exact c8 _
  · rw [tw_dn_10, b10, b10]
    split
    · omega
    · exact c10 y
theorem tw_law_remove {v i r r' : Int32} {fo : Nat → Int64} {u : (Nat → Nat → Nat) × (Nat → Int64)} {u' : Nat → Nat → Nat} (h : tw_rel md s t g T) (hc : tw_cache s t T) (hn : s 9 0 ≤ j) (hj : j < 512) (b4 : ∀ y, s 4 y < 2147483648) (b0 : ∀ y, t 0 y < 1000000) (b8 : ∀ y, t 8 y < 2147483648) (b10 : ∀ y, t 10 y < 2147483648)
    (h1 : tw_wr (fun rr u => tw_okRem s v i rr u) (tw_pxRem s v i) s fo r u)
    (h2 : (tw_nc v ∧ u' = tw_up t 13 0 1) ∨ ∃ a, a < 4 ∧ v = nI a ∧ (((∀ p, p < t 13 1 - 1 → tw_f s a p = true → i ≠ nI (tw_cn (tw_f s a) p)) ∧ tw_lkr t u' a T (tw_f s a) 1) ∨ ∃ p, p < t 13 1 - 1 ∧ tw_f s a p = true ∧ i = nI (tw_cn (tw_f s a) p) ∧ ((t 9 a = 400 ∧ tw_lkr t u' a T (tw_f s a) 2) ∨ (t 9 a ≠ 400 ∧ r' = nI (t 9 a) ∧ ∃ s1, tw_lkr t s1 a T (tw_f s a) 0 ∧ u' = tw_dn s1 a (2 * T (p + 1) + 1))))) : tw_agr r r' (u.2 0) (u' 13 0) ∧ tw_inv (j + 1) u.1 u' := by
  have e1 := h.2.2.1.1
  have r1 := h.2.1.1
  have r2 := h.2.1.2.1
  have r3 := h.2.1.2.2.1
  have hm4 : ∀ a, a < 4 → md a ≤ 400 := h.1.1.2.2.1
  have bd := tw_bd_of h.1 (show s 9 0 ≤ 512 by omega)
  rw [e1, show s 9 1 + 1 - 1 = s 9 1 by omega] at h2
  rcases h1 with ⟨rfl, rr, ⟨a, p, ha, rfl, hp, hf, rfl, hk1, hk2, rfl, hu⟩, ho⟩ | ⟨c, rfl, hc12, hpx, rfl⟩
  · rcases h2 with ⟨q, -⟩ | ⟨a', ha', e, hcase⟩
    · exact absurd q (tw_nnc ha)
    · have := tw_a4 ha ha' e
      subst this
      rcases hcase with ⟨q, -⟩ | ⟨p', p1, p2, p3, hcase⟩
      · exact absurd rfl (q p hp hf)
      · have c1 := tw_cn_le (tw_f s a) p
        have c2 := tw_cn_le (tw_f s a) p'
        have hb1 := bd.1
        have hpp := tw_cn_inj hf p2 ((tw_eq (by omega) (by omega)).mp p3)
        subst hpp
        rw [r3 a ha] at hcase
        rw [r1 a ha] at hk1
        rcases hcase with ⟨q, -⟩ | ⟨-, rfl, s1, q1, q2⟩
        · omega
        · obtain ⟨z1, z2⟩ := tw_rel_rm h ha hk1 hp hf q1 hu q2
          have hs : ∀ k y, k < 11 → s1 k y = t k y := fun k y hk => q1.2.2.2.2 k y (by omega) (by omega) (by omega)
          refine ⟨⟨by rw [q2, tw_dn_o (by omega), q1.1], fun _ => by rw [ho, r1 a ha]⟩, ?_⟩
          rw [q2] at z1 z2 ⊢
          refine tw_inv_dn (t := t) z1 z2 ha ?_ (fun y => ?_) (fun y => by rw [hs 0 y (by omega)]; exact b0 y) (fun y => hs 8 y (by omega)) (fun y => hs 10 y (by omega)) b8 b10 (by rw [r2 a a ha ha]; exact bd.2.2.2.1 a a ha ha)
          · rw [hu, tw_rcv_o (by omega), tw_add_9]; omega
          · rw [hu, tw_rcv_o (by omega), tw_add_o (by omega) ha]; exact b4 y
  · rcases hpx with ⟨rfl, q | ⟨a, ha, rfl, q⟩⟩ | ⟨rfl, a, p, ha, rfl, hp, hf, rfl, q⟩
    · rcases h2 with ⟨-, rfl⟩ | ⟨a', ha', rfl, -⟩
      · exact ⟨⟨by rw [tw_up_e], fun q => absurd q tw_n10⟩, tw_inv_thr h hc hn b4 b0 b8 b10⟩
      · exact absurd q (tw_nnc ha')
    · rcases h2 with ⟨q2, -⟩ | ⟨a', ha', e, hcase⟩
      · exact absurd q2 (tw_nnc ha)
      · have := tw_a4 ha ha' e
        subst this
        rcases hcase with ⟨-, hl⟩ | ⟨p', p1, p2, p3, -⟩
        · exact ⟨⟨by rw [hl.1], fun q => absurd q tw_n10⟩, tw_inv_lkr h ha hl hn b4 b0 b8 b10⟩
        · exact absurd p3 (q p' p1 p2)
    · rcases h2 with ⟨q2, -⟩ | ⟨a', ha', e, hcase⟩
      · exact absurd q2 (tw_nnc ha)
      · have := tw_a4 ha ha' e
        subst this
        rcases hcase with ⟨q2, -⟩ | ⟨p', p1, p2, p3, hcase⟩
        · exact absurd rfl (q2 p hp hf)
        · have := hm4 a ha
          rw [r1 a ha] at q
          rw [r3 a ha] at hcase
          rcases hcase with ⟨-, hl⟩ | ⟨q3, -⟩
          · exact ⟨⟨by rw [hl.1], fun q => absurd q tw_n20⟩, tw_inv_lkr h ha hl hn b4 b0 b8 b10⟩
          · omega
theorem tw_law_insert {v i b r r' : Int32} {fo : Nat → Int64} {u : (Nat → Nat → Nat) × (Nat → Int64)} {u' : Nat → Nat → Nat} (h : tw_rel md s t g T) (hc : tw_cache s t T) (hn : s 9 0 ≤ j) (hj : j < 512) (b4 : ∀ y, s 4 y < 2147483648) (b0 : ∀ y, t 0 y < 1000000) (b8 : ∀ y, t 8 y < 2147483648) (b10 : ∀ y, t 10 y < 2147483648)
    (h1 : tw_wr (fun rr u => tw_okIns s v i b rr u) (tw_pxIns s v i b) s fo r u)
    (h2 : ((tw_nc v ∨ ∃ a, a < 4 ∧ v = nI a ∧ (b < 0 ∨ nI 255 < b)) ∧ u' = tw_up t 13 0 1) ∨ ∃ a d, a < 4 ∧ v = nI a ∧ d ≤ 255 ∧ b = nI d ∧ (((i < 0 ∨ nI (tw_cn (tw_f s a) (t 13 1 - 1)) < i) ∧ tw_lkr t u' a T (tw_f s a) 1) ∨ ∃ k, k ≤ tw_cn (tw_f s a) (t 13 1 - 1) ∧ i = nI k ∧ ((t 9 a = 400 ∧ tw_lkr t u' a T (tw_f s a) 2) ∨ (t 9 a ≠ 400 ∧ r' = nI (t 9 a) ∧ tw_insM t u' a k d T (tw_f s a))))) : tw_agr r r' (u.2 0) (u' 13 0) ∧ tw_inv (j + 1) u.1 u' := by
  have e1 := h.2.2.1.1
  have r1 := h.2.1.1
  have r2 := h.2.1.2.1
  have r3 := h.2.1.2.2.1
  have hm4 : ∀ a, a < 4 → md a ≤ 400 := h.1.1.2.2.1
  have bd := tw_bd_of h.1 (show s 9 0 ≤ 512 by omega)
  have h8 : ∀ a, a < 4 → s 8 a = tw_cn (tw_f s a) (s 9 1) := h.1.2.2.1.2.2
  have hle : ∀ a, a < 4 → s 8 a ≤ 512 ∧ s 7 a ≤ 512 := bd.2.2.2.2.1
  rw [e1, show s 9 1 + 1 - 1 = s 9 1 by omega] at h2
  have d255 : ∀ {d : Nat}, d ≤ 255 → ¬ (nI d < 0 ∨ nI 255 < nI d) := fun hd q => q.elim (nI_pos (by omega)) (fun q => by have := (tw_lt (by omega) (by omega)).mp q; omega)
  rcases h1 with ⟨rfl, rr, ⟨a, k, d, bh, q, ha, rfl, hk, rfl, hd, rfl, hk1, hk2, rfl, hbh, g1, g2, g3, g4, hu⟩, ho⟩ | ⟨c, rfl, hc12, hpx, rfl⟩
  · have hl8 := (hle a ha).1
    rcases h2 with ⟨q2 | ⟨a', ha', -, q2⟩, -⟩ | ⟨a', d', ha', e, hd', e2, hcase⟩
    · exact absurd q2 (tw_nnc ha)
    · exact absurd q2 (d255 hd)
    · have := tw_a4 ha ha' e
      subst this
      have := (tw_eq (a := d) (b := d') (by omega) (by omega)).mp e2
      subst this
      rw [← h8 a ha] at hcase
      rcases hcase with ⟨q2 | q2, -⟩ | ⟨k', hk', e3, hcase⟩
      · exact absurd q2 (nI_pos (by omega))
      · have := (tw_lt (by omega) (by omega)).mp q2
        omega
      · have := (tw_eq (a := k) (b := k') (by omega) (by omega)).mp e3
        subst this
        rw [r3 a ha] at hcase
        rw [r1 a ha] at hk1
        rcases hcase with ⟨q2, -⟩ | ⟨-, rfl, hM⟩
        · omega
        · obtain ⟨z1, z2⟩ := tw_rel_ins h ha hk1 hbh g1 g2 g3 g4 hu hM
          have hM2 := hM
          obtain ⟨mo, b', q', s2, hmo, hbm, m1, m2, m3, m4, e131, ec, ez0, ez1, ez2, ez3, e6o, e6L, e4z, htr', eo, e130, hu'⟩ := hM
          have hmo' := tw_rel_mo h ha hmo
          refine ⟨⟨by rw [hu', tw_dn_o (by omega), e130], fun _ => by rw [ho, r1 a ha]⟩, ?_⟩
          rw [hu'] at z1 z2 ⊢
          refine tw_inv_dn (t := t) z1 z2 ha ?_ (fun y => ?_) (fun y => ?_) (fun y => eo 8 y (by omega) (by omega)) (fun y => eo 10 y (by omega) (by omega)) b8 b10 (by rw [r2 a a ha ha]; exact bd.2.2.2.1 a a ha ha)
          · rw [hu, tw_rcv_o (by omega), tw_wv_o (by omega) (by omega), tw_new_o (by omega) (by omega), tw_add_9]; omega
          · rw [hu, tw_rcv_o (by omega), tw_wv_o (by omega) (by omega), tw_new_4 ha]
            split
            · have := (hle a ha).2
              omega
            · exact b4 y
          · by_cases gy : y = t 13 1
            · rw [gy, ez0, hmo']; have := (hle a ha).2; omega
            · rw [ec 0 y (by omega) gy]; exact b0 y
  · rcases hpx with ⟨rfl, q | ⟨a, ha, rfl, q⟩⟩ | ⟨rfl, a, k, d, ha, rfl, hk, rfl, hd, rfl, q⟩
    · rcases h2 with ⟨-, rfl⟩ | ⟨a', d', ha', rfl, -⟩
      · exact ⟨⟨by rw [tw_up_e], fun q => absurd q tw_n10⟩, tw_inv_thr h hc hn b4 b0 b8 b10⟩
      · exact absurd q (tw_nnc ha')
    · rcases h2 with ⟨-, rfl⟩ | ⟨a', d', ha', e, hd', rfl, hcase⟩
      · exact ⟨⟨by rw [tw_up_e], fun q => absurd q tw_n10⟩, tw_inv_thr h hc hn b4 b0 b8 b10⟩
      · have := tw_a4 ha ha' e
        subst this
        have hl8 := (hle a ha).1
        rw [← h8 a ha] at hcase
        rcases hcase with ⟨-, hl⟩ | ⟨k', hk', rfl, -⟩
        · exact ⟨⟨by rw [hl.1], fun q => absurd q tw_n10⟩, tw_inv_lkr h ha hl hn b4 b0 b8 b10⟩
        · exfalso
          rcases q with q | q | q | q
          · exact nI_pos (by omega) q
          · have := (tw_lt (by omega) (by omega)).mp q
            omega
          · exact d255 hd' (Or.inl q)
          · exact d255 hd' (Or.inr q)
    · have hl8 := (hle a ha).1
      rcases h2 with ⟨q2 | ⟨a', ha', -, q2⟩, -⟩ | ⟨a', d', ha', e, hd', e2, hcase⟩
      · exact absurd q2 (tw_nnc ha)
      · exact absurd q2 (d255 hd)
      · have := tw_a4 ha ha' e
        subst this
        rw [← h8 a ha] at hcase
        rcases hcase with ⟨q2 | q2, -⟩ | ⟨k', hk', e3, hcase⟩
        · exact absurd q2 (nI_pos (by omega))
        · have := (tw_lt (by omega) (by omega)).mp q2
          omega
        · have := hm4 a ha
          rw [r1 a ha] at q
          rw [r3 a ha] at hcase
          rcases hcase with ⟨-, hl⟩ | ⟨q3, -⟩
          · exact ⟨⟨by rw [hl.1], fun q => absurd q tw_n20⟩, tw_inv_lkr h ha hl hn b4 b0 b8 b10⟩
          · omega
end TWI
