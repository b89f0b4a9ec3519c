/-! a copy makes a change: the log grows by one -/
def tw_md (md : Nat → Nat) (c : Nat) : Nat → Nat := fun d => if d = c then md c + 1 else md d
theorem tw_md_c {md : Nat → Nat} {c : Nat} : tw_md md c c = md c + 1 := by simp [tw_md]
theorem tw_md_ne {md : Nat → Nat} {c d : Nat} (h : d ≠ c) : tw_md md c d = md d := by simp [tw_md, h]
theorem tw_md_le {md : Nat → Nat} {c d : Nat} : md d ≤ tw_md md c d := by
  by_cases h : d = c
  · rw [h, tw_md_c]; omega
  · rw [tw_md_ne h]; exact Nat.le_refl _
theorem tw_or1 {a c k m : Nat} (g : ¬ (a = c ∧ k = m)) : a ≠ c ∨ k ≠ m := by
  by_cases z : a = c
  · exact Or.inr (fun w => g ⟨z, w⟩)
  · exact Or.inl z
theorem tw_or2 {md : Nat → Nat} {a c k : Nat} (h : k < md a) : a ≠ c ∨ k ≠ md c := by
  by_cases z : a = c
  · right; rw [z] at h; omega
  · exact Or.inl z
/-- s' is s with a change of c, that takes t, behind the others in the log -/
def tw_adds (md : Nat → Nat) (s s' : Nat → Nat → Nat) (c t : Nat) : Prop :=
  (∀ x, x < s 9 0 → s' 0 x = s 0 x) ∧ s' 0 (s 9 0) = c ∧ (∀ x, x < s 9 0 → s' 1 x = s 1 x) ∧ s' 1 (s 9 0) = md c ∧ (∀ x, x < s 9 0 → s' 2 x = s 2 x) ∧ s' 2 (s 9 0) = t ∧
  (∀ m x, m < 4 → x < s 9 0 → s' (16 + m) x = s (16 + m) x) ∧ (∀ m, m < 4 → s' (16 + m) (s 9 0) = s (24 + c) m) ∧
  (∀ d k, d < 4 → (d ≠ c ∨ k ≠ md c) → s' (20 + d) k = s (20 + d) k) ∧ s' (20 + c) (md c) = s 9 0 ∧
  (∀ d m, d < 4 → s' (24 + d) m = s (24 + d) m) ∧ (∀ x, s' 5 x = s 5 x) ∧ (∀ x, s' 7 x = s 7 x) ∧ (∀ x, s' 8 x = s 8 x) ∧ (∀ x, x < s 9 0 → s' 4 x = s 4 x) ∧ s' 9 0 = s 9 0 + 1
theorem tw_adds_has {md : Nat → Nat} {s s' : Nat → Nat → Nat} {c t : Nat} (h : tw_adds md s s' c t) (hl : tw_log md s) {d x : Nat} (hd : d < 4) (hx : x < s 9 0) : tw_has s' d x ↔ tw_has s d x := by
  obtain ⟨a0, -, a1, -, -, -, -, -, -, -, a24, -⟩ := h
  unfold tw_has
  rw [a1 x hx, a0 x hx, a24 d _ hd]
theorem tw_adds_new {md : Nat → Nat} {s s' : Nat → Nat → Nat} {c t : Nat} (h : tw_adds md s s' c t) (hk : tw_kn md s) (hc : c < 4) {d : Nat} (hd : d < 4) : ¬ tw_has s' d (s 9 0) := by
  obtain ⟨-, b0, -, b1, -, -, -, -, -, -, a24, -⟩ := h
  unfold tw_has
  rw [b1, b0, a24 d _ hd]
  have := hk.1 d c hd hc
  omega
theorem tw_adds_log {md : Nat → Nat} {s s' : Nat → Nat → Nat} {c t : Nat} (h : tw_adds md s s' c t) (hl : tw_log md s) (hk : tw_kn md s) (hc : c < 4) (hcc : s (24 + c) c = md c) (hm : md c < 400) (ht : ∀ y, t = y + 1 → y < s 9 0 ∧ s 2 y = 0 ∧ tw_has s c y) : tw_log (tw_md md c) s' ∧ tw_kn (tw_md md c) s' := by
  have hhas := @tw_adds_has _ _ _ _ _ h hl
  have hnew := @tw_adds_new _ _ _ _ _ h hk hc
  obtain ⟨a0, b0, a1, b1, a2, b2, a16, b16, a20, b20, a24, -, -, -, -, b9⟩ := h
  obtain ⟨l1, l2, l3, l4, l5⟩ := hl
  obtain ⟨k1, k2⟩ := hk
  refine ⟨⟨fun a k ha hk9 => ?_, fun j hj => ?_, fun d hd => ?_, fun j hj => ?_, fun j x hj e => ?_⟩, fun d m hd hm9 => ?_, fun d j hd hj q m hm9 => ?_⟩
  · by_cases g : a = c ∧ k = md c
    · obtain ⟨rfl, rfl⟩ := g
      rw [b20, b9, b0, b1]
      exact ⟨by omega, rfl, rfl⟩
    · have hk2 : k < md a := by
        by_cases z : a = c
        · subst z; rw [tw_md_c] at hk9
          have : k ≠ md a := fun w => g ⟨rfl, w⟩
          omega
        · rw [tw_md_ne z] at hk9; exact hk9
      obtain ⟨x1, x2, x3⟩ := l1 a k ha hk2
      rw [a20 a k ha (tw_or1 g), b9, a0 _ x1, a1 _ x1]
      exact ⟨by omega, x2, x3⟩
  · rw [b9] at hj
    rcases Nat.lt_or_ge j (s 9 0) with g | g
    · obtain ⟨x1, x2, x3⟩ := l2 j g
      rw [a0 j g, a1 j g, a20 _ _ x1 (tw_or2 x2)]
      exact ⟨x1, Nat.lt_of_lt_of_le x2 tw_md_le, x3⟩
    · have : j = s 9 0 := by omega
      rw [this, b0, b1, b20, tw_md_c]
      exact ⟨hc, by omega, rfl⟩
  · by_cases z : d = c
    · rw [z, tw_md_c]; omega
    · rw [tw_md_ne z]; exact l3 d hd
  · rw [b9] at hj
    rcases Nat.lt_or_ge j (s 9 0) with g | g
    · obtain ⟨x1, x2⟩ := l4 j g
      have hj4 := (l2 j g).1
      rw [a0 j g, a1 j g, a16 _ _ hj4 g]
      refine ⟨x1, fun m k hm9 z => ?_⟩
      rw [a16 m j hm9 g] at z
      obtain ⟨y1, y2⟩ := x2 m k hm9 z
      rw [a20 m k hm9 (tw_or2 y1)]
      exact ⟨Nat.lt_of_lt_of_le y1 tw_md_le, y2⟩
    · have : j = s 9 0 := by omega
      rw [this, b0, b1, b16 c hc]
      refine ⟨hcc, fun m k hm9 z => ?_⟩
      rw [b16 m hm9] at z
      have hkm : k < md m := by have := k1 c m hc hm9; omega
      rw [a20 m k hm9 (tw_or2 hkm)]
      exact ⟨Nat.lt_of_lt_of_le hkm tw_md_le, (l1 m k hm9 hkm).1⟩
  · rw [b9] at hj
    rcases Nat.lt_or_ge j (s 9 0) with g | g
    · rw [a2 j g] at e
      obtain ⟨x1, x2, x3⟩ := l5 j x g e
      rw [a2 x (by omega), a1 x (by omega), a0 x (by omega), a16 _ _ (l2 x (by omega)).1 g]
      exact ⟨x1, x2, x3⟩
    · have : j = s 9 0 := by omega
      rw [this, b2] at e
      obtain ⟨x1, x2, x3⟩ := ht x e
      rw [this, a2 x x1, a1 x x1, a0 x x1, b16 _ (l2 x x1).1]
      exact ⟨x1, x2, x3⟩
  · rw [a24 d m hd]
    exact Nat.le_trans (k1 d m hd hm9) tw_md_le
  · rw [b9] at hj
    rcases Nat.lt_or_ge j (s 9 0) with g | g
    · rw [a16 m j hm9 g, a24 d m hd]
      exact k2 d j hd g ((hhas hd g).mp q) m hm9
    · have : j = s 9 0 := by omega
      rw [this] at q
      exact absurd q (hnew hd)
theorem tw_adds_shows {md : Nat → Nat} {s s' : Nat → Nat → Nat} {c t : Nat} (h : tw_adds md s s' c t) (hl : tw_log md s) (hk : tw_kn md s) (hc : c < 4) {d x : Nat} (hd : d < 4) : tw_shows s' d x ↔ tw_shows s d x := by
  have hhas := @tw_adds_has _ _ _ _ _ h hl
  have hnew := @tw_adds_new _ _ _ _ _ h hk hc
  obtain ⟨-, -, -, -, a2, b2, -, -, -, -, -, -, -, -, -, b9⟩ := h
  unfold tw_shows
  rw [b9]
  constructor
  · rintro ⟨x1, x2, x3, x4⟩
    have hx : x < s 9 0 := by
      rcases Nat.lt_or_ge x (s 9 0) with g | g
      · exact g
      · have : x = s 9 0 := by omega
        rw [this] at x3
        exact absurd x3 (hnew hd)
    refine ⟨hx, by rw [← a2 x hx]; exact x2, (hhas hd hx).mp x3, fun j hj e q => x4 j (by omega) (by rw [a2 j hj]; exact e) ((hhas hd hj).mpr q)⟩
  · rintro ⟨x1, x2, x3, x4⟩
    refine ⟨by omega, by rw [a2 x x1]; exact x2, (hhas hd x1).mpr x3, fun j hj e q => ?_⟩
    rcases Nat.lt_or_ge j (s 9 0) with g | g
    · rw [a2 j g] at e
      exact x4 j g e ((hhas hd g).mp q)
    · have : j = s 9 0 := by omega
      rw [this] at q
      exact hnew hd q
theorem tw_adds_gr {md : Nat → Nat} {s s' : Nat → Nat → Nat} {c t : Nat} (h : tw_adds md s s' c t) (hl : tw_log md s) (hk : tw_kn md s) (hg : tw_gr s) (hc : c < 4) : tw_gr s' := by
  have hhas := @tw_adds_has _ _ _ _ _ h hl
  have hnew := @tw_adds_new _ _ _ _ _ h hk hc
  obtain ⟨-, -, -, -, a2, b2, -, -, -, -, -, -, a7, -, a4, b9⟩ := h
  intro d hd
  obtain ⟨g1, g2⟩ := hg d hd
  rw [a7, b9]
  refine ⟨fun i hi z q => ?_, ?_⟩
  · rcases Nat.lt_or_ge i (s 9 0) with g | g
    · rw [a2 i g] at z
      rw [a4 i g]
      exact g1 i g z ((hhas hd g).mp q)
    · have : i = s 9 0 := by omega
      rw [this] at q
      exact absurd q (hnew hd)
  · rcases g2 with g | ⟨i, i1, i2, i3, i4⟩
    · exact Or.inl g
    · exact Or.inr ⟨i, by omega, by rw [a2 i i1]; exact i2, (hhas hd i1).mpr i3, by rw [a4 i i1]; exact i4⟩
/-- the greatest n of a copy is at most the number of changes -/
theorem tw_gr_le {s : Nat → Nat → Nat} (ho : tw_ord s) (hg : tw_gr s) {c : Nat} (hc : c < 4) : s 7 c ≤ s 9 0 := by
  rcases (hg c hc).2 with g | ⟨i, i1, i2, -, i4⟩
  · omega
  · have := (ho.2.2.2.2 i i1 i2).2.2
    omega
/-- a removal -/
theorem tw_rem_ci {md : Nat → Nat} {s s' : Nat → Nat → Nat} {c y : Nat} (h : tw_adds md s s' c (y + 1)) (hi : tw_ci md s) (hc : c < 4) (hcc : s (24 + c) c = md c) (hm : md c < 400) (hy : y < s 9 0) (hy2 : s 2 y = 0) (hy3 : tw_has s c y) (h91 : s' 9 1 = s 9 1) (h6 : ∀ p, s' 6 p = s 6 p) : tw_ci (tw_md md c) s' := by
  obtain ⟨hl, hk, hs, ho, hg⟩ := hi
  obtain ⟨g1, g2⟩ := tw_adds_log h hl hk hc hcc hm (fun z e => by cases (show y = z by omega); exact ⟨hy, hy2, hy3⟩)
  refine ⟨g1, g2, ?_, ?_, tw_adds_gr h hl hk hg hc⟩
  · obtain ⟨b1, b2, b3⟩ := hs
    have hsh := fun d x hd => @tw_adds_shows _ _ _ _ _ h hl hk hc d x hd
    obtain ⟨-, -, -, -, -, -, -, -, -, -, -, a5, -, a8, -, -⟩ := h
    refine ⟨fun x => by rw [a5]; exact b1 x, fun x d hd => by rw [a5, hsh d x hd]; exact b2 x d hd, fun d hd => ?_⟩
    rw [a8, h91, b3 d hd]
    exact tw_cn_congr fun p _ => by rw [h6, a5]
  · obtain ⟨o1, o2, o3, o4, o5⟩ := ho
    obtain ⟨a0, -, -, -, a2, b2, -, -, -, -, -, -, -, -, a4, b9⟩ := h
    refine ⟨by rw [h91, b9]; omega, fun p hp => ?_, fun p q hp hq e => ?_, fun x hx z => ?_, fun x hx z => ?_⟩
    · rw [h91] at hp
      obtain ⟨x1, x2⟩ := o2 p hp
      rw [h6, b9, a2 _ x1]
      exact ⟨by omega, x2⟩
    · rw [h91] at hp hq
      rw [h6, h6] at e
      exact o3 p q hp hq e
    · rw [b9] at hx
      have hx2 : x < s 9 0 := by
        rcases Nat.lt_or_ge x (s 9 0) with g | g
        · exact g
        · have : x = s 9 0 := by omega
          rw [this, b2] at z
          omega
      rw [a2 x hx2] at z
      obtain ⟨p, p1, p2⟩ := o4 x hx2 z
      exact ⟨p, by rw [h91]; exact p1, by rw [h6]; exact p2⟩
    · rw [b9] at hx
      have hx2 : x < s 9 0 := by
        rcases Nat.lt_or_ge x (s 9 0) with g | g
        · exact g
        · have : x = s 9 0 := by omega
          rw [this, b2] at z
          omega
      rw [a2 x hx2] at z
      rw [a4 x hx2, a0 x hx2]
      exact o5 x hx2 z
/-- an insertion, at place q of the order -/
theorem tw_ins_ci {md : Nat → Nat} {s s' : Nat → Nat → Nat} {c q : Nat} (h : tw_adds md s s' c 0) (hi : tw_ci md s) (hc : c < 4) (hcc : s (24 + c) c = md c) (hm : md c < 400) (h91 : s' 9 1 = s 9 1 + 1) (hq : q ≤ s 9 1) (h6 : ∀ p, p < s 9 1 + 1 → s' 6 p = tw_ins (s 6) q (s 9 0) p) (h4 : s' 4 (s 9 0) = 4 * (s 7 c + 1) + c) : tw_ci (tw_md md c) s' := by
  obtain ⟨hl, hk, hs, ho, hg⟩ := hi
  obtain ⟨g1, g2⟩ := tw_adds_log h hl hk hc hcc hm (fun z e => by omega)
  have hgl := tw_gr_le ho hg hc
  refine ⟨g1, g2, ?_, ?_, tw_adds_gr h hl hk hg hc⟩
  · obtain ⟨b1, b2, b3⟩ := hs
    have hsh := fun d x hd => @tw_adds_shows _ _ _ _ _ h hl hk hc d x hd
    obtain ⟨-, -, -, -, -, -, -, -, -, -, -, a5, -, a8, -, -⟩ := h
    refine ⟨fun x => by rw [a5]; exact b1 x, fun x d hd => by rw [a5, hsh d x hd]; exact b2 x d hd, fun d hd => ?_⟩
    rw [a8, h91, b3 d hd]
    refine (tw_cn_ins hq ?_ (fun p hp => ?_) (fun p hp hp2 => ?_)).symm
    · rw [h6 q (by omega), tw_ins_eq, a5]
      cases hb : (s 5 (s 9 0)).testBit d with
      | false => rfl
      | true => exact absurd ((b2 _ d hd).mp hb).1 (Nat.lt_irrefl _)
    · rw [h6 p (by omega), tw_ins_lt hp, a5]
    · rw [h6 (p + 1) (by omega), tw_ins_s hp, a5]
  · obtain ⟨o1, o2, o3, o4, o5⟩ := ho
    obtain ⟨a0, b0, -, -, a2, b2, -, -, -, -, -, -, -, -, a4, b9⟩ := h
    refine ⟨by rw [h91, b9]; omega, fun p hp => ?_, fun p r hp hr e => ?_, fun x hx z => ?_, fun x hx z => ?_⟩
    · rw [h91] at hp
      rw [h6 p hp, b9]
      rcases Nat.lt_trichotomy p q with g | g | g
      · rw [tw_ins_lt g]
        obtain ⟨x1, x2⟩ := o2 p (by omega)
        rw [a2 _ x1]; exact ⟨by omega, x2⟩
      · rw [g, tw_ins_eq]; exact ⟨by omega, b2⟩
      · rw [tw_ins_gt g]
        obtain ⟨x1, x2⟩ := o2 (p - 1) (by omega)
        rw [a2 _ x1]; exact ⟨by omega, x2⟩
    · rw [h91] at hp hr
      rw [h6 p hp, h6 r hr] at e
      rcases Nat.lt_trichotomy p q with g | g | g <;> rcases Nat.lt_trichotomy r q with k | k | k
      · rw [tw_ins_lt g, tw_ins_lt k] at e; exact o3 p r (by omega) (by omega) e
      · rw [tw_ins_lt g, k, tw_ins_eq] at e; have := (o2 p (by omega)).1; omega
      · rw [tw_ins_lt g, tw_ins_gt k] at e; have := o3 p (r - 1) (by omega) (by omega) e; omega
      · rw [g, tw_ins_eq, tw_ins_lt k] at e; have := (o2 r (by omega)).1; omega
      · omega
      · rw [g, tw_ins_eq, tw_ins_gt k] at e; have := (o2 (r - 1) (by omega)).1; omega
      · rw [tw_ins_gt g, tw_ins_lt k] at e; have := o3 (p - 1) r (by omega) (by omega) e; omega
      · rw [tw_ins_gt g, k, tw_ins_eq] at e; have := (o2 (p - 1) (by omega)).1; omega
      · rw [tw_ins_gt g, tw_ins_gt k] at e; have := o3 (p - 1) (r - 1) (by omega) (by omega) e; omega
    · rw [b9] at hx
      rcases Nat.lt_or_ge x (s 9 0) with g | g
      · rw [a2 x g] at z
        obtain ⟨p, p1, p2⟩ := o4 x g z
        rcases Nat.lt_or_ge p q with k | k
        · exact ⟨p, by omega, by rw [h6 p (by omega), tw_ins_lt k]; exact p2⟩
        · exact ⟨p + 1, by omega, by rw [h6 (p + 1) (by omega), tw_ins_s k]; exact p2⟩
      · exact ⟨q, by omega, by rw [h6 q (by omega), tw_ins_eq]; omega⟩
    · rw [b9] at hx
      rcases Nat.lt_or_ge x (s 9 0) with g | g
      · rw [a2 x g] at z
        rw [a4 x g, a0 x g]
        exact o5 x g z
      · have : x = s 9 0 := by omega
        rw [this, h4, b0]
        refine ⟨by omega, by omega, by omega⟩
