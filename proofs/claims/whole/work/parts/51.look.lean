theorem tw_wh_e (y : Nat) : tw_wh (2 * y) = nI y := by
  unfold tw_wh
  rw [if_pos (by omega), show 2 * y / 2 = y by omega]
theorem tw_wh_o (y : Nat) : tw_wh (2 * y + 1) = -nI y := by
  unfold tw_wh
  rw [if_neg (by omega), show (2 * y + 1) / 2 = y by omega]
theorem tw_nn (y : Nat) : -(-nI y) = nI y := Int32.neg_neg
theorem tw_neg {y : Nat} (h : 1 ≤ y) (h2 : y < 2147483648) : ¬ 0 ≤ -nI y := fun q => by
  have h1 := sb_negT (w := y) h2
  have h3 := Int32.le_iff_toInt_le.mp q
  rw [h1] at h3
  have h4 : (0 : Int32).toInt = 0 := by decide
  omega
theorem tw_m1e {k a : Nat} (h : nI k - 1 = nI a) (hk : k < 2147483648) (ha : a + 1 < 2147483648) : k = a + 1 := by
  have h2 : nI k - 1 + 1 = nI a + 1 := by rw [h]
  rw [Int32.sub_add_cancel, nI_1] at h2
  exact (tw_eq hk ha).mp h2
theorem tw_s1 {st : Nat → Nat → Nat} {a k y : Nat} (h : k ≠ 13 ∨ (y ≠ 2 ∧ y ≠ 3)) : tw_up (tw_up st 13 2 (a + 1)) 13 3 0 k y = st k y := by
  by_cases g : k = 13
  · rw [tw_up_i (by omega), tw_up_i (by omega)]
  · rw [tw_up_k g, tw_up_k g]
set_option maxHeartbeats 4000000 in
set_option maxRecDepth 100000 in
/-- look(c): the text of a copy -/
theorem kX1_look (l : Launch) (D : va_G) (cI cZ : ClassId) (x : Nat) (ad : Nat → Nat) (st : Nat → Nat → Nat) (sz : Nat) {a : Nat} {T : Nat → Nat} {f : Nat → Bool} (ha : a < 4) (hp0 : tw_lkp st a T f) : Met l yX1_look wsX1_look ({ frames := 1, cells := 0, slots := 0, locals := 30 }) (va_Pc [.ref x, .int (nI a)] (fun U => U.heap.size = sz ∧ tw_YU D cI cZ x ad st U)) (va_Qv (fun u => tw_lkq st u a T f) (tw_YT D cI cZ x ad (va_A (tw_y cI cZ x ad st) sz)) (va_A (tw_y cI cZ x ad st) sz)) 0 0 (va_A (tw_y cI cZ x ad st) sz) := by
  refine Met.ofW (cc := cX1_look) (maxL := 5) (ret := none) (by decide) rfl ?_
  intro p e s m args below meth cd s₁ B hml hv
  obtain ⟨rfl, hsz, hU⟩ := hv
  subst hsz
  have S : CallFix p m cd cX1_look 5 s ([.ref x, .int (nI a)] : List Value).toArray tw_wall RX1 := ⟨B.exec, B.bytes, hml, findClass_of_methodNamed B.named, fun w h => atoms_spec (ws := wsX1_look) B.pre w (List.mem_cons_of_mem _ h)⟩
  have hr := B.returns
  have hlk := B.notSynchronized
  have z : va_S (fun q => s.heap.size ≤ q) s.heap s.heap [] := va_S.rf
  have w := tw_Y0 hU
  have hA : ∀ q : Nat, s.heap.size ≤ q → va_A (tw_y cI cZ x ad st) s.heap.size q := fun q h => Or.inr h
  generalize va_A (tw_y cI cZ x ad st) s.heap.size = A at w hA ⊢
  have hl := lv_entry ([.ref x, .int (nI a)]) (n := 5) (Nat.le_of_ble_eq_true rfl)
  rw [lg_entry_eq]
  generalize (lg_sl ([.ref x, .int (nI a)]) ++ List.replicate (5 - (lg_sl ([.ref x, .int (nI a)])).length) Slot.unset).toArray = ls at hl ⊢
  have hl : lv_has ls 5 [(0, .ref x), (1, .int (nI a))] := hl
  obtain ⟨⟨L1, L2⟩, hli, htr, hinj, hn0, hr5, hr6, hr7, hr8, hr9, hr10, hr11⟩ := hp0
  have walk : ∀ (sg : Nat → Nat → Nat), tw_gn st sg a 4 0 → ∀ (n i dn q : Nat) (sm : Nat → Nat → Nat) (H : Heap) (locs : List Loc) (ls : Array Slot), tw_mus (st 13 1) i dn q < n → tw_hd (st 13 1) T (tw_n st) i dn q → tw_vis T f sg sm q → TWY D cI cZ x ad sm A s.heap H locs s → lv_has ls 5 [(3, .int (nI dn)), (2, .int (nI (T i))), (0, .ref x), (1, .int (nI a))] → W p l e (headSpec wsX1_look ({ frames := 1, cells := 0, slots := 0, locals := 30 })).room s m ([.ref x, .int (nI a)] : List Value).toArray below meth cd H locs 0 0 (MQ below (va_Qv (fun u => tw_lkq st u a T f) (tw_YT D cI cZ x ad A) A) ([.ref x, .int (nI a)] : List Value).toArray s 0 0 A) (F0 m 115 ls []) := by
    intro sg hg n
    induction n with
    | zero => intros; omega
    | succ n ih =>
      intro i dn q sm H locs ls hmu hd hv w hl
      have o : ∀ k y, k ≠ 11 → k ≠ 12 → (k ≠ 13 ∨ (y ≠ 2 ∧ y ≠ 3)) → sm k y = st k y := fun k y a1 b1 c1 => (hv.2.2.2 k y a1 (by omega)).trans (hg.2.2.2 k y b1 c1)
      have hTi : T i < 1601 := by have := hli.2.2.1 i hd.1; omega
      have inner : ∀ (n2 P q1 to : Nat) (H : Heap) (locs : List Loc) (ls : Array Slot), st 13 1 - q1 < n2 → tw_sw (st 13 1) T (tw_n st) (st 6) P q1 to → ((dn = 1 ∧ i = P) ∨ (dn = 0 ∧ st 6 (T i) = T P ∧ P < i)) → q ≤ q1 → (∀ k, q ≤ k → k < q1 → ¬ st 2 (T k) < st 10 (4 * a + st 1 (T k))) → TWY D cI cZ x ad sm A s.heap H locs s → lv_has ls 5 [(4, .int (nI to)), (3, .int (nI dn)), (2, .int (nI (T i))), (0, .ref x), (1, .int (nI a))] → W p l e (headSpec wsX1_look ({ frames := 1, cells := 0, slots := 0, locals := 30 })).room s m ([.ref x, .int (nI a)] : List Value).toArray below meth cd H locs 0 0 (MQ below (va_Qv (fun u => tw_lkq st u a T f) (tw_YT D cI cZ x ad A) A) ([.ref x, .int (nI a)] : List Value).toArray s 0 0 A) (F0 m 136 ls []) := by
        intro n2
        induction n2 with
        | zero => intros; omega
        | succ n2 ih2 =>
          intro P q1 to H locs ls hm2 hsw hlk3 hq1 hno w hl
          have hto : to < 1601 := by
            rcases hsw.2.2.2 with ⟨g, g2, -⟩ | ⟨g, -⟩
            · have := hli.2.2.1 q1 g
              omega
            · omega
          have hq1L : q1 ≤ st 13 1 := hsw.2.1
          have hPq : P < q1 := hsw.1
          have hv1 : tw_vis T f sg sm q1 := tw_vis_skip hv hq1 (fun k h1 h2 => by
            cases hc : f (k - 1) with
            | false => rfl
            | true =>
              have := hv.1
              have h9 := (hr9 (k - 1) (by omega)).mp hc
              rw [show k - 1 + 1 = k by omega] at h9
              exact absurd h9.1 (hno k h1 h2))
          refine lv_iload S.1 S.2.1 dX1_look_136 (lv_at hl 0 rfl) ?_
          refine lv_if_eq (tgt := 163) S.1 S.2.1 dX1_look_138 (by decide) (fun h138 => ?_) (fun h138 => ?_)
          · have ht0 : to = 0 := (tw_eq (by omega) (by omega)).mp h138
            obtain ⟨s1, s2, s3, s4⟩ := hsw
            have s5 : q1 < st 13 1 → tw_n st (T q1) < tw_n st (T P) := by
              rcases s4 with ⟨g, g2, -⟩ | ⟨-, g⟩
              · have := tw_pos hli (i := q1) (by omega) g
                omega
              · exact g
            refine lv_iload S.1 S.2.1 dX1_look_163 (lv_at hl 0 rfl) ?_
            refine lv_if_ne (tgt := 194) S.1 S.2.1 dX1_look_165 (by decide) (fun h165 => absurd h138 h165) (fun h165 => ?_)
            refine lv_iload_n S.1 S.2.1 dX1_look_168 rfl (lv_at hl 1 rfl) ?_
            refine lv_if_eq (tgt := 182) S.1 S.2.1 dX1_look_169 (by decide) (fun h169 => ?_) (fun h169 => ?_)
            · have hdn2 : dn < 2 := by have := hd.2; omega
              have hdn : dn = 0 := (tw_eq (by omega) (by omega)).mp h169
              have hlk4 : st 6 (T i) = T P ∧ P < i := hlk3.elim (fun g => absurd g.1 (by omega)) (fun g => g.2)
              have hPi := hlk4.2
              refine lv_aload_n S.1 S.2.1 dX1_look_182 rfl (lv_at hl 3 rfl) ?_
              refine yyg_up S w dX1_look_183 ?_
              refine lv_iload_n S.1 S.2.1 dX1_look_186 rfl (lv_at hl 2 rfl) ?_
              refine yyl_6 S w (by have := hli.2.2.1 i hd.1; omega) dX1_look_187 ?_
              refine tw_t (show _ = nI (T P) from by rw [o 6 _ (by omega) (by omega) (by omega), hlk4.1]) ?_
              refine lv_istore_n S.1 S.2.1 dX1_look_188 rfl hl (by decide) rfl (fun ls hl => ?_)
              refine lv_iload_n S.1 S.2.1 dX1_look_189 rfl (lv_at hl 0 rfl) ?_
              refine lv_if_ne (tgt := 115) S.1 S.2.1 dX1_look_190 (by decide) (fun h190 => ?_) (fun h190 => ?_)
              · have hP1 : 1 ≤ P := by
                  rcases Nat.eq_zero_or_pos P with g | g
                  · exact absurd (by rw [g, hli.2.1]; decide) h190
                  · exact g
                rw [hdn] at hl
                exact ih P 0 q1 sm H locs ls (Nat.lt_of_lt_of_le (by unfold tw_mus; rw [hdn]; exact tw_mu hq1 hPi) (Nat.le_of_lt_succ hmu)) ⟨by omega, Or.inr ⟨rfl, hP1, s1, s2, s3, s5⟩⟩ hv1 w (lv_sub hl [2, 0, 3, 4] rfl)
              · have hTP : T P = 0 := (tw_eq (by have := hli.2.2.1 P (by omega); omega) (by omega)).mp h190
                have hP0 : P = 0 := hli.2.2.2.1 P 0 (by omega) (by omega) (by rw [hTP, hli.2.1])
                have hqL : q1 = st 13 1 := by
                  rcases Nat.lt_or_ge q1 (st 13 1) with g | g
                  · have := s5 g
                    rw [hP0, hli.2.1, hn0] at this
                    omega
                  · omega
                rw [hqL] at hv1
                exact tw_vretY S hr hlk w ⟨(hv1.2.2.2 13 2 (by omega) (by omega)).trans hg.2.1, hv1.2.1, hv1.2.2.1, o⟩ dX1_look_193
            · have hdn2 : dn < 2 := by have := hd.2; omega
              have hdn : dn = 1 := by
                have : dn ≠ 0 := fun g => h169 (by rw [g]; decide)
                omega
              have hiP : P = i := hlk3.elim (fun g => g.2.symm) (fun g => absurd g.1 (by omega))
              subst hiP
              refine lv_iload_n S.1 S.2.1 dX1_look_172 rfl (lv_at hl 2 rfl) ?_
              refine lv_if_ne (tgt := 177) S.1 S.2.1 dX1_look_173 (by decide) (fun h173 => ?_) (fun h173 => ?_)
              · have hP1 : 1 ≤ P := by
                  rcases Nat.eq_zero_or_pos P with g | g
                  · exact absurd (by rw [g, hli.2.1]; decide) h173
                  · exact g
                refine lv_iconst (v := nI 0) S.1 S.2.1 dX1_look_177 (by decide) ?_
                refine lv_istore_n S.1 S.2.1 dX1_look_178 rfl hl (by decide) rfl (fun ls hl => ?_)
                refine lv_goto (tgt := 115) S.1 S.2.1 dX1_look_179 (by decide) ?_
                exact ih P 0 q1 sm H locs ls (Nat.lt_of_lt_of_le (by unfold tw_mus; rw [hdn]; exact tw_mu hq1 (by simp; omega)) (Nat.le_of_lt_succ hmu)) ⟨by omega, Or.inr ⟨rfl, hP1, s1, s2, s3, s5⟩⟩ hv1 w (lv_sub hl [0, 2, 3, 4] rfl)
              · have hTP : T P = 0 := (tw_eq (by have := hli.2.2.1 P (by omega); omega) (by omega)).mp h173
                have hP0 : P = 0 := hli.2.2.2.1 P 0 (by omega) (by omega) (by rw [hTP, hli.2.1])
                have hqL : q1 = st 13 1 := by
                  rcases Nat.lt_or_ge q1 (st 13 1) with g | g
                  · have := s5 g
                    rw [hP0, hli.2.1, hn0] at this
                    omega
                  · omega
                rw [hqL] at hv1
                exact tw_vretY S hr hlk w ⟨(hv1.2.2.2 13 2 (by omega) (by omega)).trans hg.2.1, hv1.2.1, hv1.2.2.1, o⟩ dX1_look_176
          · have ht0 : to ≠ 0 := fun g => h138 (by rw [g]; decide)
            obtain ⟨e1, e2, e3, e4, q2, e5, e6, e7, e8⟩ := tw_swn hli htr hsw ht0
            have hp1 : 1 ≤ to := by omega
            have hr51 := hr5 to hp1 (by rw [e1]; exact hli.2.2.1 q1 e2)
            refine lv_aload_n S.1 S.2.1 dX1_look_141 rfl (lv_at hl 3 rfl) ?_
            refine lv_iload_n S.1 S.2.1 dX1_look_142 rfl (lv_at hl 4 rfl) ?_
            refine lv_iload S.1 S.2.1 dX1_look_143 (lv_at hl 0 rfl) ?_
            refine tw_cyi (n := 2) S w hA (kX1_isIn l D cI cZ x ad sm _ (a := a) (k := to) ha hto (by rw [o 1 to (by omega) (by omega) (by omega)]; exact hr51.1) (by rw [o 2 to (by omega) (by omega) (by omega)]; exact hr51.2) (by rw [o 1 to (by omega) (by omega) (by omega), o 10 _ (by omega) (by omega) (by omega)]; have := hr6 _ hr51.1; omega)) (tw_gV wl_X1_63 wn_X1_isIn ws_X1_isIn wi_X1 wy_X1_isIn) rfl rfl (by decide +kernel) ⟨Nat.le_of_ble_eq_true rfl, Nat.le_of_ble_eq_true rfl⟩ rfl hl.1 rfl (Nat.le_of_ble_eq_true rfl) dX1_look_145 ⟨Nat.le_of_ble_eq_true rfl, Nat.le_of_ble_eq_true rfl⟩ (fun r u H locs hp w => ?_)
            obtain ⟨hp, hu⟩ := hp
            rw [hu] at w
            rw [o 1 to (by omega) (by omega) (by omega), o 2 to (by omega) (by omega) (by omega), o 10 _ (by omega) (by omega) (by omega)] at hp
            refine lv_if_ne (tgt := 163) S.1 S.2.1 dX1_look_148 (by decide) (fun h148 => ?_) (fun h148 => ?_)
            · have hIn : st 2 to < st 10 (4 * a + st 1 to) := hp.elim (fun g => g.2) (fun g => absurd g.1 h148)
              refine lv_iload S.1 S.2.1 dX1_look_163 (lv_at hl 0 rfl) ?_
              refine lv_if_ne (tgt := 194) S.1 S.2.1 dX1_look_165 (by decide) (fun h165 => ?_) (fun h165 => absurd h165 h138)
              have hfq0 : f (q1 - 1) = true ↔ st 2 to < st 10 (4 * a + st 1 to) ∧ ¬ ∃ m k, m < 4 ∧ k < st 10 (4 * a + m) ∧ st 7 (400 * m + k) = 2 * to + 1 := by
                have := hr9 (q1 - 1) (by omega)
                rw [show q1 - 1 + 1 = q1 by omega, ← e1] at this
                exact this
              have hgo := hg.1 to (by rw [e1]; exact hli.2.2.1 q1 e2)
              have hg12 : sm 12 to = sg 12 to := hv.2.2.2 12 to (by omega) (by omega)
              refine lv_iload S.1 S.2.1 dX1_look_194 (lv_at hl 0 rfl) ?_
              refine lv_istore_n S.1 S.2.1 dX1_look_196 rfl hl (by decide) rfl (fun ls hl => ?_)
              refine lv_iconst (v := nI 1) S.1 S.2.1 dX1_look_197 (by decide) ?_
              refine lv_istore_n S.1 S.2.1 dX1_look_198 rfl hl (by decide) rfl (fun ls hl => ?_)
              refine lv_aload_n S.1 S.2.1 dX1_look_199 rfl (lv_at hl 3 rfl) ?_
              refine yyg_gone S w dX1_look_200 ?_
              refine lv_iload_n S.1 S.2.1 dX1_look_203 rfl (lv_at hl 1 rfl) ?_
              refine yyl_12 S w hto dX1_look_204 ?_
              refine lv_if_ne (tgt := 228) S.1 S.2.1 dX1_look_205 (by decide) (fun h205 => ?_) (fun h205 => ?_)
              · have hfq : f (q1 - 1) = false := by
                  cases hc : f (q1 - 1) with
                  | false => rfl
                  | true =>
                    have := (hfq0.mp hc).2
                    have g0 : sg 12 to ≠ 0 := fun g => h205 (by rw [hg12, g]; decide)
                    have g1 := hgo.2.mp (by omega)
                    obtain ⟨m9, k9, -, r1, r2, r3⟩ := g1
                    exact absurd ⟨m9, k9, r1, r2, r3⟩ this
                refine lv_goto (tgt := 115) S.1 S.2.1 dX1_look_228 (by decide) ?_
                rw [e1] at hl
                exact ih q1 1 (q1 + 1) sm H locs ls (Nat.lt_of_lt_of_le (by unfold tw_mus; have := tw_mu1 (L := st 13 1) hq1 e2; simp; omega) (Nat.le_of_lt_succ hmu)) ⟨e2, Or.inl ⟨rfl, rfl⟩⟩ (tw_vis_no hv1 hfq) w (lv_sub hl [0, 1, 3, 4] rfl)
              · have hfq : f (q1 - 1) = true := hfq0.mpr ⟨hIn, fun g => by
                  obtain ⟨m9, k9, r1, r2, r3⟩ := g
                  have g1 := hgo.2.mpr ⟨m9, k9, by omega, r1, r2, r3⟩
                  rw [hg12, g1] at h205
                  exact absurd h205 (by decide)⟩
                have hlong : sm 13 3 < 1601 := by
                  rw [hv1.2.1]
                  have := tw_cn_le f (q1 - 1)
                  omega
                refine lv_aload_n S.1 S.2.1 dX1_look_208 rfl (lv_at hl 3 rfl) ?_
                refine yyg_order S w dX1_look_209 ?_
                refine lv_aload_n S.1 S.2.1 dX1_look_212 rfl (lv_at hl 3 rfl) ?_
                refine yyg_long_ S w dX1_look_213 ?_
                refine lv_iload_n S.1 S.2.1 dX1_look_216 rfl (lv_at hl 1 rfl) ?_
                refine yys_11 S w hlong  dX1_look_217 (fun H locs w => ?_)
                refine lv_aload_n S.1 S.2.1 dX1_look_218 rfl (lv_at hl 3 rfl) ?_
                refine lv_dup S.1 S.2.1 dX1_look_219 rfl ?_
                refine yyg_long_ S w dX1_look_220 ?_
                refine tw_t (show _ = nI (sm 13 3) from rfl) ?_
                refine lv_iconst (v := nI 1) S.1 S.2.1 dX1_look_223 (by decide) ?_
                refine lv_iadd S.1 S.2.1 dX1_look_224 ?_
                refine tw_t (nI_add _ _) ?_
                refine yyp_long_ S w dX1_look_225 (fun H locs w => ?_)
                refine lv_goto (tgt := 115) S.1 S.2.1 dX1_look_228 (by decide) ?_
                rw [e1] at w
                rw [e1] at hl
                exact ih q1 1 (q1 + 1) _ H locs ls (Nat.lt_of_lt_of_le (by unfold tw_mus; have := tw_mu1 (L := st 13 1) hq1 e2; simp; omega) (Nat.le_of_lt_succ hmu)) ⟨e2, Or.inl ⟨rfl, rfl⟩⟩ (tw_vis_put hv1 hfq) w (lv_sub hl [0, 1, 3, 4] rfl)
            · have hIn : ¬ st 2 to < st 10 (4 * a + st 1 to) := hp.elim (fun g => absurd (g.1.symm.trans h148) (by decide)) (fun g => g.2)
              have hlack := tw_lack htr (In := fun k => st 2 k < st 10 (4 * a + st 1 k)) (fun i h1 h2 h3 h4 => hr8 _ (tw_pos hli h1 h2) (hli.2.2.1 i h2) h3 h4) hli.2.1 (fun i h1 h2 => by have := tw_pos hli h1 h2; omega) (i := q1) (q := q2) (by omega) e6.2.1 e7 (by rw [← e1]; exact hIn)
              refine lv_aload_n S.1 S.2.1 dX1_look_151 rfl (lv_at hl 3 rfl) ?_
              refine yyg_sibling S w dX1_look_152 ?_
              refine lv_iload S.1 S.2.1 dX1_look_155 (lv_at hl 0 rfl) ?_
              refine yyl_5 S w hto dX1_look_157 ?_
              refine tw_t (show _ = nI (st 5 to) from by rw [o 5 to (by omega) (by omega) (by omega)]) ?_
              refine lv_istore S.1 S.2.1 dX1_look_158 hl (by decide) rfl (fun ls hl => ?_)
              refine lv_goto (tgt := 136) S.1 S.2.1 dX1_look_160 (by decide) ?_
              exact ih2 P q2 (st 5 to) H locs ls (by omega) e6 hlk3 (by omega) (fun k h1 h2 => by rcases Nat.lt_or_ge k q1 with g | g; exact hno k h1 g; exact hlack k g h2) w (lv_sub hl [0, 1, 2, 3, 4] rfl)
      refine lv_iload_n S.1 S.2.1 dX1_look_115 rfl (lv_at hl 0 rfl) ?_
      refine lv_if_eq (tgt := 128) S.1 S.2.1 dX1_look_116 (by decide) (fun h116 => ?_) (fun h116 => ?_)
      · have hdn2 : dn < 2 := by have := hd.2; omega
        have hdn : dn = 0 := (tw_eq (by omega) (by omega)).mp h116
        obtain ⟨-, d1, d2, d3, d4, d5⟩ := hd.2.elim (fun g => absurd g.1 (by omega)) id
        refine lv_aload_n S.1 S.2.1 dX1_look_128 rfl (lv_at hl 2 rfl) ?_
        refine yyg_sibling S w dX1_look_129 ?_
        refine lv_iload_n S.1 S.2.1 dX1_look_132 rfl (lv_at hl 1 rfl) ?_
        refine yyl_5 S w hTi dX1_look_133 ?_
        refine tw_t (show _ = nI (st 5 (T i)) from by rw [o 5 _ (by omega) (by omega) (by omega)]) ?_
        refine lv_istore S.1 S.2.1 dX1_look_134 hl (by decide) rfl (fun ls hl => ?_)
        obtain ⟨P, c1, c2, c3, c4⟩ := tw_sws htr hinj d1 hd.1 d2 d3 d4 d5
        exact inner (st 13 1 + 1) P q (st 5 (T i)) H locs ls (by omega) c4 (Or.inr ⟨hdn, c2, c1⟩) (Nat.le_refl q) (fun k h1 h2 => by omega) w (lv_sub hl [0, 1, 2, 3, 4] rfl)
      · have hdn0 : dn ≠ 0 := fun g => h116 (by rw [g]; decide)
        obtain ⟨hdn, hqi⟩ := hd.2.elim id (fun g => absurd g.1 hdn0)
        refine lv_aload_n S.1 S.2.1 dX1_look_119 rfl (lv_at hl 2 rfl) ?_
        refine yyg_first S w dX1_look_120 ?_
        refine lv_iload_n S.1 S.2.1 dX1_look_123 rfl (lv_at hl 1 rfl) ?_
        refine yyl_4 S w hTi dX1_look_124 ?_
        refine tw_t (show _ = nI (st 4 (T i)) from by rw [o 4 _ (by omega) (by omega) (by omega)]) ?_
        refine lv_goto (tgt := 134) S.1 S.2.1 dX1_look_125 (by decide) ?_
        refine lv_istore S.1 S.2.1 dX1_look_134 hl (by decide) rfl (fun ls hl => ?_)
        exact inner (st 13 1 + 1) i q (st 4 (T i)) H locs ls (by omega) (by rw [hqi]; exact tw_swf htr hd.1) (Or.inl ⟨hdn, rfl⟩) (Nat.le_refl q) (fun k h1 h2 => by omega) w (lv_sub hl [0, 1, 2, 3, 4] rfl)
  have marks : ∀ (n m9 : Nat) (sm : Nat → Nat → Nat) (H : Heap) (locs : List Loc) (ls : Array Slot), 4 - m9 < n → m9 ≤ 4 → tw_gn st sm a m9 0 → TWY D cI cZ x ad sm A s.heap H locs s → lv_has ls 5 [(2, .int (nI m9)), (0, .ref x), (1, .int (nI a))] → W p l e (headSpec wsX1_look ({ frames := 1, cells := 0, slots := 0, locals := 30 })).room s m ([.ref x, .int (nI a)] : List Value).toArray below meth cd H locs 0 0 (MQ below (va_Qv (fun u => tw_lkq st u a T f) (tw_YT D cI cZ x ad A) A) ([.ref x, .int (nI a)] : List Value).toArray s 0 0 A) (F0 m 44 ls []) := by
    intro n
    induction n with
    | zero => intros; omega
    | succ n ih =>
      intro m9 sm H locs ls hm hm0 hg w hl
      refine lv_iload_n S.1 S.2.1 dX1_look_44 rfl (lv_at hl 0 rfl) ?_
      refine lv_iconst (v := nI 4) S.1 S.2.1 dX1_look_45 (by decide) ?_
      refine lv_icmp_ge (tgt := 111) S.1 S.2.1 dX1_look_46 (by decide) (fun h46 => ?_) (fun h46 => ?_)
      · have hm4 : m9 = 4 := by have := (tw_le (by omega) (by omega)).mp h46; omega
        subst hm4
        refine lv_iconst (v := nI 0) S.1 S.2.1 dX1_look_111 (by decide) ?_
        refine lv_istore_n S.1 S.2.1 dX1_look_112 rfl hl (by decide) rfl (fun ls hl => ?_)
        refine lv_iconst (v := nI 1) S.1 S.2.1 dX1_look_113 (by decide) ?_
        refine lv_istore_n S.1 S.2.1 dX1_look_114 rfl hl (by decide) rfl (fun ls hl => ?_)
        have hT0 : T 0 = 0 := hli.2.1
        exact walk sm hg (tw_mus (st 13 1) 0 1 1 + 1) 0 1 1 sm H locs ls (by omega) ⟨by omega, Or.inl ⟨rfl, rfl⟩⟩ ⟨by omega, hg.2.2.1, fun p hp => by omega, fun _ _ _ _ => rfl⟩ w (by rw [hT0]; exact lv_sub hl [0, 1, 2, 3] rfl)
      · have hm4 : m9 < 4 := Nat.not_le.mp (fun g => h46 ((tw_le (by omega) (by omega)).mpr g))
        have inner : ∀ (n2 k : Nat) (sm : Nat → Nat → Nat) (H : Heap) (locs : List Loc) (ls : Array Slot), st 10 (4 * a + m9) - k < n2 → k ≤ st 10 (4 * a + m9) → tw_gn st sm a m9 k → TWY D cI cZ x ad sm A s.heap H locs s → lv_has ls 5 [(3, .int (nI k)), (2, .int (nI m9)), (0, .ref x), (1, .int (nI a))] → W p l e (headSpec wsX1_look ({ frames := 1, cells := 0, slots := 0, locals := 30 })).room s m ([.ref x, .int (nI a)] : List Value).toArray below meth cd H locs 0 0 (MQ below (va_Qv (fun u => tw_lkq st u a T f) (tw_YT D cI cZ x ad A) A) ([.ref x, .int (nI a)] : List Value).toArray s 0 0 A) (F0 m 51 ls []) := by
          intro n2
          induction n2 with
          | zero => intros; omega
          | succ n2 ih2 =>
            intro k sm H locs ls hm2 hk0 hg w hl
            have h400 := hr6 m9 hm4
            refine lv_iload_n S.1 S.2.1 dX1_look_51 rfl (lv_at hl 0 rfl) ?_
            refine lv_aload_n S.1 S.2.1 dX1_look_52 rfl (lv_at hl 2 rfl) ?_
            refine yyg_has S w dX1_look_53 ?_
            refine lv_iconst (v := nI 4) S.1 S.2.1 dX1_look_56 (by decide) ?_
            refine lv_iload_n S.1 S.2.1 dX1_look_57 rfl (lv_at hl 3 rfl) ?_
            refine lv_imul S.1 S.2.1 dX1_look_58 ?_
            refine tw_t (pk_mul _ _) ?_
            refine lv_iload_n S.1 S.2.1 dX1_look_59 rfl (lv_at hl 1 rfl) ?_
            refine lv_iadd S.1 S.2.1 dX1_look_60 ?_
            refine tw_t (nI_add _ _) ?_
            refine yyl_10 S w (by omega) dX1_look_61 ?_
            refine tw_t (show _ = nI (st 10 (4 * a + m9)) from by rw [hg.2.2.2 10 _ (by omega) (by omega)]) ?_
            refine lv_icmp_ge (tgt := 105) S.1 S.2.1 dX1_look_62 (by decide) (fun h62 => ?_) (fun h62 => ?_)
            · have hkk : st 10 (4 * a + m9) ≤ k := (tw_le (by omega) (by omega)).mp h62
              refine lv_iinc S.1 S.2.1 dX1_look_105 hl (k := 1) rfl (tw_inc _) (by decide) rfl (fun ls hl => ?_)
              refine lv_goto (tgt := 44) S.1 S.2.1 dX1_look_108 (by decide) ?_
              exact ih (m9 + 1) sm H locs ls (by omega) (by omega) (tw_gn_next hg hkk) w (lv_sub hl [0, 2, 3] rfl)
            · have hkk : k < st 10 (4 * a + m9) := Nat.not_le.mp (fun g => h62 ((tw_le (by omega) (by omega)).mpr g))
              obtain ⟨y, hy1, hy2⟩ := hr7 m9 k hm4 hkk
              refine lv_aload_n S.1 S.2.1 dX1_look_65 rfl (lv_at hl 2 rfl) ?_
              refine yyg_what S w dX1_look_66 ?_
              refine lv_sipush (v := nI 400) S.1 S.2.1 dX1_look_69 (by decide) ?_
              refine lv_iload_n S.1 S.2.1 dX1_look_72 rfl (lv_at hl 1 rfl) ?_
              refine lv_imul S.1 S.2.1 dX1_look_73 ?_
              refine tw_t (pk_mul _ _) ?_
              refine lv_iload_n S.1 S.2.1 dX1_look_74 rfl (lv_at hl 0 rfl) ?_
              refine lv_iadd S.1 S.2.1 dX1_look_75 ?_
              refine tw_t (nI_add _ _) ?_
              refine yyl_7 S w (by omega) dX1_look_76 ?_
              refine tw_t (show _ = tw_wh (st 7 (400 * m9 + k)) from by rw [hg.2.2.2 7 _ (by omega) (by omega)]) ?_
              refine lv_if_ge (tgt := 99) S.1 S.2.1 dX1_look_77 (by decide) (fun h77 => ?_) (fun h77 => ?_)
              · have hev : ∀ z, st 7 (400 * m9 + k) ≠ 2 * z + 1 := by
                  intro z hz
                  have hzy : z = y ∧ 1 ≤ y := by omega
                  rw [hz, tw_wh_o, hzy.1] at h77
                  exact tw_neg (by omega) (by omega) h77
                refine lv_iinc S.1 S.2.1 dX1_look_99 hl (k := 0) rfl (tw_inc _) (by decide) rfl (fun ls hl => ?_)
                refine lv_goto (tgt := 51) S.1 S.2.1 dX1_look_102 (by decide) ?_
                exact ih2 (k + 1) sm H locs ls (by omega) (by omega) (tw_gn_no hg hev) w (lv_sub hl [0, 1, 2, 3] rfl)
              · have hy2 : st 7 (400 * m9 + k) = 2 * y + 1 := by
                  rcases hy2 with g | g
                  · rw [g, tw_wh_e] at h77
                    exact absurd (nI_pos' (by omega)) h77
                  · exact g.1
                refine lv_aload_n S.1 S.2.1 dX1_look_80 rfl (lv_at hl 2 rfl) ?_
                refine yyg_gone S w dX1_look_81 ?_
                refine lv_aload_n S.1 S.2.1 dX1_look_84 rfl (lv_at hl 2 rfl) ?_
                refine yyg_what S w dX1_look_85 ?_
                refine lv_sipush (v := nI 400) S.1 S.2.1 dX1_look_88 (by decide) ?_
                refine lv_iload_n S.1 S.2.1 dX1_look_91 rfl (lv_at hl 1 rfl) ?_
                refine lv_imul S.1 S.2.1 dX1_look_92 ?_
                refine tw_t (pk_mul _ _) ?_
                refine lv_iload_n S.1 S.2.1 dX1_look_93 rfl (lv_at hl 0 rfl) ?_
                refine lv_iadd S.1 S.2.1 dX1_look_94 ?_
                refine tw_t (nI_add _ _) ?_
                refine yyl_7 S w (by omega) dX1_look_95 ?_
                refine tw_t (show _ = -nI y from by rw [hg.2.2.2 7 _ (by omega) (by omega), hy2, tw_wh_o]) ?_
                refine lv_ineg S.1 S.2.1 dX1_look_96 ?_
                refine tw_t (tw_nn y) ?_
                refine lv_iconst (v := nI 1) S.1 S.2.1 dX1_look_97 (by decide) ?_
                refine yys_12 S w (by omega) (by omega) dX1_look_98 (fun H locs w => ?_)
                refine lv_iinc S.1 S.2.1 dX1_look_99 hl (k := 0) rfl (tw_inc _) (by decide) rfl (fun ls hl => ?_)
                refine lv_goto (tgt := 51) S.1 S.2.1 dX1_look_102 (by decide) ?_
                exact ih2 (k + 1) _ H locs ls (by omega) (by omega) (tw_gn_yes hg hm4 hkk hy2) w (lv_sub hl [0, 1, 2, 3] rfl)
        refine lv_iconst (v := nI 0) S.1 S.2.1 dX1_look_49 (by decide) ?_
        refine lv_istore_n S.1 S.2.1 dX1_look_50 rfl hl (by decide) rfl (fun ls hl => ?_)
        exact inner 401 0 sm H locs ls (by have := hr6 m9 hm4; omega) (by omega) hg w (lv_sub hl [0, 1, 2, 3] rfl)
  have loop : ∀ (n : Nat) (k : Nat) (sm : Nat → Nat → Nat) (H : Heap) (locs : List Loc) (ls : Array Slot), st 13 1 - k < n → k ≤ st 13 1 → (∀ y, y < k → sm 12 y = 0) → (∀ k y, k ≠ 12 → sm k y = (tw_up (tw_up st 13 2 (a + 1)) 13 3 0) k y) → TWY D cI cZ x ad sm A s.heap H locs s → lv_has ls 5 [(2, .int (nI k)), (0, .ref x), (1, .int (nI a))] → W p l e (headSpec wsX1_look ({ frames := 1, cells := 0, slots := 0, locals := 30 })).room s m ([.ref x, .int (nI a)] : List Value).toArray below meth cd H locs 0 0 (MQ below (va_Qv (fun u => tw_lkq st u a T f) (tw_YT D cI cZ x ad A) A) ([.ref x, .int (nI a)] : List Value).toArray s 0 0 A) (F0 m 21 ls []) := by
    intro n
    induction n with
    | zero => intros; omega
    | succ n ih =>
      intro k sm H locs ls hm hk hz ho w hl
      refine lv_iload_n S.1 S.2.1 dX1_look_21 rfl (lv_at hl 0 rfl) ?_
      refine lv_aload_n S.1 S.2.1 dX1_look_22 rfl (lv_at hl 1 rfl) ?_
      refine yyg_letters S w dX1_look_23 ?_
      refine tw_t (show _ = nI (st 13 1) from by rw [ho 13 1 (by omega)]; rfl) ?_
      refine lv_icmp_ge (tgt := 42) S.1 S.2.1 dX1_look_26 (by decide) (fun h26 => ?_) (fun h26 => ?_)
      · have hkL : k = st 13 1 := by have := (tw_le (by omega) (by omega)).mp h26; omega
        refine lv_iconst (v := nI 0) S.1 S.2.1 dX1_look_42 (by decide) ?_
        refine lv_istore_n S.1 S.2.1 dX1_look_43 rfl hl (by decide) rfl (fun ls hl => ?_)
        exact marks 5 0 sm H locs ls (by omega) (by omega) ⟨fun y hy => ⟨by rw [hz y (by omega)]; omega, ⟨fun g => (by rw [hz y (by omega)] at g; omega), fun ⟨m', k', g, _⟩ => (by omega)⟩⟩, by rw [ho 13 2 (by omega)]; rfl, by rw [ho 13 3 (by omega)]; rfl, fun k' y h1 h2 => by rw [ho k' y h1]; exact tw_s1 h2⟩ w (lv_sub hl [0, 1, 2] rfl)
      · have hkL : k < st 13 1 := Nat.not_le.mp (fun g => h26 ((tw_le (by omega) (by omega)).mpr g))
        refine lv_aload_n S.1 S.2.1 dX1_look_29 rfl (lv_at hl 1 rfl) ?_
        refine yyg_gone S w dX1_look_30 ?_
        refine lv_iload_n S.1 S.2.1 dX1_look_33 rfl (lv_at hl 0 rfl) ?_
        refine lv_iconst (v := nI 0) S.1 S.2.1 dX1_look_34 (by decide) ?_
        refine yys_12 S w (by omega) (by omega) dX1_look_35 (fun H locs w => ?_)
        refine lv_iinc S.1 S.2.1 dX1_look_36 hl (k := 0) rfl (tw_inc _) (by decide) rfl (fun ls hl => ?_)
        refine lv_goto (tgt := 21) S.1 S.2.1 dX1_look_39 (by decide) ?_
        exact ih (k + 1) _ H locs ls (by omega) (by omega) (fun y hy => by by_cases g : y = k; rw [g, tw_up_e]; rw [tw_up_i g]; exact hz y (by omega)) (fun k' y h => by rw [tw_up_k h]; exact ho k' y h) w (lv_sub hl [0, 1, 2] rfl)
  refine lv_aload_n S.1 S.2.1 dX1_look_0 rfl (lv_at hl 0 rfl) ?_
  refine yyg_orderOf S w dX1_look_1 ?_
  refine lv_iload_n S.1 S.2.1 dX1_look_4 rfl (lv_at hl 1 rfl) ?_
  refine lv_icmp_ne (tgt := 9) S.1 S.2.1 dX1_look_5 (by decide) (fun h5 => ?_) (fun h5 => ?_)
  · refine lv_aload_n S.1 S.2.1 dX1_look_9 rfl (lv_at hl 0 rfl) ?_
    refine lv_iload_n S.1 S.2.1 dX1_look_10 rfl (lv_at hl 1 rfl) ?_
    refine tw_t (nI_pred a).symm ?_
    refine yyp_orderOf S w dX1_look_11 (fun H locs w => ?_)
    refine lv_aload_n S.1 S.2.1 dX1_look_14 rfl (lv_at hl 0 rfl) ?_
    refine lv_iconst (v := nI 0) S.1 S.2.1 dX1_look_15 (by decide) ?_
    refine yyp_long_ S w dX1_look_16 (fun H locs w => ?_)
    refine lv_iconst (v := nI 0) S.1 S.2.1 dX1_look_19 (by decide) ?_
    refine lv_istore_n S.1 S.2.1 dX1_look_20 rfl hl (by decide) rfl (fun ls hl => ?_)
    exact loop (st 13 1 + 1) 0 _ H locs ls (by omega) (by omega) (fun y hy => by omega) (fun _ _ _ => rfl) w (lv_sub hl [0, 1, 2] rfl)
  · have hc2 := tw_m1e h5 (by omega) (by omega)
    exact tw_vretY S hr hlk w ⟨hc2, (hr10 hc2).1, (hr10 hc2).2, fun _ _ _ _ _ => rfl⟩ dX1_look_8
