set_option maxHeartbeats 4000000 in
set_option maxRecDepth 100000 in
/-- insert(c, at, letter) -/
theorem kX1_insert (l : Launch) (D : va_G) (cI cZ : ClassId) (x : Nat) (ad : Nat → Nat) (st : Nat → Nat → Nat) (sz : Nat) {v t b : Int32} {T : Nat → Nat} {F : Nat → Nat → Bool} (hlk : ∀ a, a < 4 → tw_lkp st a T (F a)) (h9 : ∀ a, a < 4 → st 9 a ≤ 400) (hL : st 13 1 < 1601) (hnm2 : ∀ y, st 0 y < 1000000) (hnum : ∀ y, st 0 y < 2147483648) (hfs : ∀ y, st 13 1 ≤ y → st 4 y = 0) (hown : ∀ y, 1 ≤ y → y < st 13 1 → tw_In st (st 1 y) y) : Met l yX1_insert wsX1_insert ({ frames := 3, cells := 0, slots := 0, locals := 80 }) (va_Pc [.ref x, .int v, .int t, .int b] (fun U => U.heap.size = sz ∧ tw_YU D cI cZ x ad st U)) (va_Qi (fun r u => ((tw_nc v ∨ ∃ a, a < 4 ∧ v = nI a ∧ (b < 0 ∨ nI 255 < b)) ∧ u = tw_up st 13 0 1) ∨ ∃ a d, a < 4 ∧ v = nI a ∧ d ≤ 255 ∧ b = nI d ∧ (((t < 0 ∨ nI (tw_cn (F a) (st 13 1 - 1)) < t) ∧ tw_lkr st u a T (F a) 1) ∨ ∃ k, k ≤ tw_cn (F a) (st 13 1 - 1) ∧ t = nI k ∧ ((st 9 a = 400 ∧ tw_lkr st u a T (F a) 2) ∨ (st 9 a ≠ 400 ∧ r = nI (st 9 a) ∧ tw_insM st u a k d T (F a))))) (tw_YT D cI cZ x ad (va_A (tw_y cI cZ x ad st) sz)) (va_A (tw_y cI cZ x ad st) sz)) 0 0 (va_A (tw_y cI cZ x ad st) sz) := by
  refine Met.ofW (cc := cX1_insert) (maxL := 9) (ret := (some .int)) (by decide) rfl ?_
  intro p e s m args below meth cd s₁ B hml hv
  obtain ⟨rfl, hsz, hU⟩ := hv
  subst hsz
  have S : CallFix p m cd cX1_insert 9 s ([.ref x, .int v, .int t, .int b] : List Value).toArray tw_wall RX1 := ⟨B.exec, B.bytes, hml, findClass_of_methodNamed B.named, fun w h => atoms_spec (ws := wsX1_insert) B.pre w (List.mem_cons_of_mem _ h)⟩
  have hr := B.returns
  have hlk0 := B.notSynchronized
  have z : va_S (fun q => s.heap.size ≤ q) s.heap s.heap [] := va_S.rf
  have w := tw_Y0 hU
  have hA : ∀ q : Nat, s.heap.size ≤ q → va_A (tw_y cI cZ x ad st) s.heap.size q := fun q h => Or.inr h
  generalize va_A (tw_y cI cZ x ad st) s.heap.size = A at w hA ⊢
  have hl := lv_entry ([.ref x, .int v, .int t, .int b]) (n := 9) (Nat.le_of_ble_eq_true rfl)
  rw [lg_entry_eq]
  generalize (lg_sl ([.ref x, .int v, .int t, .int b]) ++ List.replicate (9 - (lg_sl ([.ref x, .int v, .int t, .int b])).length) Slot.unset).toArray = ls at hl ⊢
  have hl : lv_has ls 9 [(0, .ref x), (1, .int v), (2, .int t), (3, .int b)] := hl
  refine lv_aload_n S.1 S.2.1 dX1_insert_0 rfl (lv_at hl 0 rfl) ?_
  refine lv_iload_n S.1 S.2.1 dX1_insert_1 rfl (lv_at hl 1 rfl) ?_
  refine tw_cst (n := 1) S w.2.2.2 hA (kX1_isCopy l _ (v := v)) (tw_gS wl_X1_67 wt_X1_isCopy wi_X1 wy_X1_isCopy) rfl rfl (by decide +kernel) ⟨Nat.le_of_ble_eq_true rfl, Nat.le_of_ble_eq_true rfl⟩ rfl hl.1 rfl (Nat.le_of_ble_eq_true rfl) dX1_insert_2 ⟨Nat.le_of_ble_eq_true rfl, Nat.le_of_ble_eq_true rfl⟩ (fun r H locs hp hk z9 => ?_)
  have w := w.kept hk z9
  refine lv_if_eq (tgt := 19) S.1 S.2.1 dX1_insert_5 (by decide) (fun h5 => ?_) (fun h5 => ?_)
  · have hbad : tw_nc v := hp.elim (fun g => absurd (g.1.symm.trans h5) (by decide)) (fun g => g.2)
    refine lv_iconst (v := nI 1) S.1 S.2.1 dX1_insert_19 (by decide) ?_
    refine lv_goto (tgt := 24) S.1 S.2.1 dX1_insert_20 (by decide) ?_
    refine tw_cyi (n := 1) S w hA (kX1_bad l D cI cZ x ad _ _ (b := 1) (by omega)) (tw_gV wl_X1_71 wn_X1_bad ws_X1_bad wi_X1 wy_X1_bad) rfl rfl (by decide +kernel) ⟨Nat.le_of_ble_eq_true rfl, Nat.le_of_ble_eq_true rfl⟩ rfl hl.1 rfl (Nat.le_of_ble_eq_true rfl) dX1_insert_24 ⟨Nat.le_of_ble_eq_true rfl, Nat.le_of_ble_eq_true rfl⟩ (fun r u H locs hp w => ?_)
    obtain ⟨hr9, hu⟩ := hp
    subst hr9
    rw [hu] at w
    refine lv_if_eq (tgt := 32) S.1 S.2.1 dX1_insert_27 (by decide) (fun h27 => absurd h27 (by decide)) (fun h27 => ?_)
    refine lv_iconst (v := nI 0) S.1 S.2.1 dX1_insert_30 (by decide) ?_
    exact tw_iretY S hr hlk0 w (Or.inl ⟨Or.inl hbad, rfl⟩) dX1_insert_31
  · obtain ⟨a, ha, rfl⟩ := hp.elim (fun g => g.2) (fun g => absurd g.1 h5)
    refine lv_iload_n S.1 S.2.1 dX1_insert_8 rfl (lv_at hl 3 rfl) ?_
    refine lv_if_lt (tgt := 19) S.1 S.2.1 dX1_insert_9 (by decide) (fun h9x => ?_) (fun h9x => ?_)
    · refine lv_iconst (v := nI 1) S.1 S.2.1 dX1_insert_19 (by decide) ?_
      refine lv_goto (tgt := 24) S.1 S.2.1 dX1_insert_20 (by decide) ?_
      refine tw_cyi (n := 1) S w hA (kX1_bad l D cI cZ x ad _ _ (b := 1) (by omega)) (tw_gV wl_X1_71 wn_X1_bad ws_X1_bad wi_X1 wy_X1_bad) rfl rfl (by decide +kernel) ⟨Nat.le_of_ble_eq_true rfl, Nat.le_of_ble_eq_true rfl⟩ rfl hl.1 rfl (Nat.le_of_ble_eq_true rfl) dX1_insert_24 ⟨Nat.le_of_ble_eq_true rfl, Nat.le_of_ble_eq_true rfl⟩ (fun r u H locs hp w => ?_)
      obtain ⟨hr9, hu⟩ := hp
      subst hr9
      rw [hu] at w
      refine lv_if_eq (tgt := 32) S.1 S.2.1 dX1_insert_27 (by decide) (fun h27 => absurd h27 (by decide)) (fun h27 => ?_)
      refine lv_iconst (v := nI 0) S.1 S.2.1 dX1_insert_30 (by decide) ?_
      exact tw_iretY S hr hlk0 w (Or.inl ⟨Or.inr ⟨a, ha, rfl, Or.inl h9x⟩, rfl⟩) dX1_insert_31
    · refine lv_iload_n S.1 S.2.1 dX1_insert_12 rfl (lv_at hl 3 rfl) ?_
      refine lv_sipush (v := nI 255) S.1 S.2.1 dX1_insert_13 (by decide) ?_
      refine lv_icmp_le (tgt := 23) S.1 S.2.1 dX1_insert_16 (by decide) (fun h16 => ?_) (fun h16 => ?_)
      · obtain ⟨d, hd1, rfl⟩ := tw_up_of (by omega) ⟨h9x, h16⟩
        refine lv_iconst (v := nI 0) S.1 S.2.1 dX1_insert_23 (by decide) ?_
        refine tw_cyi (n := 1) S w hA (kX1_bad l D cI cZ x ad _ _ (b := 0) (by omega)) (tw_gV wl_X1_71 wn_X1_bad ws_X1_bad wi_X1 wy_X1_bad) rfl rfl (by decide +kernel) ⟨Nat.le_of_ble_eq_true rfl, Nat.le_of_ble_eq_true rfl⟩ rfl hl.1 rfl (Nat.le_of_ble_eq_true rfl) dX1_insert_24 ⟨Nat.le_of_ble_eq_true rfl, Nat.le_of_ble_eq_true rfl⟩ (fun r u H locs hp w => ?_)
        obtain ⟨hr9, hu⟩ := hp
        subst hr9
        rw [hu] at w
        refine lv_if_eq (tgt := 32) S.1 S.2.1 dX1_insert_27 (by decide) (fun h27 => ?_) (fun h27 => absurd (by decide) h27)
        refine lv_aload_n S.1 S.2.1 dX1_insert_32 rfl (lv_at hl 0 rfl) ?_
        refine lv_iload_n S.1 S.2.1 dX1_insert_33 rfl (lv_at hl 1 rfl) ?_
        refine tw_cyv (n := 1) S w hA (kX1_look l D cI cZ x ad _ _ ha (tw_lkp_b (hlk a ha))) (tw_gV wl_X1_75 wn_X1_look ws_X1_look wi_X1 wy_X1_look) rfl rfl (by decide +kernel) ⟨Nat.le_of_ble_eq_true rfl, Nat.le_of_ble_eq_true rfl⟩ rfl hl.1 rfl (Nat.le_of_ble_eq_true rfl) dX1_insert_34 ⟨Nat.le_of_ble_eq_true rfl, Nat.le_of_ble_eq_true rfl⟩ (fun s1 H locs hq w => ?_)
        have e33 : s1 13 3 = tw_cn (F a) (st 13 1 - 1) := hq.2.1
        obtain ⟨⟨L1, L2⟩, hli, htr, hinj, hn0, hr5, hr6, hr7, hr8, hr9, hr10, hr11⟩ := hlk a ha
        refine lv_aload_n S.1 S.2.1 dX1_insert_37 rfl (lv_at hl 0 rfl) ?_
        refine lv_iload_n S.1 S.2.1 dX1_insert_38 rfl (lv_at hl 2 rfl) ?_
        refine lv_if_lt (tgt := 50) S.1 S.2.1 dX1_insert_39 (by decide) (fun h39 => ?_) (fun h39 => ?_)
        · refine lv_iconst (v := nI 1) S.1 S.2.1 dX1_insert_50 (by decide) ?_
          refine lv_goto (tgt := 55) S.1 S.2.1 dX1_insert_51 (by decide) ?_
          refine tw_cyi (n := 1) S w hA (kX1_bad l D cI cZ x ad _ _ (b := 1) (by omega)) (tw_gV wl_X1_71 wn_X1_bad ws_X1_bad wi_X1 wy_X1_bad) rfl rfl (by decide +kernel) ⟨Nat.le_of_ble_eq_true rfl, Nat.le_of_ble_eq_true rfl⟩ rfl hl.1 rfl (Nat.le_of_ble_eq_true rfl) dX1_insert_55 ⟨Nat.le_of_ble_eq_true rfl, Nat.le_of_ble_eq_true rfl⟩ (fun r u H locs hp w => ?_)
          obtain ⟨hr9, hu⟩ := hp
          subst hr9
          rw [hu] at w
          refine lv_if_eq (tgt := 63) S.1 S.2.1 dX1_insert_58 (by decide) (fun h58 => absurd h58 (by decide)) (fun h58 => ?_)
          refine lv_iconst (v := nI 0) S.1 S.2.1 dX1_insert_61 (by decide) ?_
          exact tw_iretY S hr hlk0 w (Or.inr ⟨a, d, ha, rfl, hd1, rfl, Or.inl ⟨Or.inl h39, tw_lkr_of hq⟩⟩) dX1_insert_62
        · refine lv_iload_n S.1 S.2.1 dX1_insert_42 rfl (lv_at hl 2 rfl) ?_
          refine lv_aload_n S.1 S.2.1 dX1_insert_43 rfl (lv_at hl 0 rfl) ?_
          refine yyg_long_ S w dX1_insert_44 ?_
          refine tw_t (show _ = nI (tw_cn (F a) (st 13 1 - 1)) from by rw [e33]) ?_
          refine lv_icmp_le (tgt := 54) S.1 S.2.1 dX1_insert_47 (by decide) (fun h47 => ?_) (fun h47 => ?_)
          · obtain ⟨k, hk1, rfl⟩ := tw_up_of (by have := tw_cn_le (F a) (st 13 1 - 1); omega) ⟨h39, h47⟩
            refine lv_iconst (v := nI 0) S.1 S.2.1 dX1_insert_54 (by decide) ?_
            refine tw_cyi (n := 1) S w hA (kX1_bad l D cI cZ x ad _ _ (b := 0) (by omega)) (tw_gV wl_X1_71 wn_X1_bad ws_X1_bad wi_X1 wy_X1_bad) rfl rfl (by decide +kernel) ⟨Nat.le_of_ble_eq_true rfl, Nat.le_of_ble_eq_true rfl⟩ rfl hl.1 rfl (Nat.le_of_ble_eq_true rfl) dX1_insert_55 ⟨Nat.le_of_ble_eq_true rfl, Nat.le_of_ble_eq_true rfl⟩ (fun r u H locs hp w => ?_)
            obtain ⟨hr9, hu⟩ := hp
            subst hr9
            rw [hu] at w
            refine lv_if_eq (tgt := 63) S.1 S.2.1 dX1_insert_58 (by decide) (fun h58 => ?_) (fun h58 => absurd (by decide) h58)
            have hR : tw_lkr st (tw_up s1 13 0 0) a T (F a) 0 := tw_lkr_of hq
            obtain ⟨sA, hsA⟩ : ∃ z, z = tw_up s1 13 0 0 := ⟨_, rfl⟩
            rw [← hsA] at w hR
            have oA : ∀ c y, c < 11 → sA c y = st c y := fun c y h => hR.2.2.2.2 c y (by omega) (by omega) (by omega)
            have e131 : sA 13 1 = st 13 1 := hR.2.2.2.2 13 1 (by omega) (by omega) (by omega)
            refine lv_aload_n S.1 S.2.1 dX1_insert_63 rfl (lv_at hl 0 rfl) ?_
            refine yyg_made S w dX1_insert_64 ?_
            refine lv_iload_n S.1 S.2.1 dX1_insert_67 rfl (lv_at hl 1 rfl) ?_
            refine yyl_9 S w (by omega) dX1_insert_68 ?_
            refine tw_t (show _ = nI (st 9 a) from by rw [oA 9 a (by omega)]) ?_
            refine lv_sipush (v := nI 400) S.1 S.2.1 dX1_insert_69 (by decide) ?_
            refine lv_icmp_ne (tgt := 82) S.1 S.2.1 dX1_insert_72 (by decide) (fun h72 => ?_) (fun h72 => ?_)
            · have hmd : st 9 a ≠ 400 := fun g => h72 (by rw [g])
              have loop : ∀ (n : Nat) (j mo : Nat) (H : Heap) (locs : List Loc) (ls : Array Slot), st 13 1 - j < n → j ≤ st 13 1 → 1 ≤ j → mo < 2147483648 → tw_most st a j mo → TWY D cI cZ x ad sA A s.heap H locs s → lv_has ls 9 [(5, .int (nI j)), (4, .int (nI mo)), (0, .ref x), (1, .int (nI a)), (2, .int (nI k)), (3, .int (nI d))] → W p l e (headSpec wsX1_insert ({ frames := 3, cells := 0, slots := 0, locals := 80 })).room s m ([.ref x, .int (nI a), .int (nI k), .int (nI d)] : List Value).toArray below meth cd H locs 0 0 (MQ below (va_Qi (fun r u => ((tw_nc (nI a) ∨ ∃ a', a' < 4 ∧ nI a = nI a' ∧ (nI d < 0 ∨ nI 255 < nI d)) ∧ u = tw_up st 13 0 1) ∨ ∃ a' d', a' < 4 ∧ nI a = nI a' ∧ d' ≤ 255 ∧ nI d = nI d' ∧ (((nI k < 0 ∨ nI (tw_cn (F a') (st 13 1 - 1)) < nI k) ∧ tw_lkr st u a' T (F a') 1) ∨ ∃ k', k' ≤ tw_cn (F a') (st 13 1 - 1) ∧ nI k = nI k' ∧ ((st 9 a' = 400 ∧ tw_lkr st u a' T (F a') 2) ∨ (st 9 a' ≠ 400 ∧ r = nI (st 9 a') ∧ tw_insM st u a' k' d' T (F a'))))) (tw_YT D cI cZ x ad A) A) ([.ref x, .int (nI a), .int (nI k), .int (nI d)] : List Value).toArray s 0 0 A) (F0 m 88 ls []) := by
                intro n
                induction n with
                | zero => intros; omega
                | succ n ih =>
                  intro j mo H locs ls hm hj0 hj1 hmo0 hmo w hl
                  refine lv_iload S.1 S.2.1 dX1_insert_88 (lv_at hl 0 rfl) ?_
                  refine lv_aload_n S.1 S.2.1 dX1_insert_90 rfl (lv_at hl 2 rfl) ?_
                  refine yyg_letters S w dX1_insert_91 ?_
                  refine tw_t (show _ = nI (st 13 1) from by rw [e131]) ?_
                  refine lv_icmp_ge (tgt := 134) S.1 S.2.1 dX1_insert_94 (by decide) (fun h94 => ?_) (fun h94 => ?_)
                  · have hj : j = st 13 1 := by have := (tw_le (by omega) (by omega)).mp h94; omega
                    rw [hj] at hmo
                    have hmo9 : mo + 1 < 2147483648 := by
                      rcases hmo.2 with g | ⟨y, -, -, -, g⟩
                      · omega
                      · have := hnm2 y
                        omega
                    have fin : ∀ (bi q sb last : Nat) (H : Heap) (locs : List Loc) (ls : Array Slot), tw_bhM (st 13 1) (F a) k bi → tw_sw (st 13 1) T (tw_n st) (st 6) bi q sb → (∀ j, bi < j → j < q → 4 * (mo + 1) + a < tw_n st (T j)) → (sb ≠ 0 → ¬ 4 * (mo + 1) + a < tw_n st sb) → tw_last (st 13 1) T (tw_n st) (st 6) bi q last → TWY D cI cZ x ad (tw_i6 sA (st 13 1) mo a (st 9 a) d (T bi)) A s.heap H locs s → lv_has ls 9 [(8, .int (nI sb)), (7, .int (nI last)), (6, .int (nI (T bi))), (5, .int (nI (st 13 1))), (0, .ref x), (1, .int (nI a)), (2, .int (nI k)), (3, .int (nI d))] → W p l e (headSpec wsX1_insert ({ frames := 3, cells := 0, slots := 0, locals := 80 })).room s m ([.ref x, .int (nI a), .int (nI k), .int (nI d)] : List Value).toArray below meth cd H locs 0 0 (MQ below (va_Qi (fun r u => ((tw_nc (nI a) ∨ ∃ a', a' < 4 ∧ nI a = nI a' ∧ (nI d < 0 ∨ nI 255 < nI d)) ∧ u = tw_up st 13 0 1) ∨ ∃ a' d', a' < 4 ∧ nI a = nI a' ∧ d' ≤ 255 ∧ nI d = nI d' ∧ (((nI k < 0 ∨ nI (tw_cn (F a') (st 13 1 - 1)) < nI k) ∧ tw_lkr st u a' T (F a') 1) ∨ ∃ k', k' ≤ tw_cn (F a') (st 13 1 - 1) ∧ nI k = nI k' ∧ ((st 9 a' = 400 ∧ tw_lkr st u a' T (F a') 2) ∨ (st 9 a' ≠ 400 ∧ r = nI (st 9 a') ∧ tw_insM st u a' k' d' T (F a'))))) (tw_YT D cI cZ x ad A) A) ([.ref x, .int (nI a), .int (nI k), .int (nI d)] : List Value).toArray s 0 0 A) (F0 m 261 ls []) := by
                      intro bi q sb last H locs ls hbh hsw hgt hnb hla w hl
                      have hbL : bi < st 13 1 := by have := hsw.1; have := hsw.2.1; omega
                      have hTb := hli.2.2.1 bi hbL
                      have hsb : sb < 1601 := by
                        rcases hsw.2.2.2 with ⟨g, g2, -⟩ | ⟨g, -⟩
                        · have := hli.2.2.1 q g
                          omega
                        · omega
                      have hlast : last < 1601 := by
                        rcases hla with ⟨g, -⟩ | ⟨i, i1, i2, i3, -⟩
                        · omega
                        · have := hli.2.2.1 i (by have := hsw.2.1; omega)
                          omega
                      refine lv_aload_n S.1 S.2.1 dX1_insert_261 rfl (lv_at hl 4 rfl) ?_
                      refine yyg_sibling S w dX1_insert_262 ?_
                      refine lv_iload S.1 S.2.1 dX1_insert_265 (lv_at hl 3 rfl) ?_
                      refine lv_iload S.1 S.2.1 dX1_insert_267 (lv_at hl 0 rfl) ?_
                      refine yys_5 S w (by omega)  dX1_insert_269 (fun H locs w => ?_)
                      refine lv_iload S.1 S.2.1 dX1_insert_270 (lv_at hl 1 rfl) ?_
                      refine lv_if_ne (tgt := 287) S.1 S.2.1 dX1_insert_272 (by decide) (fun h272 => ?_) (fun h272 => ?_)
                      · have hla0 : last ≠ 0 := fun g => h272 (by rw [g]; decide)
                        skip
                        refine lv_aload_n S.1 S.2.1 dX1_insert_287 rfl (lv_at hl 4 rfl) ?_
                        refine yyg_sibling S w dX1_insert_288 ?_
                        refine lv_iload S.1 S.2.1 dX1_insert_291 (lv_at hl 1 rfl) ?_
                        refine lv_iload S.1 S.2.1 dX1_insert_293 (lv_at hl 3 rfl) ?_
                        refine yys_5 S w (by omega)  dX1_insert_295 (fun H locs w => ?_)
                        refine lv_aload_n S.1 S.2.1 dX1_insert_296 rfl (lv_at hl 4 rfl) ?_
                        refine lv_iload_n S.1 S.2.1 dX1_insert_297 rfl (lv_at hl 5 rfl) ?_
                        refine lv_iload S.1 S.2.1 dX1_insert_298 (lv_at hl 3 rfl) ?_
                        refine tw_t (tw_wh_e (st 13 1)).symm ?_
                        have w : TWY D cI cZ x ad (tw_i8 sA (st 13 1) mo a (st 9 a) d (T bi) sb last) A s.heap H locs s := by
                          unfold tw_i8
                          first
                            | (rw [if_pos hla0]; exact w)
                            | (rw [if_neg hla0]; exact w)
                        have e9 : tw_i8 sA (st 13 1) mo a (st 9 a) d (T bi) sb last 9 a = st 9 a := by rw [tw_i8_o (by omega) (by omega) (by omega), tw_i5_o (by omega) (by omega), oA 9 a (by omega)]
                        refine tw_cyi (n := 2) S w hA (kX1_done l D cI cZ x ad (tw_i8 sA (st 13 1) mo a (st 9 a) d (T bi) sb last) _ (h := 2 * st 13 1) ha (by rw [e9]; have := h9 a ha; omega)) (tw_gV wl_X1_82 wn_X1_done ws_X1_done wi_X1 wy_X1_done) rfl rfl (by decide +kernel) ⟨Nat.le_of_ble_eq_true rfl, Nat.le_of_ble_eq_true rfl⟩ rfl hl.1 rfl (Nat.le_of_ble_eq_true rfl) dX1_insert_300 ⟨Nat.le_of_ble_eq_true rfl, Nat.le_of_ble_eq_true rfl⟩ (fun r u H locs hp w => ?_)
                        rw [e9] at hp
                        obtain ⟨hr9, hu⟩ := hp
                        subst hr9
                        exact tw_iretY S hr hlk0 w (Or.inr ⟨a, d, ha, rfl, hd1, rfl, Or.inr ⟨k, hk1, rfl, Or.inr ⟨hmd, rfl, tw_insM_of (hlk a ha) hR ha hmo hbh hown hfs hsw hgt hnb hla hu⟩⟩⟩) dX1_insert_303
                      · have hla0 : last = 0 := (tw_eq (by omega) (by omega)).mp h272
                        refine lv_aload_n S.1 S.2.1 dX1_insert_275 rfl (lv_at hl 4 rfl) ?_
                        refine yyg_first S w dX1_insert_276 ?_
                        refine lv_iload S.1 S.2.1 dX1_insert_279 (lv_at hl 2 rfl) ?_
                        refine lv_iload S.1 S.2.1 dX1_insert_281 (lv_at hl 3 rfl) ?_
                        refine yys_4 S w (by omega)  dX1_insert_283 (fun H locs w => ?_)
                        refine lv_goto (tgt := 296) S.1 S.2.1 dX1_insert_284 (by decide) ?_
                        refine lv_aload_n S.1 S.2.1 dX1_insert_296 rfl (lv_at hl 4 rfl) ?_
                        refine lv_iload_n S.1 S.2.1 dX1_insert_297 rfl (lv_at hl 5 rfl) ?_
                        refine lv_iload S.1 S.2.1 dX1_insert_298 (lv_at hl 3 rfl) ?_
                        refine tw_t (tw_wh_e (st 13 1)).symm ?_
                        have w : TWY D cI cZ x ad (tw_i8 sA (st 13 1) mo a (st 9 a) d (T bi) sb last) A s.heap H locs s := by
                          unfold tw_i8
                          first
                            | (rw [if_pos hla0]; exact w)
                            | (rw [if_neg hla0]; exact w)
                        have e9 : tw_i8 sA (st 13 1) mo a (st 9 a) d (T bi) sb last 9 a = st 9 a := by rw [tw_i8_o (by omega) (by omega) (by omega), tw_i5_o (by omega) (by omega), oA 9 a (by omega)]
                        refine tw_cyi (n := 2) S w hA (kX1_done l D cI cZ x ad (tw_i8 sA (st 13 1) mo a (st 9 a) d (T bi) sb last) _ (h := 2 * st 13 1) ha (by rw [e9]; have := h9 a ha; omega)) (tw_gV wl_X1_82 wn_X1_done ws_X1_done wi_X1 wy_X1_done) rfl rfl (by decide +kernel) ⟨Nat.le_of_ble_eq_true rfl, Nat.le_of_ble_eq_true rfl⟩ rfl hl.1 rfl (Nat.le_of_ble_eq_true rfl) dX1_insert_300 ⟨Nat.le_of_ble_eq_true rfl, Nat.le_of_ble_eq_true rfl⟩ (fun r u H locs hp w => ?_)
                        rw [e9] at hp
                        obtain ⟨hr9, hu⟩ := hp
                        subst hr9
                        exact tw_iretY S hr hlk0 w (Or.inr ⟨a, d, ha, rfl, hd1, rfl, Or.inr ⟨k, hk1, rfl, Or.inr ⟨hmd, rfl, tw_insM_of (hlk a ha) hR ha hmo hbh hown hfs hsw hgt hnb hla hu⟩⟩⟩) dX1_insert_303
                    have sibs : ∀ (bi : Nat), tw_bhM (st 13 1) (F a) k bi → ∀ (n q sb last : Nat) (H : Heap) (locs : List Loc) (ls : Array Slot), st 13 1 - q < n → tw_sw (st 13 1) T (tw_n st) (st 6) bi q sb → (∀ j, bi < j → j < q → 4 * (mo + 1) + a < tw_n st (T j)) → tw_last (st 13 1) T (tw_n st) (st 6) bi q last → TWY D cI cZ x ad (tw_i6 sA (st 13 1) mo a (st 9 a) d (T bi)) A s.heap H locs s → lv_has ls 9 [(8, .int (nI sb)), (7, .int (nI last)), (6, .int (nI (T bi))), (5, .int (nI (st 13 1))), (0, .ref x), (1, .int (nI a)), (2, .int (nI k)), (3, .int (nI d))] → W p l e (headSpec wsX1_insert ({ frames := 3, cells := 0, slots := 0, locals := 80 })).room s m ([.ref x, .int (nI a), .int (nI k), .int (nI d)] : List Value).toArray below meth cd H locs 0 0 (MQ below (va_Qi (fun r u => ((tw_nc (nI a) ∨ ∃ a', a' < 4 ∧ nI a = nI a' ∧ (nI d < 0 ∨ nI 255 < nI d)) ∧ u = tw_up st 13 0 1) ∨ ∃ a' d', a' < 4 ∧ nI a = nI a' ∧ d' ≤ 255 ∧ nI d = nI d' ∧ (((nI k < 0 ∨ nI (tw_cn (F a') (st 13 1 - 1)) < nI k) ∧ tw_lkr st u a' T (F a') 1) ∨ ∃ k', k' ≤ tw_cn (F a') (st 13 1 - 1) ∧ nI k = nI k' ∧ ((st 9 a' = 400 ∧ tw_lkr st u a' T (F a') 2) ∨ (st 9 a' ≠ 400 ∧ r = nI (st 9 a') ∧ tw_insM st u a' k' d' T (F a'))))) (tw_YT D cI cZ x ad A) A) ([.ref x, .int (nI a), .int (nI k), .int (nI d)] : List Value).toArray s 0 0 A) (F0 m 229 ls []) := by
                      intro bi hbh n
                      induction n with
                      | zero => intros; omega
                      | succ n ih =>
                        intro q sb last H locs ls hm hsw hgt hla w hl
                        have hsb : sb < 1601 := by
                          rcases hsw.2.2.2 with ⟨g, g2, -⟩ | ⟨g, -⟩
                          · have := hli.2.2.1 q g
                            omega
                          · omega
                        refine lv_iload S.1 S.2.1 dX1_insert_229 (lv_at hl 0 rfl) ?_
                        refine lv_if_eq (tgt := 261) S.1 S.2.1 dX1_insert_231 (by decide) (fun h231 => ?_) (fun h231 => ?_)
                        · have hs0 : sb = 0 := (tw_eq (by omega) (by omega)).mp h231
                          exact fin bi q sb last H locs ls hbh hsw hgt (fun z => absurd hs0 z) hla w (lv_sub hl [0, 1, 2, 3, 4, 5, 6, 7] rfl)
                        · have hs0 : sb ≠ 0 := fun g => h231 (by rw [g]; decide)
                          obtain ⟨e1, e2, e3, e4, q2, e5, e6, e7, e8⟩ := tw_swn hli htr hsw hs0
                          have hTq := hli.2.2.1 q e2
                          have hsp : 1 ≤ sb := by omega
                          have hs5 := (hr5 sb hsp (by omega)).1
                          have ei0 : (tw_i6 sA (st 13 1) mo a (st 9 a) d (T bi)) 0 sb = st 0 sb := by unfold tw_i6; rw [tw_up_k (by omega), tw_i5_y (by omega) (by omega), oA 0 sb (by omega)]
                          have ei1 : (tw_i6 sA (st 13 1) mo a (st 9 a) d (T bi)) 1 sb = st 1 sb := by unfold tw_i6; rw [tw_up_k (by omega), tw_i5_y (by omega) (by omega), oA 1 sb (by omega)]
                          have el0 : (tw_i6 sA (st 13 1) mo a (st 9 a) d (T bi)) 0 (st 13 1) = mo + 1 := by unfold tw_i6; rw [tw_up_k (by omega), tw_i5_0]
                          have el1 : (tw_i6 sA (st 13 1) mo a (st 9 a) d (T bi)) 1 (st 13 1) = a := by unfold tw_i6; rw [tw_up_k (by omega), tw_i5_1]
                          have el5 : (tw_i6 sA (st 13 1) mo a (st 9 a) d (T bi)) 5 sb = st 5 sb := by unfold tw_i6; rw [tw_up_k (by omega), tw_i5_o (by omega) (by omega), oA 5 sb (by omega)]
                          refine lv_aload_n S.1 S.2.1 dX1_insert_234 rfl (lv_at hl 4 rfl) ?_
                          refine lv_iload S.1 S.2.1 dX1_insert_235 (lv_at hl 0 rfl) ?_
                          refine lv_iload S.1 S.2.1 dX1_insert_237 (lv_at hl 3 rfl) ?_
                          refine tw_cyi (n := 2) S w hA (kX1_isBefore l D cI cZ x ad (tw_i6 sA (st 13 1) mo a (st 9 a) d (T bi)) _ (i := sb) (k := st 13 1) hsb hL (by rw [ei1]; exact hs5) (by rw [el1]; exact ha) (by rw [ei0]; exact hnum _) (by rw [el0]; exact hmo9)) (tw_gV wl_X1_79 wn_X1_isBefore ws_X1_isBefore wi_X1 wy_X1_isBefore) rfl rfl (by decide +kernel) ⟨Nat.le_of_ble_eq_true rfl, Nat.le_of_ble_eq_true rfl⟩ rfl hl.1 rfl (Nat.le_of_ble_eq_true rfl) dX1_insert_239 ⟨Nat.le_of_ble_eq_true rfl, Nat.le_of_ble_eq_true rfl⟩ (fun r u H locs hp w => ?_)
                          obtain ⟨hp, hu⟩ := hp
                          rw [hu] at w
                          have en1 : tw_n (tw_i6 sA (st 13 1) mo a (st 9 a) d (T bi)) (st 13 1) = 4 * (mo + 1) + a := by unfold tw_n; rw [el0, el1]
                          have en2 : tw_n (tw_i6 sA (st 13 1) mo a (st 9 a) d (T bi)) sb = tw_n st sb := by unfold tw_n; rw [ei0, ei1]
                          rw [en1, en2] at hp
                          refine lv_if_eq (tgt := 261) S.1 S.2.1 dX1_insert_242 (by decide) (fun h242 => ?_) (fun h242 => ?_)
                          · have hnb : ¬ 4 * (mo + 1) + a < tw_n st sb := hp.elim (fun g => absurd (g.1.symm.trans h242) (by decide)) (fun g => g.2)
                            exact fin bi q sb last H locs ls hbh hsw hgt (fun _ => hnb) hla w (lv_sub hl [0, 1, 2, 3, 4, 5, 6, 7] rfl)
                          · have hbf : 4 * (mo + 1) + a < tw_n st sb := hp.elim (fun g => g.2) (fun g => absurd g.1 h242)
                            refine lv_iload S.1 S.2.1 dX1_insert_245 (lv_at hl 0 rfl) ?_
                            refine lv_istore S.1 S.2.1 dX1_insert_247 hl (by decide) rfl (fun ls hl => ?_)
                            refine lv_aload_n S.1 S.2.1 dX1_insert_249 rfl (lv_at hl 4 rfl) ?_
                            refine yyg_sibling S w dX1_insert_250 ?_
                            refine lv_iload S.1 S.2.1 dX1_insert_253 (lv_at hl 1 rfl) ?_
                            refine yyl_5 S w hsb dX1_insert_255 ?_
                            refine tw_t (show _ = nI (st 5 sb) from by rw [el5]) ?_
                            refine lv_istore S.1 S.2.1 dX1_insert_256 hl (by decide) rfl (fun ls hl => ?_)
                            refine lv_goto (tgt := 229) S.1 S.2.1 dX1_insert_258 (by decide) ?_
                            exact ih q2 (st 5 sb) sb H locs ls (by have := e6.2.1; omega) e6 (fun j h1 h2 => by rcases Nat.lt_trichotomy j q with z | z | z; exact hgt j h1 z; rw [z, ← e1]; exact hbf; exact Nat.lt_trans (by rw [← e1]; exact hbf) (e7 j z h2)) (Or.inr ⟨q, hsw.1, e5, e1, e3, e7, e8⟩) w (lv_sub hl [0, 1, 2, 3, 4, 5, 6, 7] rfl)
                    have tail : ∀ (bi : Nat) (H : Heap) (locs : List Loc) (ls : Array Slot), tw_bhM (st 13 1) (F a) k bi → bi < st 13 1 → TWY D cI cZ x ad (tw_i5 sA (st 13 1) mo a (st 9 a) d) A s.heap H locs s → lv_has ls 9 [(5, .int (nI (st 13 1))), (4, .int (nI mo)), (0, .ref x), (1, .int (nI a)), (2, .int (nI k)), (3, .int (nI d))] → W p l e (headSpec wsX1_insert ({ frames := 3, cells := 0, slots := 0, locals := 80 })).room s m ([.ref x, .int (nI a), .int (nI k), .int (nI d)] : List Value).toArray below meth cd H locs 0 0 (MQ below (va_Qi (fun r u => ((tw_nc (nI a) ∨ ∃ a', a' < 4 ∧ nI a = nI a' ∧ (nI d < 0 ∨ nI 255 < nI d)) ∧ u = tw_up st 13 0 1) ∨ ∃ a' d', a' < 4 ∧ nI a = nI a' ∧ d' ≤ 255 ∧ nI d = nI d' ∧ (((nI k < 0 ∨ nI (tw_cn (F a') (st 13 1 - 1)) < nI k) ∧ tw_lkr st u a' T (F a') 1) ∨ ∃ k', k' ≤ tw_cn (F a') (st 13 1 - 1) ∧ nI k = nI k' ∧ ((st 9 a' = 400 ∧ tw_lkr st u a' T (F a') 2) ∨ (st 9 a' ≠ 400 ∧ r = nI (st 9 a') ∧ tw_insM st u a' k' d' T (F a'))))) (tw_YT D cI cZ x ad A) A) ([.ref x, .int (nI a), .int (nI k), .int (nI d)] : List Value).toArray s 0 0 A) (F0 m 206 ls [.int (nI (T bi))]) := by
                      intro bi H locs ls hbh hbL w hl
                      have hTb := hli.2.2.1 bi hbL
                      refine lv_istore S.1 S.2.1 dX1_insert_206 hl (by decide) rfl (fun ls hl => ?_)
                      refine lv_aload_n S.1 S.2.1 dX1_insert_208 rfl (lv_at hl 3 rfl) ?_
                      refine yyg_up S w dX1_insert_209 ?_
                      refine lv_iload S.1 S.2.1 dX1_insert_212 (lv_at hl 1 rfl) ?_
                      refine lv_iload S.1 S.2.1 dX1_insert_214 (lv_at hl 0 rfl) ?_
                      refine yys_6 S w (by omega)  dX1_insert_216 (fun H locs w => ?_)
                      refine lv_iconst (v := nI 0) S.1 S.2.1 dX1_insert_217 (by decide) ?_
                      refine lv_istore S.1 S.2.1 dX1_insert_218 hl (by decide) rfl (fun ls hl => ?_)
                      refine lv_aload_n S.1 S.2.1 dX1_insert_220 rfl (lv_at hl 4 rfl) ?_
                      refine yyg_first S w dX1_insert_221 ?_
                      refine lv_iload S.1 S.2.1 dX1_insert_224 (lv_at hl 1 rfl) ?_
                      refine yyl_4 S w (by omega) dX1_insert_226 ?_
                      refine tw_t (show _ = nI (st 4 (T bi)) from by rw [tw_up_k (by omega), tw_i5_o (by omega) (by omega), oA 4 _ (by omega)]) ?_
                      refine lv_istore S.1 S.2.1 dX1_insert_227 hl (by decide) rfl (fun ls hl => ?_)
                      exact sibs bi hbh (st 13 1 + 1) (bi + 1) (st 4 (T bi)) 0 H locs ls (by omega) (tw_swf htr hbL) (fun j h1 h2 => by omega) (Or.inl ⟨rfl, rfl⟩) w (lv_sub hl [0, 1, 2, 3, 5, 6, 7, 8] rfl)
                    refine lv_aload_n S.1 S.2.1 dX1_insert_134 rfl (lv_at hl 2 rfl) ?_
                    refine yyg_letters S w dX1_insert_135 ?_
                    refine tw_t (show _ = nI (st 13 1) from by rw [e131]) ?_
                    refine lv_istore S.1 S.2.1 dX1_insert_138 hl (by decide) rfl (fun ls hl => ?_)
                    refine lv_aload_n S.1 S.2.1 dX1_insert_140 rfl (lv_at hl 2 rfl) ?_
                    refine lv_dup S.1 S.2.1 dX1_insert_141 rfl ?_
                    refine yyg_letters S w dX1_insert_142 ?_
                    refine tw_t (show _ = nI (st 13 1) from by rw [e131]) ?_
                    refine lv_iconst (v := nI 1) S.1 S.2.1 dX1_insert_145 (by decide) ?_
                    refine lv_iadd S.1 S.2.1 dX1_insert_146 ?_
                    refine tw_t (nI_add _ _) ?_
                    refine yyp_letters S w dX1_insert_147 (fun H locs w => ?_)
                    refine lv_aload_n S.1 S.2.1 dX1_insert_150 rfl (lv_at hl 2 rfl) ?_
                    refine yyg_number S w dX1_insert_151 ?_
                    refine lv_iload S.1 S.2.1 dX1_insert_154 (lv_at hl 0 rfl) ?_
                    refine lv_iload S.1 S.2.1 dX1_insert_156 (lv_at hl 1 rfl) ?_
                    refine lv_iconst (v := nI 1) S.1 S.2.1 dX1_insert_158 (by decide) ?_
                    refine lv_iadd S.1 S.2.1 dX1_insert_159 ?_
                    refine tw_t (nI_add _ _) ?_
                    refine yys_0 S w (by omega)  dX1_insert_160 (fun H locs w => ?_)
                    refine lv_aload_n S.1 S.2.1 dX1_insert_161 rfl (lv_at hl 2 rfl) ?_
                    refine yyg_maker S w dX1_insert_162 ?_
                    refine lv_iload S.1 S.2.1 dX1_insert_165 (lv_at hl 0 rfl) ?_
                    refine lv_iload_n S.1 S.2.1 dX1_insert_167 rfl (lv_at hl 3 rfl) ?_
                    refine yys_1 S w (by omega)  dX1_insert_168 (fun H locs w => ?_)
                    refine lv_aload_n S.1 S.2.1 dX1_insert_169 rfl (lv_at hl 2 rfl) ?_
                    refine yyg_change S w dX1_insert_170 ?_
                    refine lv_iload S.1 S.2.1 dX1_insert_173 (lv_at hl 0 rfl) ?_
                    refine lv_aload_n S.1 S.2.1 dX1_insert_175 rfl (lv_at hl 2 rfl) ?_
                    refine yyg_made S w dX1_insert_176 ?_
                    refine lv_iload_n S.1 S.2.1 dX1_insert_179 rfl (lv_at hl 3 rfl) ?_
                    refine yyl_9 S w (by omega) dX1_insert_180 ?_
                    refine tw_t (show _ = nI (st 9 a) from by rw [tw_up_k (by omega), tw_up_k (by omega), tw_up_k (by omega), oA 9 a (by omega)]) ?_
                    refine yys_2 S w (by omega)  dX1_insert_181 (fun H locs w => ?_)
                    refine lv_aload_n S.1 S.2.1 dX1_insert_182 rfl (lv_at hl 2 rfl) ?_
                    refine yyg_value S w dX1_insert_183 ?_
                    refine lv_iload S.1 S.2.1 dX1_insert_186 (lv_at hl 0 rfl) ?_
                    refine lv_iload_n S.1 S.2.1 dX1_insert_188 rfl (lv_at hl 5 rfl) ?_
                    refine yys_3 S w (by omega)  dX1_insert_189 (fun H locs w => ?_)
                    have w : TWY D cI cZ x ad (tw_i5 sA (st 13 1) mo a (st 9 a) d) A s.heap H locs s := w
                    have hcl := tw_cn_le (F a) (st 13 1 - 1)
                    refine lv_iload_n S.1 S.2.1 dX1_insert_190 rfl (lv_at hl 4 rfl) ?_
                    refine lv_if_ne (tgt := 198) S.1 S.2.1 dX1_insert_191 (by decide) (fun h191 => ?_) (fun h191 => ?_)
                    · have hk0 : k ≠ 0 := fun g => h191 (by rw [g]; decide)
                      obtain ⟨p, p1, p2, p3⟩ := tw_cn_at (show k - 1 < tw_cn (F a) (st 13 1 - 1) by omega)
                      refine lv_aload_n S.1 S.2.1 dX1_insert_198 rfl (lv_at hl 2 rfl) ?_
                      refine yyg_order S w dX1_insert_199 ?_
                      refine lv_iload_n S.1 S.2.1 dX1_insert_202 rfl (lv_at hl 4 rfl) ?_
                      refine lv_iconst (v := nI 1) S.1 S.2.1 dX1_insert_203 (by decide) ?_
                      refine lv_isub S.1 S.2.1 dX1_insert_204 ?_
                      refine tw_t (pk_sub (by omega)) ?_
                      refine yyl_11 S w (by omega) dX1_insert_205 ?_
                      refine tw_t (show _ = nI (T (p + 1)) from by rw [tw_i5_o (by omega) (by omega), ← p3, hR.2.2.2.1 p p1 p2]) ?_
                      exact tail (p + 1) H locs ls (Or.inr ⟨p, p1, p2, by omega, rfl⟩) (by omega) w (lv_sub hl [0, 1, 2, 3, 4, 5] rfl)
                    · have hk0 : k = 0 := (tw_eq (by omega) (by omega)).mp h191
                      refine lv_iconst (v := nI 0) S.1 S.2.1 dX1_insert_194 (by decide) ?_
                      refine lv_goto (tgt := 206) S.1 S.2.1 dX1_insert_195 (by decide) ?_
                      have hT0 : T 0 = 0 := hli.2.1
                      have tl := tail 0 H locs ls (Or.inl ⟨hk0, rfl⟩) (by omega) w (lv_sub hl [0, 1, 2, 3, 4, 5] rfl)
                      rw [hT0] at tl
                      exact tl
                  · have hj : j < st 13 1 := Nat.not_le.mp (fun g => h94 ((tw_le (by omega) (by omega)).mpr g))
                    have hj5 := hr5 j hj1 hj
                    refine lv_aload_n S.1 S.2.1 dX1_insert_97 rfl (lv_at hl 2 rfl) ?_
                    refine lv_iload_n S.1 S.2.1 dX1_insert_98 rfl (lv_at hl 3 rfl) ?_
                    refine lv_iload S.1 S.2.1 dX1_insert_99 (lv_at hl 0 rfl) ?_
                    refine tw_cyi (n := 2) S w hA (kX1_isIn l D cI cZ x ad sA _ (a := a) (k := j) ha (by omega) (by rw [oA 1 _ (by omega)]; exact hj5.1) (by rw [oA 2 _ (by omega)]; exact hj5.2) (by rw [oA 1 _ (by omega), oA 10 _ (by omega)]; have := hr6 _ hj5.1; omega)) (tw_gV wl_X1_63 wn_X1_isIn ws_X1_isIn wi_X1 wy_X1_isIn) rfl rfl (by decide +kernel) ⟨Nat.le_of_ble_eq_true rfl, Nat.le_of_ble_eq_true rfl⟩ rfl hl.1 rfl (Nat.le_of_ble_eq_true rfl) dX1_insert_101 ⟨Nat.le_of_ble_eq_true rfl, Nat.le_of_ble_eq_true rfl⟩ (fun r u H locs hp w => ?_)
                    obtain ⟨hp, hu⟩ := hp
                    rw [hu] at w
                    rw [oA 1 _ (by omega), oA 2 _ (by omega), oA 10 _ (by omega)] at hp
                    refine lv_if_eq (tgt := 128) S.1 S.2.1 dX1_insert_104 (by decide) (fun h104 => ?_) (fun h104 => ?_)
                    · have hni : ¬ tw_In st a j := hp.elim (fun g => absurd (g.1.symm.trans h104) (by decide)) (fun g => g.2)
                      refine lv_iinc S.1 S.2.1 dX1_insert_128 hl (k := 0) rfl (tw_inc _) (by decide) rfl (fun ls hl => ?_)
                      refine lv_goto (tgt := 88) S.1 S.2.1 dX1_insert_131 (by decide) ?_
                      exact ih (j + 1) mo H locs ls (by omega) (by omega) (by omega) (by omega) ⟨fun y h1 h2 h3 => by rcases Nat.lt_or_ge y j with z | z; exact hmo.1 y h1 z h3; rw [show y = j by omega] at h3; exact absurd h3 hni, hmo.2.elim Or.inl (fun ⟨y, y1, y2, y3⟩ => Or.inr ⟨y, y1, by omega, y3⟩)⟩ w (lv_sub hl [0, 1, 2, 3, 4, 5] rfl)
                    · have hin : tw_In st a j := hp.elim (fun g => g.2) (fun g => absurd g.1 h104)
                      refine lv_aload_n S.1 S.2.1 dX1_insert_107 rfl (lv_at hl 2 rfl) ?_
                      refine yyg_number S w dX1_insert_108 ?_
                      refine lv_iload S.1 S.2.1 dX1_insert_111 (lv_at hl 0 rfl) ?_
                      refine yyl_0 S w (by omega) dX1_insert_113 ?_
                      refine tw_t (show _ = nI (st 0 j) from by rw [oA 0 _ (by omega)]) ?_
                      refine lv_iload S.1 S.2.1 dX1_insert_114 (lv_at hl 1 rfl) ?_
                      refine lv_icmp_le (tgt := 128) S.1 S.2.1 dX1_insert_116 (by decide) (fun h116 => ?_) (fun h116 => ?_)
                      · have hle : st 0 j ≤ mo := (tw_le (hnum _) (by omega)).mp h116
                        refine lv_iinc S.1 S.2.1 dX1_insert_128 hl (k := 0) rfl (tw_inc _) (by decide) rfl (fun ls hl => ?_)
                        refine lv_goto (tgt := 88) S.1 S.2.1 dX1_insert_131 (by decide) ?_
                        exact ih (j + 1) mo H locs ls (by omega) (by omega) (by omega) (by omega) ⟨fun y h1 h2 h3 => by rcases Nat.lt_or_ge y j with z | z; exact hmo.1 y h1 z h3; rw [show y = j by omega]; exact hle, hmo.2.elim Or.inl (fun ⟨y, y1, y2, y3⟩ => Or.inr ⟨y, y1, by omega, y3⟩)⟩ w (lv_sub hl [0, 1, 2, 3, 4, 5] rfl)
                      · have hlt : mo < st 0 j := Nat.not_le.mp (fun g => h116 ((tw_le (hnum _) (by omega)).mpr g))
                        refine lv_aload_n S.1 S.2.1 dX1_insert_119 rfl (lv_at hl 2 rfl) ?_
                        refine yyg_number S w dX1_insert_120 ?_
                        refine lv_iload S.1 S.2.1 dX1_insert_123 (lv_at hl 0 rfl) ?_
                        refine yyl_0 S w (by omega) dX1_insert_125 ?_
                        refine tw_t (show _ = nI (st 0 j) from by rw [oA 0 _ (by omega)]) ?_
                        refine lv_istore S.1 S.2.1 dX1_insert_126 hl (by decide) rfl (fun ls hl => ?_)
                        refine lv_iinc S.1 S.2.1 dX1_insert_128 hl (k := 1) rfl (tw_inc _) (by decide) rfl (fun ls hl => ?_)
                        refine lv_goto (tgt := 88) S.1 S.2.1 dX1_insert_131 (by decide) ?_
                        exact ih (j + 1) (st 0 j) H locs ls (by omega) (by omega) (by omega) (hnum j) ⟨fun y h1 h2 h3 => by rcases Nat.lt_or_ge y j with z | z; exact Nat.le_trans (hmo.1 y h1 z h3) (Nat.le_of_lt hlt); rw [show y = j by omega]; exact Nat.le_refl _, Or.inr ⟨j, hj1, by omega, hin, rfl⟩⟩ w (lv_sub hl [0, 1, 2, 3, 4, 5] rfl)
              refine lv_iconst (v := nI 0) S.1 S.2.1 dX1_insert_82 (by decide) ?_
              refine lv_istore S.1 S.2.1 dX1_insert_83 hl (by decide) rfl (fun ls hl => ?_)
              refine lv_iconst (v := nI 1) S.1 S.2.1 dX1_insert_85 (by decide) ?_
              refine lv_istore S.1 S.2.1 dX1_insert_86 hl (by decide) rfl (fun ls hl => ?_)
              exact loop (st 13 1 + 1) 1 0 H locs ls (by omega) (by omega) (by omega) (by omega) ⟨fun y h1 h2 => by omega, Or.inl rfl⟩ w (lv_sub hl [0, 1, 2, 3, 4, 5] rfl)
            · have hmd : st 9 a = 400 := (tw_eq (by have := h9 a ha; omega) (by omega)).mp h72
              refine lv_aload_n S.1 S.2.1 dX1_insert_75 rfl (lv_at hl 0 rfl) ?_
              refine lv_iconst (v := nI 2) S.1 S.2.1 dX1_insert_76 (by decide) ?_
              refine yyp_thrown S w dX1_insert_77 (fun H locs w => ?_)
              refine lv_iconst (v := nI 0) S.1 S.2.1 dX1_insert_80 (by decide) ?_
              exact tw_iretY S hr hlk0 w (Or.inr ⟨a, d, ha, rfl, hd1, rfl, Or.inr ⟨k, hk1, rfl, Or.inl ⟨hmd, tw_lkr_c hR⟩⟩⟩) dX1_insert_81
          · refine lv_iconst (v := nI 1) S.1 S.2.1 dX1_insert_50 (by decide) ?_
            refine lv_goto (tgt := 55) S.1 S.2.1 dX1_insert_51 (by decide) ?_
            refine tw_cyi (n := 1) S w hA (kX1_bad l D cI cZ x ad _ _ (b := 1) (by omega)) (tw_gV wl_X1_71 wn_X1_bad ws_X1_bad wi_X1 wy_X1_bad) rfl rfl (by decide +kernel) ⟨Nat.le_of_ble_eq_true rfl, Nat.le_of_ble_eq_true rfl⟩ rfl hl.1 rfl (Nat.le_of_ble_eq_true rfl) dX1_insert_55 ⟨Nat.le_of_ble_eq_true rfl, Nat.le_of_ble_eq_true rfl⟩ (fun r u H locs hp w => ?_)
            obtain ⟨hr9, hu⟩ := hp
            subst hr9
            rw [hu] at w
            refine lv_if_eq (tgt := 63) S.1 S.2.1 dX1_insert_58 (by decide) (fun h58 => absurd h58 (by decide)) (fun h58 => ?_)
            refine lv_iconst (v := nI 0) S.1 S.2.1 dX1_insert_61 (by decide) ?_
            exact tw_iretY S hr hlk0 w (Or.inr ⟨a, d, ha, rfl, hd1, rfl, Or.inl ⟨Or.inr (Int32.not_le.mp h47), tw_lkr_of hq⟩⟩) dX1_insert_62
      · refine lv_iconst (v := nI 1) S.1 S.2.1 dX1_insert_19 (by decide) ?_
        refine lv_goto (tgt := 24) S.1 S.2.1 dX1_insert_20 (by decide) ?_
        refine tw_cyi (n := 1) S w hA (kX1_bad l D cI cZ x ad _ _ (b := 1) (by omega)) (tw_gV wl_X1_71 wn_X1_bad ws_X1_bad wi_X1 wy_X1_bad) rfl rfl (by decide +kernel) ⟨Nat.le_of_ble_eq_true rfl, Nat.le_of_ble_eq_true rfl⟩ rfl hl.1 rfl (Nat.le_of_ble_eq_true rfl) dX1_insert_24 ⟨Nat.le_of_ble_eq_true rfl, Nat.le_of_ble_eq_true rfl⟩ (fun r u H locs hp w => ?_)
        obtain ⟨hr9, hu⟩ := hp
        subst hr9
        rw [hu] at w
        refine lv_if_eq (tgt := 32) S.1 S.2.1 dX1_insert_27 (by decide) (fun h27 => absurd h27 (by decide)) (fun h27 => ?_)
        refine lv_iconst (v := nI 0) S.1 S.2.1 dX1_insert_30 (by decide) ?_
        exact tw_iretY S hr hlk0 w (Or.inl ⟨Or.inr ⟨a, ha, rfl, Or.inr (Int32.not_le.mp h16)⟩, rfl⟩) dX1_insert_31
