set_option maxHeartbeats 4000000 in
set_option maxRecDepth 100000 in
/-- bring(from, k, to) -/
theorem kX1_bring (l : Launch) (D : va_G) (cI cZ : ClassId) (x : Nat) (ad : Nat → Nat) (st : Nat → Nat → Nat) (sz : Nat) {v t b : Int32} (h9 : ∀ a, a < 4 → st 9 a ≤ 400) (hb8 : ∀ y, st 8 y < 2147483648) (hb10 : ∀ y, st 10 y < 2147483648) : Met l yX1_bring wsX1_bring ({ frames := 3, cells := 0, slots := 0, locals := 80 }) (va_Pc [.ref x, .int v, .int t, .int b] (fun U => U.heap.size = sz ∧ tw_YU D cI cZ x ad st U)) (va_Qv (fun u => ((tw_nc v ∨ tw_nc b ∨ v = b ∨ ∃ a, a < 4 ∧ v = nI a ∧ (t < 0 ∨ nI (st 9 a) ≤ t)) ∧ u = tw_up st 13 0 1) ∨ ∃ a c k, a < 4 ∧ v = nI a ∧ c < 4 ∧ b = nI c ∧ a ≠ c ∧ k < st 9 a ∧ t = nI k ∧ ((k < st 10 (4 * c + a) ∧ u = tw_up st 13 0 0) ∨ (¬ k < st 10 (4 * c + a) ∧ ((¬ (∀ m, m < 4 → st 8 ((400 * a + k) * 4 + m) ≤ st 10 (4 * c + m)) ∧ u = tw_up st 13 0 2) ∨ ((∀ m, m < 4 → st 8 ((400 * a + k) * 4 + m) ≤ st 10 (4 * c + m)) ∧ u = tw_up (tw_up (tw_up st 13 0 0) 10 (4 * c + a) (k + 1)) 13 2 0))))) (tw_YT D cI cZ x ad (va_A (tw_y cI cZ x ad st) sz)) (va_A (tw_y cI cZ x ad st) sz)) 0 0 (va_A (tw_y cI cZ x ad st) sz) := by
  refine Met.ofW (cc := cX1_bring) (maxL := 5) (ret := none) (by decide) rfl ?_
  intro p e s m args below meth cd s₁ B hml hv
  obtain ⟨rfl, hsz, hU⟩ := hv
  subst hsz
  have S : CallFix p m cd cX1_bring 5 s ([.ref x, .int v, .int t, .int b] : List Value).toArray tw_wall RX1 := ⟨B.exec, B.bytes, hml, findClass_of_methodNamed B.named, fun w h => atoms_spec (ws := wsX1_bring) B.pre w (List.mem_cons_of_mem _ h)⟩
  have hr := B.returns
  have hlk0 := B.notSynchronized
  have z : va_S (fun q => s.heap.size ≤ q) s.heap s.heap [] := va_S.rf
  have w := tw_Y0 hU
  have hA : ∀ q : Nat, s.heap.size ≤ q → va_A (tw_y cI cZ x ad st) s.heap.size q := fun q h => Or.inr h
  generalize va_A (tw_y cI cZ x ad st) s.heap.size = A at w hA ⊢
  have hl := lv_entry ([.ref x, .int v, .int t, .int b]) (n := 5) (Nat.le_of_ble_eq_true rfl)
  rw [lg_entry_eq]
  generalize (lg_sl ([.ref x, .int v, .int t, .int b]) ++ List.replicate (5 - (lg_sl ([.ref x, .int v, .int t, .int b])).length) Slot.unset).toArray = ls at hl ⊢
  have hl : lv_has ls 5 [(0, .ref x), (1, .int v), (2, .int t), (3, .int b)] := hl
  refine lv_aload_n S.1 S.2.1 dX1_bring_0 rfl (lv_at hl 0 rfl) ?_
  refine lv_iload_n S.1 S.2.1 dX1_bring_1 rfl (lv_at hl 1 rfl) ?_
  refine tw_cst (n := 1) S w.2.2.2 hA (kX1_isCopy l _ (v := v)) (tw_gS wl_X1_67 wt_X1_isCopy wi_X1 wy_X1_isCopy) rfl rfl (by decide +kernel) ⟨Nat.le_of_ble_eq_true rfl, Nat.le_of_ble_eq_true rfl⟩ rfl hl.1 rfl (Nat.le_of_ble_eq_true rfl) dX1_bring_2 ⟨Nat.le_of_ble_eq_true rfl, Nat.le_of_ble_eq_true rfl⟩ (fun r H locs hp hk z9 => ?_)
  have w := w.kept hk z9
  refine lv_if_eq (tgt := 34) S.1 S.2.1 dX1_bring_5 (by decide) (fun h5 => ?_) (fun h5 => ?_)
  · have hbad : tw_nc v := hp.elim (fun g => absurd (g.1.symm.trans h5) (by decide)) (fun g => g.2)
    refine lv_iconst (v := nI 1) S.1 S.2.1 dX1_bring_34 (by decide) ?_
    refine lv_goto (tgt := 39) S.1 S.2.1 dX1_bring_35 (by decide) ?_
    refine tw_cyi (n := 1) S w hA (kX1_bad l D cI cZ x ad _ _ (b := 1) (by omega)) (tw_gV wl_X1_71 wn_X1_bad ws_X1_bad wi_X1 wy_X1_bad) rfl rfl (by decide +kernel) ⟨Nat.le_of_ble_eq_true rfl, Nat.le_of_ble_eq_true rfl⟩ rfl hl.1 rfl (Nat.le_of_ble_eq_true rfl) dX1_bring_39 ⟨Nat.le_of_ble_eq_true rfl, Nat.le_of_ble_eq_true rfl⟩ (fun r u H locs hp w => ?_)
    obtain ⟨hr9, hu⟩ := hp
    subst hr9
    rw [hu] at w
    refine lv_if_eq (tgt := 46) S.1 S.2.1 dX1_bring_42 (by decide) (fun h42 => absurd h42 (by decide)) (fun h42 => ?_)
    exact tw_vretY S hr hlk0 w (Or.inl ⟨Or.inl hbad, rfl⟩) dX1_bring_45
  · obtain ⟨a, ha, rfl⟩ := hp.elim (fun g => g.2) (fun g => absurd g.1 h5)
    refine lv_iload_n S.1 S.2.1 dX1_bring_8 rfl (lv_at hl 3 rfl) ?_
    refine tw_cst (n := 1) S w.2.2.2 hA (kX1_isCopy l _ (v := b)) (tw_gS wl_X1_67 wt_X1_isCopy wi_X1 wy_X1_isCopy) rfl rfl (by decide +kernel) ⟨Nat.le_of_ble_eq_true rfl, Nat.le_of_ble_eq_true rfl⟩ rfl hl.1 rfl (Nat.le_of_ble_eq_true rfl) dX1_bring_9 ⟨Nat.le_of_ble_eq_true rfl, Nat.le_of_ble_eq_true rfl⟩ (fun r H locs hp hk z9 => ?_)
    have w := w.kept hk z9
    refine lv_if_eq (tgt := 34) S.1 S.2.1 dX1_bring_12 (by decide) (fun h12 => ?_) (fun h12 => ?_)
    · have hbad : tw_nc b := hp.elim (fun g => absurd (g.1.symm.trans h12) (by decide)) (fun g => g.2)
      refine lv_iconst (v := nI 1) S.1 S.2.1 dX1_bring_34 (by decide) ?_
      refine lv_goto (tgt := 39) S.1 S.2.1 dX1_bring_35 (by decide) ?_
      refine tw_cyi (n := 1) S w hA (kX1_bad l D cI cZ x ad _ _ (b := 1) (by omega)) (tw_gV wl_X1_71 wn_X1_bad ws_X1_bad wi_X1 wy_X1_bad) rfl rfl (by decide +kernel) ⟨Nat.le_of_ble_eq_true rfl, Nat.le_of_ble_eq_true rfl⟩ rfl hl.1 rfl (Nat.le_of_ble_eq_true rfl) dX1_bring_39 ⟨Nat.le_of_ble_eq_true rfl, Nat.le_of_ble_eq_true rfl⟩ (fun r u H locs hp w => ?_)
      obtain ⟨hr9, hu⟩ := hp
      subst hr9
      rw [hu] at w
      refine lv_if_eq (tgt := 46) S.1 S.2.1 dX1_bring_42 (by decide) (fun h42 => absurd h42 (by decide)) (fun h42 => ?_)
      exact tw_vretY S hr hlk0 w (Or.inl ⟨Or.inr (Or.inl hbad), rfl⟩) dX1_bring_45
    · obtain ⟨c, hc, rfl⟩ := hp.elim (fun g => g.2) (fun g => absurd g.1 h12)
      refine lv_iload_n S.1 S.2.1 dX1_bring_15 rfl (lv_at hl 1 rfl) ?_
      refine lv_iload_n S.1 S.2.1 dX1_bring_16 rfl (lv_at hl 3 rfl) ?_
      refine lv_icmp_eq (tgt := 34) S.1 S.2.1 dX1_bring_17 (by decide) (fun h17 => ?_) (fun h17 => ?_)
      · refine lv_iconst (v := nI 1) S.1 S.2.1 dX1_bring_34 (by decide) ?_
        refine lv_goto (tgt := 39) S.1 S.2.1 dX1_bring_35 (by decide) ?_
        refine tw_cyi (n := 1) S w hA (kX1_bad l D cI cZ x ad _ _ (b := 1) (by omega)) (tw_gV wl_X1_71 wn_X1_bad ws_X1_bad wi_X1 wy_X1_bad) rfl rfl (by decide +kernel) ⟨Nat.le_of_ble_eq_true rfl, Nat.le_of_ble_eq_true rfl⟩ rfl hl.1 rfl (Nat.le_of_ble_eq_true rfl) dX1_bring_39 ⟨Nat.le_of_ble_eq_true rfl, Nat.le_of_ble_eq_true rfl⟩ (fun r u H locs hp w => ?_)
        obtain ⟨hr9, hu⟩ := hp
        subst hr9
        rw [hu] at w
        refine lv_if_eq (tgt := 46) S.1 S.2.1 dX1_bring_42 (by decide) (fun h42 => absurd h42 (by decide)) (fun h42 => ?_)
        exact tw_vretY S hr hlk0 w (Or.inl ⟨Or.inr (Or.inr (Or.inl h17)), rfl⟩) dX1_bring_45
      · have hac : a ≠ c := fun g => h17 (by rw [g])
        refine lv_iload_n S.1 S.2.1 dX1_bring_20 rfl (lv_at hl 2 rfl) ?_
        refine lv_if_lt (tgt := 34) S.1 S.2.1 dX1_bring_21 (by decide) (fun h21 => ?_) (fun h21 => ?_)
        · refine lv_iconst (v := nI 1) S.1 S.2.1 dX1_bring_34 (by decide) ?_
          refine lv_goto (tgt := 39) S.1 S.2.1 dX1_bring_35 (by decide) ?_
          refine tw_cyi (n := 1) S w hA (kX1_bad l D cI cZ x ad _ _ (b := 1) (by omega)) (tw_gV wl_X1_71 wn_X1_bad ws_X1_bad wi_X1 wy_X1_bad) rfl rfl (by decide +kernel) ⟨Nat.le_of_ble_eq_true rfl, Nat.le_of_ble_eq_true rfl⟩ rfl hl.1 rfl (Nat.le_of_ble_eq_true rfl) dX1_bring_39 ⟨Nat.le_of_ble_eq_true rfl, Nat.le_of_ble_eq_true rfl⟩ (fun r u H locs hp w => ?_)
          obtain ⟨hr9, hu⟩ := hp
          subst hr9
          rw [hu] at w
          refine lv_if_eq (tgt := 46) S.1 S.2.1 dX1_bring_42 (by decide) (fun h42 => absurd h42 (by decide)) (fun h42 => ?_)
          exact tw_vretY S hr hlk0 w (Or.inl ⟨Or.inr (Or.inr (Or.inr ⟨a, ha, rfl, Or.inl h21⟩)), rfl⟩) dX1_bring_45
        · refine lv_iload_n S.1 S.2.1 dX1_bring_24 rfl (lv_at hl 2 rfl) ?_
          refine lv_aload_n S.1 S.2.1 dX1_bring_25 rfl (lv_at hl 0 rfl) ?_
          refine yyg_made S w dX1_bring_26 ?_
          refine lv_iload_n S.1 S.2.1 dX1_bring_29 rfl (lv_at hl 1 rfl) ?_
          refine yyl_9 S w (by omega) dX1_bring_30 ?_
          refine lv_icmp_lt (tgt := 38) S.1 S.2.1 dX1_bring_31 (by decide) (fun h31 => ?_) (fun h31 => ?_)
          · obtain ⟨k, hk1, hk2⟩ : ∃ k, k < st 9 a ∧ t = nI k := by
              obtain ⟨k, k1, rfl⟩ := nI_of h21
              exact ⟨k, (tw_lt k1 (by have := h9 a ha; omega)).mp h31, rfl⟩
            subst hk2
            have h400 := h9 a ha
            refine lv_iconst (v := nI 0) S.1 S.2.1 dX1_bring_38 (by decide) ?_
            refine tw_cyi (n := 1) S w hA (kX1_bad l D cI cZ x ad _ _ (b := 0) (by omega)) (tw_gV wl_X1_71 wn_X1_bad ws_X1_bad wi_X1 wy_X1_bad) rfl rfl (by decide +kernel) ⟨Nat.le_of_ble_eq_true rfl, Nat.le_of_ble_eq_true rfl⟩ rfl hl.1 rfl (Nat.le_of_ble_eq_true rfl) dX1_bring_39 ⟨Nat.le_of_ble_eq_true rfl, Nat.le_of_ble_eq_true rfl⟩ (fun r u H locs hp w => ?_)
            obtain ⟨hr9, hu⟩ := hp
            subst hr9
            rw [hu] at w
            refine lv_if_eq (tgt := 46) S.1 S.2.1 dX1_bring_42 (by decide) (fun h42 => ?_) (fun h42 => absurd (by decide) h42)
            refine lv_iload_n S.1 S.2.1 dX1_bring_46 rfl (lv_at hl 2 rfl) ?_
            refine lv_aload_n S.1 S.2.1 dX1_bring_47 rfl (lv_at hl 0 rfl) ?_
            refine yyg_has S w dX1_bring_48 ?_
            refine lv_iconst (v := nI 4) S.1 S.2.1 dX1_bring_51 (by decide) ?_
            refine lv_iload_n S.1 S.2.1 dX1_bring_52 rfl (lv_at hl 3 rfl) ?_
            refine lv_imul S.1 S.2.1 dX1_bring_53 ?_
            refine tw_t (pk_mul _ _) ?_
            refine lv_iload_n S.1 S.2.1 dX1_bring_54 rfl (lv_at hl 1 rfl) ?_
            refine lv_iadd S.1 S.2.1 dX1_bring_55 ?_
            refine tw_t (nI_add _ _) ?_
            refine yyl_10 S w (by omega) dX1_bring_56 ?_
            refine lv_icmp_ge (tgt := 61) S.1 S.2.1 dX1_bring_57 (by decide) (fun h57 => ?_) (fun h57 => ?_)
            · have hkc : ¬ k < st 10 (4 * c + a) := fun g => by
                have := (tw_le (hb10 _) (by omega)).mp h57
                have e : tw_up st 13 0 0 10 (4 * c + a) = st 10 (4 * c + a) := tw_up_k (by omega)
                omega
              have loop : ∀ (n : Nat) (j cd0 : Nat) (H : Heap) (locs : List Loc) (ls : Array Slot), 4 - j < n → j ≤ 4 → ((cd0 = 0 ∧ ∀ m, m < j → st 8 ((400 * a + k) * 4 + m) ≤ st 10 (4 * c + m)) ∨ (cd0 = 2 ∧ ∃ m, m < j ∧ m < 4 ∧ ¬ st 8 ((400 * a + k) * 4 + m) ≤ st 10 (4 * c + m))) → TWY D cI cZ x ad (tw_up st 13 0 cd0) A s.heap H locs s → lv_has ls 5 [(4, .int (nI j)), (0, .ref x), (1, .int (nI a)), (2, .int (nI k)), (3, .int (nI c))] → W p l e (headSpec wsX1_bring ({ frames := 3, cells := 0, slots := 0, locals := 80 })).room s m ([.ref x, .int (nI a), .int (nI k), .int (nI c)] : List Value).toArray below meth cd H locs 0 0 (MQ below (va_Qv (fun u => ((tw_nc (nI a) ∨ tw_nc (nI c) ∨ nI a = nI c ∨ ∃ a', a' < 4 ∧ nI a = nI a' ∧ (nI k < 0 ∨ nI (st 9 a') ≤ nI k)) ∧ u = tw_up st 13 0 1) ∨ ∃ a' c' k', a' < 4 ∧ nI a = nI a' ∧ c' < 4 ∧ nI c = nI c' ∧ a' ≠ c' ∧ k' < st 9 a' ∧ nI k = nI k' ∧ ((k' < st 10 (4 * c' + a') ∧ u = tw_up st 13 0 0) ∨ (¬ k' < st 10 (4 * c' + a') ∧ ((¬ (∀ m, m < 4 → st 8 ((400 * a' + k') * 4 + m) ≤ st 10 (4 * c' + m)) ∧ u = tw_up st 13 0 2) ∨ ((∀ m, m < 4 → st 8 ((400 * a' + k') * 4 + m) ≤ st 10 (4 * c' + m)) ∧ u = tw_up (tw_up (tw_up st 13 0 0) 10 (4 * c' + a') (k' + 1)) 13 2 0))))) (tw_YT D cI cZ x ad A) A) ([.ref x, .int (nI a), .int (nI k), .int (nI c)] : List Value).toArray s 0 0 A) (F0 m 64 ls []) := by
                intro n
                induction n with
                | zero => intros; omega
                | succ n ih =>
                  intro j cd0 H locs ls hm hj hcd w hl
                  refine lv_iload S.1 S.2.1 dX1_bring_64 (lv_at hl 0 rfl) ?_
                  refine lv_iconst (v := nI 4) S.1 S.2.1 dX1_bring_66 (by decide) ?_
                  refine lv_icmp_ge (tgt := 112) S.1 S.2.1 dX1_bring_67 (by decide) (fun h67 => ?_) (fun h67 => ?_)
                  · have hj4 : j = 4 := by have := (tw_le (by omega) (by omega)).mp h67; omega
                    subst hj4
                    refine lv_aload_n S.1 S.2.1 dX1_bring_112 rfl (lv_at hl 1 rfl) ?_
                    refine yyg_thrown S w dX1_bring_113 ?_
                    refine tw_t (show _ = nI cd0 from by rw [tw_up_e]) ?_
                    refine lv_if_eq (tgt := 120) S.1 S.2.1 dX1_bring_116 (by decide) (fun h116 => ?_) (fun h116 => ?_)
                    · have hc0 : cd0 = 0 := (tw_eq (by omega) (by omega)).mp h116
                      have hall := hcd.elim (fun g => g.2) (fun g => absurd g.1 (by omega))
                      subst hc0
                      refine lv_aload_n S.1 S.2.1 dX1_bring_120 rfl (lv_at hl 1 rfl) ?_
                      refine yyg_has S w dX1_bring_121 ?_
                      refine lv_iconst (v := nI 4) S.1 S.2.1 dX1_bring_124 (by decide) ?_
                      refine lv_iload_n S.1 S.2.1 dX1_bring_125 rfl (lv_at hl 4 rfl) ?_
                      refine lv_imul S.1 S.2.1 dX1_bring_126 ?_
                      refine tw_t (pk_mul _ _) ?_
                      refine lv_iload_n S.1 S.2.1 dX1_bring_127 rfl (lv_at hl 2 rfl) ?_
                      refine lv_iadd S.1 S.2.1 dX1_bring_128 ?_
                      refine tw_t (nI_add _ _) ?_
                      refine lv_iload_n S.1 S.2.1 dX1_bring_129 rfl (lv_at hl 3 rfl) ?_
                      refine lv_iconst (v := nI 1) S.1 S.2.1 dX1_bring_130 (by decide) ?_
                      refine lv_iadd S.1 S.2.1 dX1_bring_131 ?_
                      refine tw_t (nI_add _ _) ?_
                      refine yys_10 S w (by omega)  dX1_bring_132 (fun H locs w => ?_)
                      refine lv_aload_n S.1 S.2.1 dX1_bring_133 rfl (lv_at hl 1 rfl) ?_
                      refine lv_iconst (v := nI 0 - 1) S.1 S.2.1 dX1_bring_134 (by decide) ?_
                      refine yyp_orderOf S w dX1_bring_135 (fun H locs w => ?_)
                      exact tw_vretY S hr hlk0 w (Or.inr ⟨a, c, k, ha, rfl, hc, rfl, hac, hk1, rfl, Or.inr ⟨hkc, Or.inr ⟨hall, rfl⟩⟩⟩) dX1_bring_138
                    · have hc0 : cd0 ≠ 0 := fun g => h116 (by rw [g]; decide)
                      have hex := hcd.elim (fun g => absurd g.1 hc0) id
                      rw [hex.1] at w
                      exact tw_vretY S hr hlk0 w (Or.inr ⟨a, c, k, ha, rfl, hc, rfl, hac, hk1, rfl, Or.inr ⟨hkc, Or.inl ⟨fun g => by obtain ⟨m, m1, m2, m3⟩ := hex.2; exact m3 (g m m2), rfl⟩⟩⟩) dX1_bring_119
                  · have hj4 : j < 4 := Nat.not_le.mp (fun g => h67 ((tw_le (by omega) (by omega)).mpr g))
                    refine lv_aload_n S.1 S.2.1 dX1_bring_70 rfl (lv_at hl 1 rfl) ?_
                    refine yyg_had S w dX1_bring_71 ?_
                    refine lv_sipush (v := nI 400) S.1 S.2.1 dX1_bring_74 (by decide) ?_
                    refine lv_iload_n S.1 S.2.1 dX1_bring_77 rfl (lv_at hl 2 rfl) ?_
                    refine lv_imul S.1 S.2.1 dX1_bring_78 ?_
                    refine tw_t (pk_mul _ _) ?_
                    refine lv_iload_n S.1 S.2.1 dX1_bring_79 rfl (lv_at hl 3 rfl) ?_
                    refine lv_iadd S.1 S.2.1 dX1_bring_80 ?_
                    refine tw_t (nI_add _ _) ?_
                    refine lv_iconst (v := nI 4) S.1 S.2.1 dX1_bring_81 (by decide) ?_
                    refine lv_imul S.1 S.2.1 dX1_bring_82 ?_
                    refine tw_t (pk_mul _ _) ?_
                    refine lv_iload S.1 S.2.1 dX1_bring_83 (lv_at hl 0 rfl) ?_
                    refine lv_iadd S.1 S.2.1 dX1_bring_85 ?_
                    refine tw_t (nI_add _ _) ?_
                    refine yyl_8 S w (by omega) dX1_bring_86 ?_
                    refine tw_t (show _ = nI (st 8 ((400 * a + k) * 4 + j)) from by rw [tw_up_k (by omega)]) ?_
                    refine lv_aload_n S.1 S.2.1 dX1_bring_87 rfl (lv_at hl 1 rfl) ?_
                    refine yyg_has S w dX1_bring_88 ?_
                    refine lv_iconst (v := nI 4) S.1 S.2.1 dX1_bring_91 (by decide) ?_
                    refine lv_iload_n S.1 S.2.1 dX1_bring_92 rfl (lv_at hl 4 rfl) ?_
                    refine lv_imul S.1 S.2.1 dX1_bring_93 ?_
                    refine tw_t (pk_mul _ _) ?_
                    refine lv_iload S.1 S.2.1 dX1_bring_94 (lv_at hl 0 rfl) ?_
                    refine lv_iadd S.1 S.2.1 dX1_bring_96 ?_
                    refine tw_t (nI_add _ _) ?_
                    refine yyl_10 S w (by omega) dX1_bring_97 ?_
                    refine tw_t (show _ = nI (st 10 (4 * c + j)) from by rw [tw_up_k (by omega)]) ?_
                    refine lv_icmp_le (tgt := 106) S.1 S.2.1 dX1_bring_98 (by decide) (fun h98 => ?_) (fun h98 => ?_)
                    · have hle : st 8 ((400 * a + k) * 4 + j) ≤ st 10 (4 * c + j) := (tw_le (hb8 _) (hb10 _)).mp h98
                      refine lv_iinc S.1 S.2.1 dX1_bring_106 hl (k := 0) rfl (tw_inc _) (by decide) rfl (fun ls hl => ?_)
                      refine lv_goto (tgt := 64) S.1 S.2.1 dX1_bring_109 (by decide) ?_
                      exact ih (j + 1) cd0 H locs ls (by omega) (by omega) (hcd.elim (fun g => Or.inl ⟨g.1, fun m hm => by rcases Nat.lt_or_ge m j with z | z; exact g.2 m z; rw [show m = j by omega]; exact hle⟩) (fun g => Or.inr ⟨g.1, by obtain ⟨m, m1, m2⟩ := g.2; exact ⟨m, by omega, m2⟩⟩)) w (lv_sub hl [0, 1, 2, 3, 4] rfl)
                    · have hle : ¬ st 8 ((400 * a + k) * 4 + j) ≤ st 10 (4 * c + j) := fun g => h98 ((tw_le (hb8 _) (hb10 _)).mpr g)
                      refine lv_aload_n S.1 S.2.1 dX1_bring_101 rfl (lv_at hl 1 rfl) ?_
                      refine lv_iconst (v := nI 2) S.1 S.2.1 dX1_bring_102 (by decide) ?_
                      refine yyp_thrown S w dX1_bring_103 (fun H locs w => ?_)
                      rw [tw_up_up] at w
                      refine lv_iinc S.1 S.2.1 dX1_bring_106 hl (k := 0) rfl (tw_inc _) (by decide) rfl (fun ls hl => ?_)
                      refine lv_goto (tgt := 64) S.1 S.2.1 dX1_bring_109 (by decide) ?_
                      exact ih (j + 1) 2 H locs ls (by omega) (by omega) (Or.inr ⟨rfl, j, by omega, hj4, hle⟩) w (lv_sub hl [0, 1, 2, 3, 4] rfl)
              refine lv_iconst (v := nI 0) S.1 S.2.1 dX1_bring_61 (by decide) ?_
              refine lv_istore S.1 S.2.1 dX1_bring_62 hl (by decide) rfl (fun ls hl => ?_)
              exact loop 5 0 0 H locs ls (by omega) (by omega) (Or.inl ⟨rfl, fun m hm => by omega⟩) w (lv_sub hl [0, 1, 2, 3, 4] rfl)
            · have hkc : k < st 10 (4 * c + a) := Nat.not_le.mp (fun g => h57 ((tw_le (hb10 _) (by omega)).mpr g))
              exact tw_vretY S hr hlk0 w (Or.inr ⟨a, c, k, ha, rfl, hc, rfl, hac, hk1, rfl, Or.inl ⟨hkc, rfl⟩⟩) dX1_bring_60
          · refine lv_iconst (v := nI 1) S.1 S.2.1 dX1_bring_34 (by decide) ?_
            refine lv_goto (tgt := 39) S.1 S.2.1 dX1_bring_35 (by decide) ?_
            refine tw_cyi (n := 1) S w hA (kX1_bad l D cI cZ x ad _ _ (b := 1) (by omega)) (tw_gV wl_X1_71 wn_X1_bad ws_X1_bad wi_X1 wy_X1_bad) rfl rfl (by decide +kernel) ⟨Nat.le_of_ble_eq_true rfl, Nat.le_of_ble_eq_true rfl⟩ rfl hl.1 rfl (Nat.le_of_ble_eq_true rfl) dX1_bring_39 ⟨Nat.le_of_ble_eq_true rfl, Nat.le_of_ble_eq_true rfl⟩ (fun r u H locs hp w => ?_)
            obtain ⟨hr9, hu⟩ := hp
            subst hr9
            rw [hu] at w
            refine lv_if_eq (tgt := 46) S.1 S.2.1 dX1_bring_42 (by decide) (fun h42 => absurd h42 (by decide)) (fun h42 => ?_)
            exact tw_vretY S hr hlk0 w (Or.inl ⟨Or.inr (Or.inr (Or.inr ⟨a, ha, rfl, Or.inr (Int32.not_lt.mp h31)⟩)), rfl⟩) dX1_bring_45
theorem tw_gt0 {p q : Nat} (hp : p < 1000000) (hq : q < 1000000) : 0 < nI p - nI q ↔ q < p := by
  have h1 := pk_sub_toInt (a := p) (b := q) (by omega) (by omega)
  have h0 : (0 : Int32).toInt = 0 := by decide
  constructor
  · intro h
    have := Int32.lt_iff_toInt_lt.mp h
    omega
  · intro h
    exact Int32.lt_iff_toInt_lt.mpr (by omega)
/-- row b of 'has' up to m is the greater of the two; n is what is new -/
def tw_mm (st sm : Nat → Nat → Nat) (a b m n : Nat) : Prop :=
  (∀ j, j < 4 → sm 10 (4 * b + j) = if j < m then max (st 10 (4 * b + j)) (st 10 (4 * a + j)) else st 10 (4 * b + j)) ∧ (∀ y, (∀ j, j < 4 → y ≠ 4 * b + j) → sm 10 y = st 10 y) ∧ (∀ k y, k ≠ 10 → sm k y = tw_up st 13 0 0 k y) ∧
  n + st 10 (4 * b + 0) + st 10 (4 * b + 1) + st 10 (4 * b + 2) + st 10 (4 * b + 3) = sm 10 (4 * b + 0) + sm 10 (4 * b + 1) + sm 10 (4 * b + 2) + sm 10 (4 * b + 3)
theorem tw_mm_a {st sm : Nat → Nat → Nat} {a b m n : Nat} (h : tw_mm st sm a b m n) (hm : m < 4) (ha : a < 4) (hb : b < 4) : sm 10 (4 * a + m) = st 10 (4 * a + m) := by
  by_cases e : a = b
  · rw [e, h.1 m hm, if_neg (by omega)]
  · exact h.2.1 _ (fun j hj => by omega)
theorem tw_mm_no {st sm : Nat → Nat → Nat} {a b m n : Nat} (h : tw_mm st sm a b m n) (hm : m < 4) (hle : st 10 (4 * a + m) ≤ st 10 (4 * b + m)) : tw_mm st sm a b (m + 1) n := by
  obtain ⟨h1, h2, h3, h4⟩ := h
  refine ⟨fun j hj => ?_, h2, h3, h4⟩
  rw [h1 j hj]
  by_cases e : j = m
  · rw [e, if_neg (by omega), if_pos (by omega)]; omega
  · by_cases g : j < m
    · rw [if_pos g, if_pos (by omega)]
    · rw [if_neg g, if_neg (by omega)]
theorem tw_mm_yes {st sm : Nat → Nat → Nat} {a b m n : Nat} (h : tw_mm st sm a b m n) (hm : m < 4) (hlt : st 10 (4 * b + m) < st 10 (4 * a + m)) : tw_mm st (tw_up sm 10 (4 * b + m) (st 10 (4 * b + m) + (st 10 (4 * a + m) - st 10 (4 * b + m)))) a b (m + 1) (n + (st 10 (4 * a + m) - st 10 (4 * b + m))) := by
  obtain ⟨h1, h2, h3, h4⟩ := h
  have r : ∀ j, j < 4 → tw_up sm 10 (4 * b + m) (st 10 (4 * b + m) + (st 10 (4 * a + m) - st 10 (4 * b + m))) 10 (4 * b + j) = if j < m + 1 then max (st 10 (4 * b + j)) (st 10 (4 * a + j)) else st 10 (4 * b + j) := by
    intro j hj
    by_cases e : j = m
    · rw [e, tw_up_e, if_pos (by omega)]; omega
    · rw [tw_up_i (by omega), h1 j hj]
      by_cases g : j < m
      · rw [if_pos g, if_pos (by omega)]
      · rw [if_neg g, if_neg (by omega)]
  refine ⟨r, fun y hy => by rw [tw_up_i (hy m hm)]; exact h2 y hy, fun k y hk => by rw [tw_up_k hk]; exact h3 k y hk, ?_⟩
  have q : ∀ j, j < 4 → tw_up sm 10 (4 * b + m) (st 10 (4 * b + m) + (st 10 (4 * a + m) - st 10 (4 * b + m))) 10 (4 * b + j) = if j = m then st 10 (4 * a + m) else sm 10 (4 * b + j) := by
    intro j hj
    by_cases e : j = m
    · rw [e, tw_up_e, if_pos rfl]; omega
    · rw [tw_up_i (by omega), if_neg e]
  have hmm := h1 m hm
  rw [if_neg (by omega)] at hmm
  rw [q 0 (by omega), q 1 (by omega), q 2 (by omega), q 3 (by omega)]
  rcases (show m = 0 ∨ m = 1 ∨ m = 2 ∨ m = 3 by omega) with rfl | rfl | rfl | rfl <;> simp at hmm h4 hlt ⊢ <;> omega
set_option maxHeartbeats 4000000 in
set_option maxRecDepth 100000 in
/-- merge(from, to) -/
theorem kX1_merge (l : Launch) (D : va_G) (cI cZ : ClassId) (x : Nat) (ad : Nat → Nat) (st : Nat → Nat → Nat) (sz : Nat) {v t : Int32} (hb10 : ∀ a m, a < 4 → m < 4 → st 10 (4 * a + m) ≤ 400) : Met l yX1_merge wsX1_merge ({ frames := 3, cells := 0, slots := 0, locals := 80 }) (va_Pc [.ref x, .int v, .int t] (fun U => U.heap.size = sz ∧ tw_YU D cI cZ x ad st U)) (va_Qi (fun r u => ((tw_nc v ∨ tw_nc t) ∧ u = tw_up st 13 0 1) ∨ ∃ a b k, a < 4 ∧ v = nI a ∧ b < 4 ∧ t = nI b ∧ r = nI k ∧ ∃ sm, tw_mm st sm a b 4 k ∧ u = tw_up sm 13 2 0) (tw_YT D cI cZ x ad (va_A (tw_y cI cZ x ad st) sz)) (va_A (tw_y cI cZ x ad st) sz)) 0 0 (va_A (tw_y cI cZ x ad st) sz) := by
  refine Met.ofW (cc := cX1_merge) (maxL := 6) (ret := (some .int)) (by decide) rfl ?_
  intro p e s m args below meth cd s₁ B hml hv
  obtain ⟨rfl, hsz, hU⟩ := hv
  subst hsz
  have S : CallFix p m cd cX1_merge 6 s ([.ref x, .int v, .int t] : List Value).toArray tw_wall RX1 := ⟨B.exec, B.bytes, hml, findClass_of_methodNamed B.named, fun w h => atoms_spec (ws := wsX1_merge) B.pre w (List.mem_cons_of_mem _ h)⟩
  have hr := B.returns
  have hlk0 := B.notSynchronized
  have z : va_S (fun q => s.heap.size ≤ q) s.heap s.heap [] := va_S.rf
  have w := tw_Y0 hU
  have hA : ∀ q : Nat, s.heap.size ≤ q → va_A (tw_y cI cZ x ad st) s.heap.size q := fun q h => Or.inr h
  generalize va_A (tw_y cI cZ x ad st) s.heap.size = A at w hA ⊢
  have hl := lv_entry ([.ref x, .int v, .int t]) (n := 6) (Nat.le_of_ble_eq_true rfl)
  rw [lg_entry_eq]
  generalize (lg_sl ([.ref x, .int v, .int t]) ++ List.replicate (6 - (lg_sl ([.ref x, .int v, .int t])).length) Slot.unset).toArray = ls at hl ⊢
  have hl : lv_has ls 6 [(0, .ref x), (1, .int v), (2, .int t)] := hl
  refine lv_aload_n S.1 S.2.1 dX1_merge_0 rfl (lv_at hl 0 rfl) ?_
  refine lv_iload_n S.1 S.2.1 dX1_merge_1 rfl (lv_at hl 1 rfl) ?_
  refine tw_cst (n := 1) S w.2.2.2 hA (kX1_isCopy l _ (v := v)) (tw_gS wl_X1_67 wt_X1_isCopy wi_X1 wy_X1_isCopy) rfl rfl (by decide +kernel) ⟨Nat.le_of_ble_eq_true rfl, Nat.le_of_ble_eq_true rfl⟩ rfl hl.1 rfl (Nat.le_of_ble_eq_true rfl) dX1_merge_2 ⟨Nat.le_of_ble_eq_true rfl, Nat.le_of_ble_eq_true rfl⟩ (fun r H locs hp hk z9 => ?_)
  have w := w.kept hk z9
  refine lv_if_eq (tgt := 15) S.1 S.2.1 dX1_merge_5 (by decide) (fun h5 => ?_) (fun h5 => ?_)
  · have hbad : tw_nc v := hp.elim (fun g => absurd (g.1.symm.trans h5) (by decide)) (fun g => g.2)
    refine lv_iconst (v := nI 1) S.1 S.2.1 dX1_merge_15 (by decide) ?_
    refine lv_goto (tgt := 20) S.1 S.2.1 dX1_merge_16 (by decide) ?_
    refine tw_cyi (n := 1) S w hA (kX1_bad l D cI cZ x ad _ _ (b := 1) (by omega)) (tw_gV wl_X1_71 wn_X1_bad ws_X1_bad wi_X1 wy_X1_bad) rfl rfl (by decide +kernel) ⟨Nat.le_of_ble_eq_true rfl, Nat.le_of_ble_eq_true rfl⟩ rfl hl.1 rfl (Nat.le_of_ble_eq_true rfl) dX1_merge_20 ⟨Nat.le_of_ble_eq_true rfl, Nat.le_of_ble_eq_true rfl⟩ (fun r u H locs hp w => ?_)
    obtain ⟨hr9, hu⟩ := hp
    subst hr9
    rw [hu] at w
    refine lv_if_eq (tgt := 28) S.1 S.2.1 dX1_merge_23 (by decide) (fun h23 => absurd h23 (by decide)) (fun h23 => ?_)
    refine lv_iconst (v := nI 0) S.1 S.2.1 dX1_merge_26 (by decide) ?_
    first
      | exact tw_iretY S hr hlk0 w (Or.inl ⟨Or.inl hbad, rfl⟩) dX1_merge_27
      | exact tw_iretY S hr hlk0 w (Or.inl ⟨Or.inr hbad, rfl⟩) dX1_merge_27
  · obtain ⟨a, ha, rfl⟩ := hp.elim (fun g => g.2) (fun g => absurd g.1 h5)
    refine lv_iload_n S.1 S.2.1 dX1_merge_8 rfl (lv_at hl 2 rfl) ?_
    refine tw_cst (n := 1) S w.2.2.2 hA (kX1_isCopy l _ (v := t)) (tw_gS wl_X1_67 wt_X1_isCopy wi_X1 wy_X1_isCopy) rfl rfl (by decide +kernel) ⟨Nat.le_of_ble_eq_true rfl, Nat.le_of_ble_eq_true rfl⟩ rfl hl.1 rfl (Nat.le_of_ble_eq_true rfl) dX1_merge_9 ⟨Nat.le_of_ble_eq_true rfl, Nat.le_of_ble_eq_true rfl⟩ (fun r H locs hp hk z9 => ?_)
    have w := w.kept hk z9
    refine lv_if_ne (tgt := 19) S.1 S.2.1 dX1_merge_12 (by decide) (fun h12 => ?_) (fun h12 => ?_)
    · obtain ⟨b, hb, rfl⟩ := hp.elim (fun g => g.2) (fun g => absurd g.1 h12)
      refine lv_iconst (v := nI 0) S.1 S.2.1 dX1_merge_19 (by decide) ?_
      refine tw_cyi (n := 1) S w hA (kX1_bad l D cI cZ x ad _ _ (b := 0) (by omega)) (tw_gV wl_X1_71 wn_X1_bad ws_X1_bad wi_X1 wy_X1_bad) rfl rfl (by decide +kernel) ⟨Nat.le_of_ble_eq_true rfl, Nat.le_of_ble_eq_true rfl⟩ rfl hl.1 rfl (Nat.le_of_ble_eq_true rfl) dX1_merge_20 ⟨Nat.le_of_ble_eq_true rfl, Nat.le_of_ble_eq_true rfl⟩ (fun r u H locs hp w => ?_)
      obtain ⟨hr9, hu⟩ := hp
      subst hr9
      rw [hu] at w
      refine lv_if_eq (tgt := 28) S.1 S.2.1 dX1_merge_23 (by decide) (fun h23 => ?_) (fun h23 => absurd (by decide) h23)
      have loop : ∀ (n : Nat) (m9 k : Nat) (sm : Nat → Nat → Nat) (H : Heap) (locs : List Loc) (ls : Array Slot), 4 - m9 < n → m9 ≤ 4 → tw_mm st sm a b m9 k → TWY D cI cZ x ad sm A s.heap H locs s → lv_has ls 6 [(4, .int (nI m9)), (3, .int (nI k)), (0, .ref x), (1, .int (nI a)), (2, .int (nI b))] → W p l e (headSpec wsX1_merge ({ frames := 3, cells := 0, slots := 0, locals := 80 })).room s m ([.ref x, .int (nI a), .int (nI b)] : List Value).toArray below meth cd H locs 0 0 (MQ below (va_Qi (fun r u => ((tw_nc (nI a) ∨ tw_nc (nI b)) ∧ u = tw_up st 13 0 1) ∨ ∃ a' b' k, a' < 4 ∧ nI a = nI a' ∧ b' < 4 ∧ nI b = nI b' ∧ r = nI k ∧ ∃ sm, tw_mm st sm a' b' 4 k ∧ u = tw_up sm 13 2 0) (tw_YT D cI cZ x ad A) A) ([.ref x, .int (nI a), .int (nI b)] : List Value).toArray s 0 0 A) (F0 m 33 ls []) := by
        intro n
        induction n with
        | zero => intros; omega
        | succ n ih =>
          intro m9 k sm H locs ls hm hj hg w hl
          refine lv_iload S.1 S.2.1 dX1_merge_33 (lv_at hl 0 rfl) ?_
          refine lv_iconst (v := nI 4) S.1 S.2.1 dX1_merge_35 (by decide) ?_
          refine lv_icmp_ge (tgt := 99) S.1 S.2.1 dX1_merge_36 (by decide) (fun h36 => ?_) (fun h36 => ?_)
          · have hm4 : m9 = 4 := by have := (tw_le (by omega) (by omega)).mp h36; omega
            subst hm4
            refine lv_aload_n S.1 S.2.1 dX1_merge_99 rfl (lv_at hl 2 rfl) ?_
            refine lv_iconst (v := nI 0 - 1) S.1 S.2.1 dX1_merge_100 (by decide) ?_
            refine yyp_orderOf S w dX1_merge_101 (fun H locs w => ?_)
            refine lv_iload_n S.1 S.2.1 dX1_merge_104 rfl (lv_at hl 1 rfl) ?_
            exact tw_iretY S hr hlk0 w (Or.inr ⟨a, b, k, ha, rfl, hb, rfl, rfl, _, hg, rfl⟩) dX1_merge_105
          · have hm4 : m9 < 4 := Nat.not_le.mp (fun g => h36 ((tw_le (by omega) (by omega)).mpr g))
            have ba := hb10 a m9 ha hm4
            have bb := hb10 b m9 hb hm4
            have eb := hg.1 m9 hm4
            rw [if_neg (by omega)] at eb
            refine lv_aload_n S.1 S.2.1 dX1_merge_39 rfl (lv_at hl 2 rfl) ?_
            refine yyg_has S w dX1_merge_40 ?_
            refine lv_iconst (v := nI 4) S.1 S.2.1 dX1_merge_43 (by decide) ?_
            refine lv_iload_n S.1 S.2.1 dX1_merge_44 rfl (lv_at hl 3 rfl) ?_
            refine lv_imul S.1 S.2.1 dX1_merge_45 ?_
            refine tw_t (pk_mul _ _) ?_
            refine lv_iload S.1 S.2.1 dX1_merge_46 (lv_at hl 0 rfl) ?_
            refine lv_iadd S.1 S.2.1 dX1_merge_48 ?_
            refine tw_t (nI_add _ _) ?_
            refine yyl_10 S w (by omega) dX1_merge_49 ?_
            refine tw_t (show _ = nI (st 10 (4 * a + m9)) from by rw [tw_mm_a hg hm4 ha hb]) ?_
            refine lv_aload_n S.1 S.2.1 dX1_merge_50 rfl (lv_at hl 2 rfl) ?_
            refine yyg_has S w dX1_merge_51 ?_
            refine lv_iconst (v := nI 4) S.1 S.2.1 dX1_merge_54 (by decide) ?_
            refine lv_iload_n S.1 S.2.1 dX1_merge_55 rfl (lv_at hl 4 rfl) ?_
            refine lv_imul S.1 S.2.1 dX1_merge_56 ?_
            refine tw_t (pk_mul _ _) ?_
            refine lv_iload S.1 S.2.1 dX1_merge_57 (lv_at hl 0 rfl) ?_
            refine lv_iadd S.1 S.2.1 dX1_merge_59 ?_
            refine tw_t (nI_add _ _) ?_
            refine yyl_10 S w (by omega) dX1_merge_60 ?_
            refine tw_t (show _ = nI (st 10 (4 * b + m9)) from by rw [eb]) ?_
            refine lv_isub S.1 S.2.1 dX1_merge_61 ?_
            refine lv_istore S.1 S.2.1 dX1_merge_62 hl (by decide) rfl (fun ls hl => ?_)
            refine lv_iload S.1 S.2.1 dX1_merge_64 (lv_at hl 0 rfl) ?_
            refine lv_if_gt (tgt := 72) S.1 S.2.1 dX1_merge_66 (by decide) (fun h66 => ?_) (fun h66 => ?_)
            · have hlt := (tw_gt0 (by omega) (by omega)).mp h66
              refine lv_iload_n S.1 S.2.1 dX1_merge_72 rfl (lv_at hl 2 rfl) ?_
              refine lv_iload S.1 S.2.1 dX1_merge_73 (lv_at hl 0 rfl) ?_
              refine tw_t (pk_sub (Nat.le_of_lt hlt)) ?_
              refine lv_iadd S.1 S.2.1 dX1_merge_75 ?_
              refine tw_t (nI_add _ _) ?_
              refine lv_istore_n S.1 S.2.1 dX1_merge_76 rfl hl (by decide) rfl (fun ls hl => ?_)
              refine lv_aload_n S.1 S.2.1 dX1_merge_77 rfl (lv_at hl 3 rfl) ?_
              refine yyg_has S w dX1_merge_78 ?_
              refine lv_iconst (v := nI 4) S.1 S.2.1 dX1_merge_81 (by decide) ?_
              refine lv_iload_n S.1 S.2.1 dX1_merge_82 rfl (lv_at hl 5 rfl) ?_
              refine lv_imul S.1 S.2.1 dX1_merge_83 ?_
              refine tw_t (pk_mul _ _) ?_
              refine lv_iload S.1 S.2.1 dX1_merge_84 (lv_at hl 2 rfl) ?_
              refine lv_iadd S.1 S.2.1 dX1_merge_86 ?_
              refine tw_t (nI_add _ _) ?_
              refine lv_dup2_11 S.1 S.2.1 dX1_merge_87 rfl rfl ?_
              refine yyl_10 S w (by omega) dX1_merge_88 ?_
              refine tw_t (show _ = nI (st 10 (4 * b + m9)) from by rw [eb]) ?_
              refine lv_iload S.1 S.2.1 dX1_merge_89 (lv_at hl 1 rfl) ?_
              refine tw_t (pk_sub (Nat.le_of_lt hlt)) ?_
              refine lv_iadd S.1 S.2.1 dX1_merge_91 ?_
              refine tw_t (nI_add _ _) ?_
              refine yys_10 S w (by omega)  dX1_merge_92 (fun H locs w => ?_)
              refine lv_iinc S.1 S.2.1 dX1_merge_93 hl (k := 2) rfl (tw_inc _) (by decide) rfl (fun ls hl => ?_)
              refine lv_goto (tgt := 33) S.1 S.2.1 dX1_merge_96 (by decide) ?_
              exact ih (m9 + 1) _ _ H locs ls (by omega) (by omega) (tw_mm_yes hg hm4 hlt) w (lv_sub hl [0, 1, 3, 4, 5] rfl)
            · have hle : st 10 (4 * a + m9) ≤ st 10 (4 * b + m9) := Nat.not_lt.mp (fun g => h66 ((tw_gt0 (by omega) (by omega)).mpr g))
              refine lv_goto (tgt := 93) S.1 S.2.1 dX1_merge_69 (by decide) ?_
              refine lv_iinc S.1 S.2.1 dX1_merge_93 hl (k := 1) rfl (tw_inc _) (by decide) rfl (fun ls hl => ?_)
              refine lv_goto (tgt := 33) S.1 S.2.1 dX1_merge_96 (by decide) ?_
              exact ih (m9 + 1) _ _ H locs ls (by omega) (by omega) (tw_mm_no hg hm4 hle) w (lv_sub hl [0, 2, 3, 4, 5] rfl)
      refine lv_iconst (v := nI 0) S.1 S.2.1 dX1_merge_28 (by decide) ?_
      refine lv_istore_n S.1 S.2.1 dX1_merge_29 rfl hl (by decide) rfl (fun ls hl => ?_)
      refine lv_iconst (v := nI 0) S.1 S.2.1 dX1_merge_30 (by decide) ?_
      refine lv_istore S.1 S.2.1 dX1_merge_31 hl (by decide) rfl (fun ls hl => ?_)
      exact loop 5 0 0 (tw_up st 13 0 0) H locs ls (by omega) (by omega) ⟨fun j hj => by rw [if_neg (by omega)]; rfl, fun _ _ => rfl, fun _ _ _ => rfl, by rw [tw_up_k (by omega), tw_up_k (by omega), tw_up_k (by omega), tw_up_k (by omega)]; omega⟩ w (lv_sub hl [0, 1, 2, 3, 4] rfl)
    · have hbad : tw_nc t := hp.elim (fun g => absurd (g.1.symm.trans h12) (by decide)) (fun g => g.2)
      refine lv_iconst (v := nI 1) S.1 S.2.1 dX1_merge_15 (by decide) ?_
      refine lv_goto (tgt := 20) S.1 S.2.1 dX1_merge_16 (by decide) ?_
      refine tw_cyi (n := 1) S w hA (kX1_bad l D cI cZ x ad _ _ (b := 1) (by omega)) (tw_gV wl_X1_71 wn_X1_bad ws_X1_bad wi_X1 wy_X1_bad) rfl rfl (by decide +kernel) ⟨Nat.le_of_ble_eq_true rfl, Nat.le_of_ble_eq_true rfl⟩ rfl hl.1 rfl (Nat.le_of_ble_eq_true rfl) dX1_merge_20 ⟨Nat.le_of_ble_eq_true rfl, Nat.le_of_ble_eq_true rfl⟩ (fun r u H locs hp w => ?_)
      obtain ⟨hr9, hu⟩ := hp
      subst hr9
      rw [hu] at w
      refine lv_if_eq (tgt := 28) S.1 S.2.1 dX1_merge_23 (by decide) (fun h23 => absurd h23 (by decide)) (fun h23 => ?_)
      refine lv_iconst (v := nI 0) S.1 S.2.1 dX1_merge_26 (by decide) ?_
      first
        | exact tw_iretY S hr hlk0 w (Or.inl ⟨Or.inl hbad, rfl⟩) dX1_merge_27
        | exact tw_iretY S hr hlk0 w (Or.inl ⟨Or.inr hbad, rfl⟩) dX1_merge_27
