set_option maxHeartbeats 4000000 in
set_option maxRecDepth 100000 in
/-- length(c) -/
theorem kX1_length (l : Launch) (D : va_G) (cI cZ : ClassId) (x : Nat) (ad : Nat → Nat) (st : Nat → Nat → Nat) (sz : Nat) {v : Int32} {T : Nat → Nat} {F : Nat → Nat → Bool} (hlk : ∀ a, a < 4 → tw_lkp st a T (F a)) : Met l yX1_length wsX1_length ({ frames := 3, cells := 0, slots := 0, locals := 80 }) (va_Pc [.ref x, .int v] (fun U => U.heap.size = sz ∧ tw_YU D cI cZ x ad st U)) (va_Qi (fun r u => (tw_nc v ∧ u = tw_up st 13 0 1) ∨ ∃ a, a < 4 ∧ v = nI a ∧ r = nI (tw_cn (F a) (st 13 1 - 1)) ∧ tw_lkr st u a T (F a) 0) (tw_YT D cI cZ x ad (va_A (tw_y cI cZ x ad st) sz)) (va_A (tw_y cI cZ x ad st) sz)) 0 0 (va_A (tw_y cI cZ x ad st) sz) := by
  refine Met.ofW (cc := cX1_length) (maxL := 2) (ret := (some .int)) (by decide) rfl ?_
  intro p e s m args below meth cd s₁ B hml hv
  obtain ⟨rfl, hsz, hU⟩ := hv
  subst hsz
  have S : CallFix p m cd cX1_length 2 s ([.ref x, .int v] : List Value).toArray tw_wall RX1 := ⟨B.exec, B.bytes, hml, findClass_of_methodNamed B.named, fun w h => atoms_spec (ws := wsX1_length) B.pre w (List.mem_cons_of_mem _ h)⟩
  have hr := B.returns
  have hlk0 := B.notSynchronized
  have z : va_S (fun q => s.heap.size ≤ q) s.heap s.heap [] := va_S.rf
  have w := tw_Y0 hU
  have hA : ∀ q : Nat, s.heap.size ≤ q → va_A (tw_y cI cZ x ad st) s.heap.size q := fun q h => Or.inr h
  generalize va_A (tw_y cI cZ x ad st) s.heap.size = A at w hA ⊢
  have hl := lv_entry ([.ref x, .int v]) (n := 2) (Nat.le_of_ble_eq_true rfl)
  rw [lg_entry_eq]
  generalize (lg_sl ([.ref x, .int v]) ++ List.replicate (2 - (lg_sl ([.ref x, .int v])).length) Slot.unset).toArray = ls at hl ⊢
  have hl : lv_has ls 2 [(0, .ref x), (1, .int v)] := hl
  refine lv_aload_n S.1 S.2.1 dX1_length_0 rfl (lv_at hl 0 rfl) ?_
  refine lv_iload_n S.1 S.2.1 dX1_length_1 rfl (lv_at hl 1 rfl) ?_
  refine tw_cst (n := 1) S w.2.2.2 hA (kX1_isCopy l _ (v := v)) (tw_gS wl_X1_67 wt_X1_isCopy wi_X1 wy_X1_isCopy) rfl rfl (by decide +kernel) ⟨Nat.le_of_ble_eq_true rfl, Nat.le_of_ble_eq_true rfl⟩ rfl hl.1 rfl (Nat.le_of_ble_eq_true rfl) dX1_length_2 ⟨Nat.le_of_ble_eq_true rfl, Nat.le_of_ble_eq_true rfl⟩ (fun r H locs hp hk z9 => ?_)
  have w := w.kept hk z9
  refine lv_if_ne (tgt := 12) S.1 S.2.1 dX1_length_5 (by decide) (fun h5 => ?_) (fun h5 => ?_)
  · obtain ⟨a, ha, rfl⟩ := hp.elim (fun g => g.2) (fun g => absurd g.1 h5)
    refine lv_iconst (v := nI 0) S.1 S.2.1 dX1_length_12 (by decide) ?_
    refine tw_cyi (n := 1) S w hA (kX1_bad l D cI cZ x ad _ _ (b := 0) (by omega)) (tw_gV wl_X1_71 wn_X1_bad ws_X1_bad wi_X1 wy_X1_bad) rfl rfl (by decide +kernel) ⟨Nat.le_of_ble_eq_true rfl, Nat.le_of_ble_eq_true rfl⟩ rfl hl.1 rfl (Nat.le_of_ble_eq_true rfl) dX1_length_13 ⟨Nat.le_of_ble_eq_true rfl, Nat.le_of_ble_eq_true rfl⟩ (fun r u H locs hp w => ?_)
    obtain ⟨hr9, hu⟩ := hp
    subst hr9
    rw [hu] at w
    refine lv_if_eq (tgt := 21) S.1 S.2.1 dX1_length_16 (by decide) (fun h16 => ?_) (fun h16 => absurd (by decide) h16)
    refine lv_aload_n S.1 S.2.1 dX1_length_21 rfl (lv_at hl 0 rfl) ?_
    refine lv_iload_n S.1 S.2.1 dX1_length_22 rfl (lv_at hl 1 rfl) ?_
    refine tw_cyv (n := 1) S w hA (kX1_look l D cI cZ x ad _ _ ha (tw_lkp_b (hlk a ha))) (tw_gV wl_X1_75 wn_X1_look ws_X1_look wi_X1 wy_X1_look) rfl rfl (by decide +kernel) ⟨Nat.le_of_ble_eq_true rfl, Nat.le_of_ble_eq_true rfl⟩ rfl hl.1 rfl (Nat.le_of_ble_eq_true rfl) dX1_length_23 ⟨Nat.le_of_ble_eq_true rfl, Nat.le_of_ble_eq_true rfl⟩ (fun s1 H locs hq w => ?_)
    refine lv_aload_n S.1 S.2.1 dX1_length_26 rfl (lv_at hl 0 rfl) ?_
    refine yyg_long_ S w dX1_length_27 ?_
    refine tw_t (show _ = nI (tw_cn (F a) (st 13 1 - 1)) from by rw [hq.2.1]; rfl) ?_
    exact tw_iretY S hr hlk0 w (Or.inr ⟨a, ha, rfl, rfl, tw_lkr_q hq⟩) dX1_length_30
  · have hbad : tw_nc v := hp.elim (fun g => absurd (g.1.symm.trans h5) (by decide)) (fun g => g.2)
    refine lv_iconst (v := nI 1) S.1 S.2.1 dX1_length_8 (by decide) ?_
    refine lv_goto (tgt := 13) S.1 S.2.1 dX1_length_9 (by decide) ?_
    refine tw_cyi (n := 1) S w hA (kX1_bad l D cI cZ x ad _ _ (b := 1) (by omega)) (tw_gV wl_X1_71 wn_X1_bad ws_X1_bad wi_X1 wy_X1_bad) rfl rfl (by decide +kernel) ⟨Nat.le_of_ble_eq_true rfl, Nat.le_of_ble_eq_true rfl⟩ rfl hl.1 rfl (Nat.le_of_ble_eq_true rfl) dX1_length_13 ⟨Nat.le_of_ble_eq_true rfl, Nat.le_of_ble_eq_true rfl⟩ (fun r u H locs hp w => ?_)
    obtain ⟨hr9, hu⟩ := hp
    subst hr9
    rw [hu] at w
    refine lv_if_eq (tgt := 21) S.1 S.2.1 dX1_length_16 (by decide) (fun h16 => absurd h16 (by decide)) (fun h16 => ?_)
    refine lv_iconst (v := nI 0) S.1 S.2.1 dX1_length_19 (by decide) ?_
    exact tw_iretY S hr hlk0 w (Or.inl ⟨hbad, rfl⟩) dX1_length_20
set_option maxHeartbeats 4000000 in
set_option maxRecDepth 100000 in
/-- letter(c, at) -/
theorem kX1_letter (l : Launch) (D : va_G) (cI cZ : ClassId) (x : Nat) (ad : Nat → Nat) (st : Nat → Nat → Nat) (sz : Nat) {v t : Int32} {T : Nat → Nat} {F : Nat → Nat → Bool} (hlk : ∀ a, a < 4 → tw_lkp st a T (F a)) : Met l yX1_letter wsX1_letter ({ frames := 3, cells := 0, slots := 0, locals := 80 }) (va_Pc [.ref x, .int v, .int t] (fun U => U.heap.size = sz ∧ tw_YU D cI cZ x ad st U)) (va_Qi (fun r u => ((tw_nc v ∨ t < 0) ∧ u = tw_up st 13 0 1) ∨ ∃ a, a < 4 ∧ v = nI a ∧ ¬ t < 0 ∧ tw_lkr st u a T (F a) 0 ∧ tw_plM (st 13 1) (F a) t r (fun p => st 3 (T (p + 1)))) (tw_YT D cI cZ x ad (va_A (tw_y cI cZ x ad st) sz)) (va_A (tw_y cI cZ x ad st) sz)) 0 0 (va_A (tw_y cI cZ x ad st) sz) := by
  refine Met.ofW (cc := cX1_letter) (maxL := 3) (ret := (some .int)) (by decide) rfl ?_
  intro p e s m args below meth cd s₁ B hml hv
  obtain ⟨rfl, hsz, hU⟩ := hv
  subst hsz
  have S : CallFix p m cd cX1_letter 3 s ([.ref x, .int v, .int t] : List Value).toArray tw_wall RX1 := ⟨B.exec, B.bytes, hml, findClass_of_methodNamed B.named, fun w h => atoms_spec (ws := wsX1_letter) B.pre w (List.mem_cons_of_mem _ h)⟩
  have hr := B.returns
  have hlk0 := B.notSynchronized
  have z : va_S (fun q => s.heap.size ≤ q) s.heap s.heap [] := va_S.rf
  have w := tw_Y0 hU
  have hA : ∀ q : Nat, s.heap.size ≤ q → va_A (tw_y cI cZ x ad st) s.heap.size q := fun q h => Or.inr h
  generalize va_A (tw_y cI cZ x ad st) s.heap.size = A at w hA ⊢
  have hl := lv_entry ([.ref x, .int v, .int t]) (n := 3) (Nat.le_of_ble_eq_true rfl)
  rw [lg_entry_eq]
  generalize (lg_sl ([.ref x, .int v, .int t]) ++ List.replicate (3 - (lg_sl ([.ref x, .int v, .int t])).length) Slot.unset).toArray = ls at hl ⊢
  have hl : lv_has ls 3 [(0, .ref x), (1, .int v), (2, .int t)] := hl
  refine lv_aload_n S.1 S.2.1 dX1_letter_0 rfl (lv_at hl 0 rfl) ?_
  refine lv_iload_n S.1 S.2.1 dX1_letter_1 rfl (lv_at hl 1 rfl) ?_
  refine tw_cst (n := 1) S w.2.2.2 hA (kX1_isCopy l _ (v := v)) (tw_gS wl_X1_67 wt_X1_isCopy wi_X1 wy_X1_isCopy) rfl rfl (by decide +kernel) ⟨Nat.le_of_ble_eq_true rfl, Nat.le_of_ble_eq_true rfl⟩ rfl hl.1 rfl (Nat.le_of_ble_eq_true rfl) dX1_letter_2 ⟨Nat.le_of_ble_eq_true rfl, Nat.le_of_ble_eq_true rfl⟩ (fun r H locs hp hk z9 => ?_)
  have w := w.kept hk z9
  refine lv_if_eq (tgt := 12) S.1 S.2.1 dX1_letter_5 (by decide) (fun h5 => ?_) (fun h5 => ?_)
  · have hbad : tw_nc v := hp.elim (fun g => absurd (g.1.symm.trans h5) (by decide)) (fun g => g.2)
    refine lv_iconst (v := nI 1) S.1 S.2.1 dX1_letter_12 (by decide) ?_
    refine lv_goto (tgt := 17) S.1 S.2.1 dX1_letter_13 (by decide) ?_
    refine tw_cyi (n := 1) S w hA (kX1_bad l D cI cZ x ad _ _ (b := 1) (by omega)) (tw_gV wl_X1_71 wn_X1_bad ws_X1_bad wi_X1 wy_X1_bad) rfl rfl (by decide +kernel) ⟨Nat.le_of_ble_eq_true rfl, Nat.le_of_ble_eq_true rfl⟩ rfl hl.1 rfl (Nat.le_of_ble_eq_true rfl) dX1_letter_17 ⟨Nat.le_of_ble_eq_true rfl, Nat.le_of_ble_eq_true rfl⟩ (fun r u H locs hp w => ?_)
    obtain ⟨hr9, hu⟩ := hp
    subst hr9
    rw [hu] at w
    refine lv_if_eq (tgt := 25) S.1 S.2.1 dX1_letter_20 (by decide) (fun h20 => absurd h20 (by decide)) (fun h20 => ?_)
    refine lv_iconst (v := nI 0) S.1 S.2.1 dX1_letter_23 (by decide) ?_
    first
      | exact tw_iretY S hr hlk0 w (Or.inl ⟨Or.inl hbad, rfl⟩) dX1_letter_24
      | exact tw_iretY S hr hlk0 w (Or.inl ⟨Or.inr ht0, rfl⟩) dX1_letter_24
  · obtain ⟨a, ha, rfl⟩ := hp.elim (fun g => g.2) (fun g => absurd g.1 h5)
    refine lv_iload_n S.1 S.2.1 dX1_letter_8 rfl (lv_at hl 2 rfl) ?_
    refine lv_if_ge (tgt := 16) S.1 S.2.1 dX1_letter_9 (by decide) (fun h9 => ?_) (fun h9 => ?_)
    · have ht0 : ¬ t < 0 := Int32.not_lt.mpr h9
      refine lv_iconst (v := nI 0) S.1 S.2.1 dX1_letter_16 (by decide) ?_
      refine tw_cyi (n := 1) S w hA (kX1_bad l D cI cZ x ad _ _ (b := 0) (by omega)) (tw_gV wl_X1_71 wn_X1_bad ws_X1_bad wi_X1 wy_X1_bad) rfl rfl (by decide +kernel) ⟨Nat.le_of_ble_eq_true rfl, Nat.le_of_ble_eq_true rfl⟩ rfl hl.1 rfl (Nat.le_of_ble_eq_true rfl) dX1_letter_17 ⟨Nat.le_of_ble_eq_true rfl, Nat.le_of_ble_eq_true rfl⟩ (fun r u H locs hp w => ?_)
      obtain ⟨hr9, hu⟩ := hp
      subst hr9
      rw [hu] at w
      refine lv_if_eq (tgt := 25) S.1 S.2.1 dX1_letter_20 (by decide) (fun h20 => ?_) (fun h20 => absurd (by decide) h20)
      refine lv_aload_n S.1 S.2.1 dX1_letter_25 rfl (lv_at hl 0 rfl) ?_
      refine lv_iload_n S.1 S.2.1 dX1_letter_26 rfl (lv_at hl 1 rfl) ?_
      refine tw_cyv (n := 1) S w hA (kX1_look l D cI cZ x ad _ _ ha (tw_lkp_b (hlk a ha))) (tw_gV wl_X1_75 wn_X1_look ws_X1_look wi_X1 wy_X1_look) rfl rfl (by decide +kernel) ⟨Nat.le_of_ble_eq_true rfl, Nat.le_of_ble_eq_true rfl⟩ rfl hl.1 rfl (Nat.le_of_ble_eq_true rfl) dX1_letter_27 ⟨Nat.le_of_ble_eq_true rfl, Nat.le_of_ble_eq_true rfl⟩ (fun s1 H locs hq w => ?_)
      have e33 : s1 13 3 = tw_cn (F a) (st 13 1 - 1) := hq.2.1
      have hL2 := (hlk a ha).1.2
      have hli := (hlk a ha).2.1
      have hord : ∀ p, p < st 13 1 - 1 → F a p = true → s1 11 (tw_cn (F a) p) = T (p + 1) := hq.2.2.1
      have ho : ∀ k y, k < 11 → s1 k y = st k y := fun k y h => (hq.2.2.2 k y (by omega) (by omega) (by omega)).trans (tw_up_k (by omega))
      refine lv_iload_n S.1 S.2.1 dX1_letter_30 rfl (lv_at hl 2 rfl) ?_
      refine lv_aload_n S.1 S.2.1 dX1_letter_31 rfl (lv_at hl 0 rfl) ?_
      refine yyg_long_ S w dX1_letter_32 ?_
      refine tw_t (show _ = nI (tw_cn (F a) (st 13 1 - 1)) from by rw [e33]) ?_
      refine lv_icmp_ge (tgt := 52) S.1 S.2.1 dX1_letter_35 (by decide) (fun h35 => ?_) (fun h35 => ?_)
      · have hno := tw_no (f := F a) (m := st 13 1 - 1) (by omega) h35
        refine lv_iconst (v := -1) S.1 S.2.1 dX1_letter_52 (by decide) ?_
        first
          | exact tw_iretY S hr hlk0 w (Or.inr ⟨a, ha, rfl, ht0, tw_lkr_q hq, Or.inl ⟨p, p1, p2, rfl, rfl⟩⟩) dX1_letter_53
          | exact tw_iretY S hr hlk0 w (Or.inr ⟨a, ha, rfl, ht0, tw_lkr_q hq, Or.inr ⟨rfl, hno⟩⟩) dX1_letter_53
      · obtain ⟨p, p1, p2, rfl⟩ := tw_yes (f := F a) (m := st 13 1 - 1) (by omega) ht0 h35
        have hcl := tw_cn_le (F a) p
        have hT := hli.2.2.1 (p + 1) (by omega)
        refine lv_aload_n S.1 S.2.1 dX1_letter_38 rfl (lv_at hl 0 rfl) ?_
        refine yyg_value S w dX1_letter_39 ?_
        refine lv_aload_n S.1 S.2.1 dX1_letter_42 rfl (lv_at hl 0 rfl) ?_
        refine yyg_order S w dX1_letter_43 ?_
        refine lv_iload_n S.1 S.2.1 dX1_letter_46 rfl (lv_at hl 2 rfl) ?_
        refine yyl_11 S w (by omega) dX1_letter_47 ?_
        refine tw_t (show _ = nI (T (p + 1)) from by rw [hord p p1 p2]) ?_
        refine yyl_3 S w (by omega) dX1_letter_48 ?_
        refine tw_t (show _ = nI (st 3 (T (p + 1))) from by rw [ho 3 _ (by omega)]) ?_
        refine lv_goto (tgt := 53) S.1 S.2.1 dX1_letter_49 (by decide) ?_
        first
          | exact tw_iretY S hr hlk0 w (Or.inr ⟨a, ha, rfl, ht0, tw_lkr_q hq, Or.inl ⟨p, p1, p2, rfl, rfl⟩⟩) dX1_letter_53
          | exact tw_iretY S hr hlk0 w (Or.inr ⟨a, ha, rfl, ht0, tw_lkr_q hq, Or.inr ⟨rfl, hno⟩⟩) dX1_letter_53
    · have ht0 : t < 0 := Int32.not_le.mp h9
      refine lv_iconst (v := nI 1) S.1 S.2.1 dX1_letter_12 (by decide) ?_
      refine lv_goto (tgt := 17) S.1 S.2.1 dX1_letter_13 (by decide) ?_
      refine tw_cyi (n := 1) S w hA (kX1_bad l D cI cZ x ad _ _ (b := 1) (by omega)) (tw_gV wl_X1_71 wn_X1_bad ws_X1_bad wi_X1 wy_X1_bad) rfl rfl (by decide +kernel) ⟨Nat.le_of_ble_eq_true rfl, Nat.le_of_ble_eq_true rfl⟩ rfl hl.1 rfl (Nat.le_of_ble_eq_true rfl) dX1_letter_17 ⟨Nat.le_of_ble_eq_true rfl, Nat.le_of_ble_eq_true rfl⟩ (fun r u H locs hp w => ?_)
      obtain ⟨hr9, hu⟩ := hp
      subst hr9
      rw [hu] at w
      refine lv_if_eq (tgt := 25) S.1 S.2.1 dX1_letter_20 (by decide) (fun h20 => absurd h20 (by decide)) (fun h20 => ?_)
      refine lv_iconst (v := nI 0) S.1 S.2.1 dX1_letter_23 (by decide) ?_
      first
        | exact tw_iretY S hr hlk0 w (Or.inl ⟨Or.inl hbad, rfl⟩) dX1_letter_24
        | exact tw_iretY S hr hlk0 w (Or.inl ⟨Or.inr ht0, rfl⟩) dX1_letter_24
set_option maxHeartbeats 4000000 in
set_option maxRecDepth 100000 in
/-- name(c, at) -/
theorem kX1_name (l : Launch) (D : va_G) (cI cZ : ClassId) (x : Nat) (ad : Nat → Nat) (st : Nat → Nat → Nat) (sz : Nat) {v t : Int32} {T : Nat → Nat} {F : Nat → Nat → Bool} (hlk : ∀ a, a < 4 → tw_lkp st a T (F a)) : Met l yX1_name wsX1_name ({ frames := 3, cells := 0, slots := 0, locals := 80 }) (va_Pc [.ref x, .int v, .int t] (fun U => U.heap.size = sz ∧ tw_YU D cI cZ x ad st U)) (va_Qi (fun r u => ((tw_nc v ∨ t < 0) ∧ u = tw_up st 13 0 1) ∨ ∃ a, a < 4 ∧ v = nI a ∧ ¬ t < 0 ∧ tw_lkr st u a T (F a) 0 ∧ tw_plM (st 13 1) (F a) t r (fun p => tw_n st (T (p + 1)))) (tw_YT D cI cZ x ad (va_A (tw_y cI cZ x ad st) sz)) (va_A (tw_y cI cZ x ad st) sz)) 0 0 (va_A (tw_y cI cZ x ad st) sz) := by
  refine Met.ofW (cc := cX1_name) (maxL := 3) (ret := (some .int)) (by decide) rfl ?_
  intro p e s m args below meth cd s₁ B hml hv
  obtain ⟨rfl, hsz, hU⟩ := hv
  subst hsz
  have S : CallFix p m cd cX1_name 3 s ([.ref x, .int v, .int t] : List Value).toArray tw_wall RX1 := ⟨B.exec, B.bytes, hml, findClass_of_methodNamed B.named, fun w h => atoms_spec (ws := wsX1_name) B.pre w (List.mem_cons_of_mem _ h)⟩
  have hr := B.returns
  have hlk0 := B.notSynchronized
  have z : va_S (fun q => s.heap.size ≤ q) s.heap s.heap [] := va_S.rf
  have w := tw_Y0 hU
  have hA : ∀ q : Nat, s.heap.size ≤ q → va_A (tw_y cI cZ x ad st) s.heap.size q := fun q h => Or.inr h
  generalize va_A (tw_y cI cZ x ad st) s.heap.size = A at w hA ⊢
  have hl := lv_entry ([.ref x, .int v, .int t]) (n := 3) (Nat.le_of_ble_eq_true rfl)
  rw [lg_entry_eq]
  generalize (lg_sl ([.ref x, .int v, .int t]) ++ List.replicate (3 - (lg_sl ([.ref x, .int v, .int t])).length) Slot.unset).toArray = ls at hl ⊢
  have hl : lv_has ls 3 [(0, .ref x), (1, .int v), (2, .int t)] := hl
  refine lv_aload_n S.1 S.2.1 dX1_name_0 rfl (lv_at hl 0 rfl) ?_
  refine lv_iload_n S.1 S.2.1 dX1_name_1 rfl (lv_at hl 1 rfl) ?_
  refine tw_cst (n := 1) S w.2.2.2 hA (kX1_isCopy l _ (v := v)) (tw_gS wl_X1_67 wt_X1_isCopy wi_X1 wy_X1_isCopy) rfl rfl (by decide +kernel) ⟨Nat.le_of_ble_eq_true rfl, Nat.le_of_ble_eq_true rfl⟩ rfl hl.1 rfl (Nat.le_of_ble_eq_true rfl) dX1_name_2 ⟨Nat.le_of_ble_eq_true rfl, Nat.le_of_ble_eq_true rfl⟩ (fun r H locs hp hk z9 => ?_)
  have w := w.kept hk z9
  refine lv_if_eq (tgt := 12) S.1 S.2.1 dX1_name_5 (by decide) (fun h5 => ?_) (fun h5 => ?_)
  · have hbad : tw_nc v := hp.elim (fun g => absurd (g.1.symm.trans h5) (by decide)) (fun g => g.2)
    refine lv_iconst (v := nI 1) S.1 S.2.1 dX1_name_12 (by decide) ?_
    refine lv_goto (tgt := 17) S.1 S.2.1 dX1_name_13 (by decide) ?_
    refine tw_cyi (n := 1) S w hA (kX1_bad l D cI cZ x ad _ _ (b := 1) (by omega)) (tw_gV wl_X1_71 wn_X1_bad ws_X1_bad wi_X1 wy_X1_bad) rfl rfl (by decide +kernel) ⟨Nat.le_of_ble_eq_true rfl, Nat.le_of_ble_eq_true rfl⟩ rfl hl.1 rfl (Nat.le_of_ble_eq_true rfl) dX1_name_17 ⟨Nat.le_of_ble_eq_true rfl, Nat.le_of_ble_eq_true rfl⟩ (fun r u H locs hp w => ?_)
    obtain ⟨hr9, hu⟩ := hp
    subst hr9
    rw [hu] at w
    refine lv_if_eq (tgt := 25) S.1 S.2.1 dX1_name_20 (by decide) (fun h20 => absurd h20 (by decide)) (fun h20 => ?_)
    refine lv_iconst (v := nI 0) S.1 S.2.1 dX1_name_23 (by decide) ?_
    first
      | exact tw_iretY S hr hlk0 w (Or.inl ⟨Or.inl hbad, rfl⟩) dX1_name_24
      | exact tw_iretY S hr hlk0 w (Or.inl ⟨Or.inr ht0, rfl⟩) dX1_name_24
  · obtain ⟨a, ha, rfl⟩ := hp.elim (fun g => g.2) (fun g => absurd g.1 h5)
    refine lv_iload_n S.1 S.2.1 dX1_name_8 rfl (lv_at hl 2 rfl) ?_
    refine lv_if_ge (tgt := 16) S.1 S.2.1 dX1_name_9 (by decide) (fun h9 => ?_) (fun h9 => ?_)
    · have ht0 : ¬ t < 0 := Int32.not_lt.mpr h9
      refine lv_iconst (v := nI 0) S.1 S.2.1 dX1_name_16 (by decide) ?_
      refine tw_cyi (n := 1) S w hA (kX1_bad l D cI cZ x ad _ _ (b := 0) (by omega)) (tw_gV wl_X1_71 wn_X1_bad ws_X1_bad wi_X1 wy_X1_bad) rfl rfl (by decide +kernel) ⟨Nat.le_of_ble_eq_true rfl, Nat.le_of_ble_eq_true rfl⟩ rfl hl.1 rfl (Nat.le_of_ble_eq_true rfl) dX1_name_17 ⟨Nat.le_of_ble_eq_true rfl, Nat.le_of_ble_eq_true rfl⟩ (fun r u H locs hp w => ?_)
      obtain ⟨hr9, hu⟩ := hp
      subst hr9
      rw [hu] at w
      refine lv_if_eq (tgt := 25) S.1 S.2.1 dX1_name_20 (by decide) (fun h20 => ?_) (fun h20 => absurd (by decide) h20)
      refine lv_aload_n S.1 S.2.1 dX1_name_25 rfl (lv_at hl 0 rfl) ?_
      refine lv_iload_n S.1 S.2.1 dX1_name_26 rfl (lv_at hl 1 rfl) ?_
      refine tw_cyv (n := 1) S w hA (kX1_look l D cI cZ x ad _ _ ha (tw_lkp_b (hlk a ha))) (tw_gV wl_X1_75 wn_X1_look ws_X1_look wi_X1 wy_X1_look) rfl rfl (by decide +kernel) ⟨Nat.le_of_ble_eq_true rfl, Nat.le_of_ble_eq_true rfl⟩ rfl hl.1 rfl (Nat.le_of_ble_eq_true rfl) dX1_name_27 ⟨Nat.le_of_ble_eq_true rfl, Nat.le_of_ble_eq_true rfl⟩ (fun s1 H locs hq w => ?_)
      have e33 : s1 13 3 = tw_cn (F a) (st 13 1 - 1) := hq.2.1
      have hL2 := (hlk a ha).1.2
      have hli := (hlk a ha).2.1
      have hord : ∀ p, p < st 13 1 - 1 → F a p = true → s1 11 (tw_cn (F a) p) = T (p + 1) := hq.2.2.1
      have ho : ∀ k y, k < 11 → s1 k y = st k y := fun k y h => (hq.2.2.2 k y (by omega) (by omega) (by omega)).trans (tw_up_k (by omega))
      refine lv_iload_n S.1 S.2.1 dX1_name_30 rfl (lv_at hl 2 rfl) ?_
      refine lv_aload_n S.1 S.2.1 dX1_name_31 rfl (lv_at hl 0 rfl) ?_
      refine yyg_long_ S w dX1_name_32 ?_
      refine tw_t (show _ = nI (tw_cn (F a) (st 13 1 - 1)) from by rw [e33]) ?_
      refine lv_icmp_ge (tgt := 66) S.1 S.2.1 dX1_name_35 (by decide) (fun h35 => ?_) (fun h35 => ?_)
      · have hno := tw_no (f := F a) (m := st 13 1 - 1) (by omega) h35
        refine lv_iconst (v := -1) S.1 S.2.1 dX1_name_66 (by decide) ?_
        first
          | exact tw_iretY S hr hlk0 w (Or.inr ⟨a, ha, rfl, ht0, tw_lkr_q hq, Or.inl ⟨p, p1, p2, rfl, rfl⟩⟩) dX1_name_67
          | exact tw_iretY S hr hlk0 w (Or.inr ⟨a, ha, rfl, ht0, tw_lkr_q hq, Or.inr ⟨rfl, hno⟩⟩) dX1_name_67
      · obtain ⟨p, p1, p2, rfl⟩ := tw_yes (f := F a) (m := st 13 1 - 1) (by omega) ht0 h35
        have hcl := tw_cn_le (F a) p
        have hT := hli.2.2.1 (p + 1) (by omega)
        refine lv_iconst (v := nI 4) S.1 S.2.1 dX1_name_38 (by decide) ?_
        refine lv_aload_n S.1 S.2.1 dX1_name_39 rfl (lv_at hl 0 rfl) ?_
        refine yyg_number S w dX1_name_40 ?_
        refine lv_aload_n S.1 S.2.1 dX1_name_43 rfl (lv_at hl 0 rfl) ?_
        refine yyg_order S w dX1_name_44 ?_
        refine lv_iload_n S.1 S.2.1 dX1_name_47 rfl (lv_at hl 2 rfl) ?_
        refine yyl_11 S w (by omega) dX1_name_48 ?_
        refine tw_t (show _ = nI (T (p + 1)) from by rw [hord p p1 p2]) ?_
        refine yyl_0 S w (by omega) dX1_name_49 ?_
        refine tw_t (show _ = nI (st 0 (T (p + 1))) from by rw [ho 0 _ (by omega)]) ?_
        refine lv_imul S.1 S.2.1 dX1_name_50 ?_
        refine tw_t (pk_mul _ _) ?_
        refine lv_aload_n S.1 S.2.1 dX1_name_51 rfl (lv_at hl 0 rfl) ?_
        refine yyg_maker S w dX1_name_52 ?_
        refine lv_aload_n S.1 S.2.1 dX1_name_55 rfl (lv_at hl 0 rfl) ?_
        refine yyg_order S w dX1_name_56 ?_
        refine lv_iload_n S.1 S.2.1 dX1_name_59 rfl (lv_at hl 2 rfl) ?_
        refine yyl_11 S w (by omega) dX1_name_60 ?_
        refine tw_t (show _ = nI (T (p + 1)) from by rw [hord p p1 p2]) ?_
        refine yyl_1 S w (by omega) dX1_name_61 ?_
        refine tw_t (show _ = nI (st 1 (T (p + 1))) from by rw [ho 1 _ (by omega)]) ?_
        refine lv_iadd S.1 S.2.1 dX1_name_62 ?_
        refine tw_t (nI_add _ _) ?_
        refine lv_goto (tgt := 67) S.1 S.2.1 dX1_name_63 (by decide) ?_
        first
          | exact tw_iretY S hr hlk0 w (Or.inr ⟨a, ha, rfl, ht0, tw_lkr_q hq, Or.inl ⟨p, p1, p2, rfl, rfl⟩⟩) dX1_name_67
          | exact tw_iretY S hr hlk0 w (Or.inr ⟨a, ha, rfl, ht0, tw_lkr_q hq, Or.inr ⟨rfl, hno⟩⟩) dX1_name_67
    · have ht0 : t < 0 := Int32.not_le.mp h9
      refine lv_iconst (v := nI 1) S.1 S.2.1 dX1_name_12 (by decide) ?_
      refine lv_goto (tgt := 17) S.1 S.2.1 dX1_name_13 (by decide) ?_
      refine tw_cyi (n := 1) S w hA (kX1_bad l D cI cZ x ad _ _ (b := 1) (by omega)) (tw_gV wl_X1_71 wn_X1_bad ws_X1_bad wi_X1 wy_X1_bad) rfl rfl (by decide +kernel) ⟨Nat.le_of_ble_eq_true rfl, Nat.le_of_ble_eq_true rfl⟩ rfl hl.1 rfl (Nat.le_of_ble_eq_true rfl) dX1_name_17 ⟨Nat.le_of_ble_eq_true rfl, Nat.le_of_ble_eq_true rfl⟩ (fun r u H locs hp w => ?_)
      obtain ⟨hr9, hu⟩ := hp
      subst hr9
      rw [hu] at w
      refine lv_if_eq (tgt := 25) S.1 S.2.1 dX1_name_20 (by decide) (fun h20 => absurd h20 (by decide)) (fun h20 => ?_)
      refine lv_iconst (v := nI 0) S.1 S.2.1 dX1_name_23 (by decide) ?_
      first
        | exact tw_iretY S hr hlk0 w (Or.inl ⟨Or.inl hbad, rfl⟩) dX1_name_24
        | exact tw_iretY S hr hlk0 w (Or.inl ⟨Or.inr ht0, rfl⟩) dX1_name_24
set_option maxHeartbeats 4000000 in
set_option maxRecDepth 100000 in
/-- has(c, of) -/
theorem kX1_has (l : Launch) (D : va_G) (cI cZ : ClassId) (x : Nat) (ad : Nat → Nat) (st : Nat → Nat → Nat) (sz : Nat) {v t : Int32} : Met l yX1_has wsX1_has ({ frames := 3, cells := 0, slots := 0, locals := 80 }) (va_Pc [.ref x, .int v, .int t] (fun U => U.heap.size = sz ∧ tw_YU D cI cZ x ad st U)) (va_Qi (fun r u => ((tw_nc v ∨ tw_nc t) ∧ u = tw_up st 13 0 1) ∨ ∃ a b, a < 4 ∧ v = nI a ∧ b < 4 ∧ t = nI b ∧ r = nI (st 10 (4 * a + b)) ∧ u = tw_up st 13 0 0) (tw_YT D cI cZ x ad (va_A (tw_y cI cZ x ad st) sz)) (va_A (tw_y cI cZ x ad st) sz)) 0 0 (va_A (tw_y cI cZ x ad st) sz) := by
  refine Met.ofW (cc := cX1_has) (maxL := 3) (ret := (some .int)) (by decide) rfl ?_
  intro p e s m args below meth cd s₁ B hml hv
  obtain ⟨rfl, hsz, hU⟩ := hv
  subst hsz
  have S : CallFix p m cd cX1_has 3 s ([.ref x, .int v, .int t] : List Value).toArray tw_wall RX1 := ⟨B.exec, B.bytes, hml, findClass_of_methodNamed B.named, fun w h => atoms_spec (ws := wsX1_has) B.pre w (List.mem_cons_of_mem _ h)⟩
  have hr := B.returns
  have hlk0 := B.notSynchronized
  have z : va_S (fun q => s.heap.size ≤ q) s.heap s.heap [] := va_S.rf
  have w := tw_Y0 hU
  have hA : ∀ q : Nat, s.heap.size ≤ q → va_A (tw_y cI cZ x ad st) s.heap.size q := fun q h => Or.inr h
  generalize va_A (tw_y cI cZ x ad st) s.heap.size = A at w hA ⊢
  have hl := lv_entry ([.ref x, .int v, .int t]) (n := 3) (Nat.le_of_ble_eq_true rfl)
  rw [lg_entry_eq]
  generalize (lg_sl ([.ref x, .int v, .int t]) ++ List.replicate (3 - (lg_sl ([.ref x, .int v, .int t])).length) Slot.unset).toArray = ls at hl ⊢
  have hl : lv_has ls 3 [(0, .ref x), (1, .int v), (2, .int t)] := hl
  refine lv_aload_n S.1 S.2.1 dX1_has_0 rfl (lv_at hl 0 rfl) ?_
  refine lv_iload_n S.1 S.2.1 dX1_has_1 rfl (lv_at hl 1 rfl) ?_
  refine tw_cst (n := 1) S w.2.2.2 hA (kX1_isCopy l _ (v := v)) (tw_gS wl_X1_67 wt_X1_isCopy wi_X1 wy_X1_isCopy) rfl rfl (by decide +kernel) ⟨Nat.le_of_ble_eq_true rfl, Nat.le_of_ble_eq_true rfl⟩ rfl hl.1 rfl (Nat.le_of_ble_eq_true rfl) dX1_has_2 ⟨Nat.le_of_ble_eq_true rfl, Nat.le_of_ble_eq_true rfl⟩ (fun r H locs hp hk z9 => ?_)
  have w := w.kept hk z9
  refine lv_if_eq (tgt := 15) S.1 S.2.1 dX1_has_5 (by decide) (fun h5 => ?_) (fun h5 => ?_)
  · have hbad : tw_nc v := hp.elim (fun g => absurd (g.1.symm.trans h5) (by decide)) (fun g => g.2)
    refine lv_iconst (v := nI 1) S.1 S.2.1 dX1_has_15 (by decide) ?_
    refine lv_goto (tgt := 20) S.1 S.2.1 dX1_has_16 (by decide) ?_
    refine tw_cyi (n := 1) S w hA (kX1_bad l D cI cZ x ad _ _ (b := 1) (by omega)) (tw_gV wl_X1_71 wn_X1_bad ws_X1_bad wi_X1 wy_X1_bad) rfl rfl (by decide +kernel) ⟨Nat.le_of_ble_eq_true rfl, Nat.le_of_ble_eq_true rfl⟩ rfl hl.1 rfl (Nat.le_of_ble_eq_true rfl) dX1_has_20 ⟨Nat.le_of_ble_eq_true rfl, Nat.le_of_ble_eq_true rfl⟩ (fun r u H locs hp w => ?_)
    obtain ⟨hr9, hu⟩ := hp
    subst hr9
    rw [hu] at w
    refine lv_if_eq (tgt := 30) S.1 S.2.1 dX1_has_23 (by decide) (fun h23 => absurd h23 (by decide)) (fun h23 => ?_)
    refine lv_iconst (v := nI 0) S.1 S.2.1 dX1_has_26 (by decide) ?_
    refine lv_goto (tgt := 40) S.1 S.2.1 dX1_has_27 (by decide) ?_
    first
      | exact tw_iretY S hr hlk0 w (Or.inl ⟨Or.inl hbad, rfl⟩) dX1_has_40
      | exact tw_iretY S hr hlk0 w (Or.inl ⟨Or.inr hbad, rfl⟩) dX1_has_40
      | exact tw_iretY S hr hlk0 w (Or.inr ⟨a, b, ha, rfl, hb, rfl, rfl, rfl⟩) dX1_has_40
  · obtain ⟨a, ha, rfl⟩ := hp.elim (fun g => g.2) (fun g => absurd g.1 h5)
    refine lv_iload_n S.1 S.2.1 dX1_has_8 rfl (lv_at hl 2 rfl) ?_
    refine tw_cst (n := 1) S w.2.2.2 hA (kX1_isCopy l _ (v := t)) (tw_gS wl_X1_67 wt_X1_isCopy wi_X1 wy_X1_isCopy) rfl rfl (by decide +kernel) ⟨Nat.le_of_ble_eq_true rfl, Nat.le_of_ble_eq_true rfl⟩ rfl hl.1 rfl (Nat.le_of_ble_eq_true rfl) dX1_has_9 ⟨Nat.le_of_ble_eq_true rfl, Nat.le_of_ble_eq_true rfl⟩ (fun r H locs hp hk z9 => ?_)
    have w := w.kept hk z9
    refine lv_if_ne (tgt := 19) S.1 S.2.1 dX1_has_12 (by decide) (fun h12 => ?_) (fun h12 => ?_)
    · obtain ⟨b, hb, rfl⟩ := hp.elim (fun g => g.2) (fun g => absurd g.1 h12)
      refine lv_iconst (v := nI 0) S.1 S.2.1 dX1_has_19 (by decide) ?_
      refine tw_cyi (n := 1) S w hA (kX1_bad l D cI cZ x ad _ _ (b := 0) (by omega)) (tw_gV wl_X1_71 wn_X1_bad ws_X1_bad wi_X1 wy_X1_bad) rfl rfl (by decide +kernel) ⟨Nat.le_of_ble_eq_true rfl, Nat.le_of_ble_eq_true rfl⟩ rfl hl.1 rfl (Nat.le_of_ble_eq_true rfl) dX1_has_20 ⟨Nat.le_of_ble_eq_true rfl, Nat.le_of_ble_eq_true rfl⟩ (fun r u H locs hp w => ?_)
      obtain ⟨hr9, hu⟩ := hp
      subst hr9
      rw [hu] at w
      refine lv_if_eq (tgt := 30) S.1 S.2.1 dX1_has_23 (by decide) (fun h23 => ?_) (fun h23 => absurd (by decide) h23)
      refine lv_aload_n S.1 S.2.1 dX1_has_30 rfl (lv_at hl 0 rfl) ?_
      refine yyg_has S w dX1_has_31 ?_
      refine lv_iconst (v := nI 4) S.1 S.2.1 dX1_has_34 (by decide) ?_
      refine lv_iload_n S.1 S.2.1 dX1_has_35 rfl (lv_at hl 1 rfl) ?_
      refine lv_imul S.1 S.2.1 dX1_has_36 ?_
      refine tw_t (pk_mul _ _) ?_
      refine lv_iload_n S.1 S.2.1 dX1_has_37 rfl (lv_at hl 2 rfl) ?_
      refine lv_iadd S.1 S.2.1 dX1_has_38 ?_
      refine tw_t (nI_add _ _) ?_
      refine yyl_10 S w (by omega) dX1_has_39 ?_
      first
        | exact tw_iretY S hr hlk0 w (Or.inl ⟨Or.inl hbad, rfl⟩) dX1_has_40
        | exact tw_iretY S hr hlk0 w (Or.inl ⟨Or.inr hbad, rfl⟩) dX1_has_40
        | exact tw_iretY S hr hlk0 w (Or.inr ⟨a, b, ha, rfl, hb, rfl, rfl, rfl⟩) dX1_has_40
    · have hbad : tw_nc t := hp.elim (fun g => absurd (g.1.symm.trans h12) (by decide)) (fun g => g.2)
      refine lv_iconst (v := nI 1) S.1 S.2.1 dX1_has_15 (by decide) ?_
      refine lv_goto (tgt := 20) S.1 S.2.1 dX1_has_16 (by decide) ?_
      refine tw_cyi (n := 1) S w hA (kX1_bad l D cI cZ x ad _ _ (b := 1) (by omega)) (tw_gV wl_X1_71 wn_X1_bad ws_X1_bad wi_X1 wy_X1_bad) rfl rfl (by decide +kernel) ⟨Nat.le_of_ble_eq_true rfl, Nat.le_of_ble_eq_true rfl⟩ rfl hl.1 rfl (Nat.le_of_ble_eq_true rfl) dX1_has_20 ⟨Nat.le_of_ble_eq_true rfl, Nat.le_of_ble_eq_true rfl⟩ (fun r u H locs hp w => ?_)
      obtain ⟨hr9, hu⟩ := hp
      subst hr9
      rw [hu] at w
      refine lv_if_eq (tgt := 30) S.1 S.2.1 dX1_has_23 (by decide) (fun h23 => absurd h23 (by decide)) (fun h23 => ?_)
      refine lv_iconst (v := nI 0) S.1 S.2.1 dX1_has_26 (by decide) ?_
      refine lv_goto (tgt := 40) S.1 S.2.1 dX1_has_27 (by decide) ?_
      first
        | exact tw_iretY S hr hlk0 w (Or.inl ⟨Or.inl hbad, rfl⟩) dX1_has_40
        | exact tw_iretY S hr hlk0 w (Or.inl ⟨Or.inr hbad, rfl⟩) dX1_has_40
        | exact tw_iretY S hr hlk0 w (Or.inr ⟨a, b, ha, rfl, hb, rfl, rfl, rfl⟩) dX1_has_40
set_option maxHeartbeats 4000000 in
set_option maxRecDepth 100000 in
/-- remove(c, at) -/
theorem kX1_remove (l : Launch) (D : va_G) (cI cZ : ClassId) (x : Nat) (ad : Nat → Nat) (st : Nat → Nat → Nat) (sz : Nat) {v t : Int32} {T : Nat → Nat} {F : Nat → Nat → Bool} (hlk : ∀ a, a < 4 → tw_lkp st a T (F a)) (h9 : ∀ a, a < 4 → st 9 a ≤ 400) : Met l yX1_remove wsX1_remove ({ frames := 3, cells := 0, slots := 0, locals := 80 }) (va_Pc [.ref x, .int v, .int t] (fun U => U.heap.size = sz ∧ tw_YU D cI cZ x ad st U)) (va_Qi (fun r u => (tw_nc v ∧ u = tw_up st 13 0 1) ∨ ∃ a, a < 4 ∧ v = nI a ∧ (((∀ p, p < st 13 1 - 1 → F a p = true → t ≠ nI (tw_cn (F a) p)) ∧ tw_lkr st u a T (F a) 1) ∨ ∃ p, p < st 13 1 - 1 ∧ F a p = true ∧ t = nI (tw_cn (F a) p) ∧ ((st 9 a = 400 ∧ tw_lkr st u a T (F a) 2) ∨ (st 9 a ≠ 400 ∧ r = nI (st 9 a) ∧ ∃ s1, tw_lkr st s1 a T (F a) 0 ∧ u = tw_dn s1 a (2 * T (p + 1) + 1))))) (tw_YT D cI cZ x ad (va_A (tw_y cI cZ x ad st) sz)) (va_A (tw_y cI cZ x ad st) sz)) 0 0 (va_A (tw_y cI cZ x ad st) sz) := by
  refine Met.ofW (cc := cX1_remove) (maxL := 3) (ret := (some .int)) (by decide) rfl ?_
  intro p e s m args below meth cd s₁ B hml hv
  obtain ⟨rfl, hsz, hU⟩ := hv
  subst hsz
  have S : CallFix p m cd cX1_remove 3 s ([.ref x, .int v, .int t] : List Value).toArray tw_wall RX1 := ⟨B.exec, B.bytes, hml, findClass_of_methodNamed B.named, fun w h => atoms_spec (ws := wsX1_remove) B.pre w (List.mem_cons_of_mem _ h)⟩
  have hr := B.returns
  have hlk0 := B.notSynchronized
  have z : va_S (fun q => s.heap.size ≤ q) s.heap s.heap [] := va_S.rf
  have w := tw_Y0 hU
  have hA : ∀ q : Nat, s.heap.size ≤ q → va_A (tw_y cI cZ x ad st) s.heap.size q := fun q h => Or.inr h
  generalize va_A (tw_y cI cZ x ad st) s.heap.size = A at w hA ⊢
  have hl := lv_entry ([.ref x, .int v, .int t]) (n := 3) (Nat.le_of_ble_eq_true rfl)
  rw [lg_entry_eq]
  generalize (lg_sl ([.ref x, .int v, .int t]) ++ List.replicate (3 - (lg_sl ([.ref x, .int v, .int t])).length) Slot.unset).toArray = ls at hl ⊢
  have hl : lv_has ls 3 [(0, .ref x), (1, .int v), (2, .int t)] := hl
  refine lv_aload_n S.1 S.2.1 dX1_remove_0 rfl (lv_at hl 0 rfl) ?_
  refine lv_iload_n S.1 S.2.1 dX1_remove_1 rfl (lv_at hl 1 rfl) ?_
  refine tw_cst (n := 1) S w.2.2.2 hA (kX1_isCopy l _ (v := v)) (tw_gS wl_X1_67 wt_X1_isCopy wi_X1 wy_X1_isCopy) rfl rfl (by decide +kernel) ⟨Nat.le_of_ble_eq_true rfl, Nat.le_of_ble_eq_true rfl⟩ rfl hl.1 rfl (Nat.le_of_ble_eq_true rfl) dX1_remove_2 ⟨Nat.le_of_ble_eq_true rfl, Nat.le_of_ble_eq_true rfl⟩ (fun r H locs hp hk z9 => ?_)
  have w := w.kept hk z9
  refine lv_if_ne (tgt := 12) S.1 S.2.1 dX1_remove_5 (by decide) (fun h5 => ?_) (fun h5 => ?_)
  · obtain ⟨a, ha, rfl⟩ := hp.elim (fun g => g.2) (fun g => absurd g.1 h5)
    refine lv_iconst (v := nI 0) S.1 S.2.1 dX1_remove_12 (by decide) ?_
    refine tw_cyi (n := 1) S w hA (kX1_bad l D cI cZ x ad _ _ (b := 0) (by omega)) (tw_gV wl_X1_71 wn_X1_bad ws_X1_bad wi_X1 wy_X1_bad) rfl rfl (by decide +kernel) ⟨Nat.le_of_ble_eq_true rfl, Nat.le_of_ble_eq_true rfl⟩ rfl hl.1 rfl (Nat.le_of_ble_eq_true rfl) dX1_remove_13 ⟨Nat.le_of_ble_eq_true rfl, Nat.le_of_ble_eq_true rfl⟩ (fun r u H locs hp w => ?_)
    obtain ⟨hr9, hu⟩ := hp
    subst hr9
    rw [hu] at w
    refine lv_if_eq (tgt := 21) S.1 S.2.1 dX1_remove_16 (by decide) (fun h16 => ?_) (fun h16 => absurd (by decide) h16)
    refine lv_aload_n S.1 S.2.1 dX1_remove_21 rfl (lv_at hl 0 rfl) ?_
    refine lv_iload_n S.1 S.2.1 dX1_remove_22 rfl (lv_at hl 1 rfl) ?_
    refine tw_cyv (n := 1) S w hA (kX1_look l D cI cZ x ad _ _ ha (tw_lkp_b (hlk a ha))) (tw_gV wl_X1_75 wn_X1_look ws_X1_look wi_X1 wy_X1_look) rfl rfl (by decide +kernel) ⟨Nat.le_of_ble_eq_true rfl, Nat.le_of_ble_eq_true rfl⟩ rfl hl.1 rfl (Nat.le_of_ble_eq_true rfl) dX1_remove_23 ⟨Nat.le_of_ble_eq_true rfl, Nat.le_of_ble_eq_true rfl⟩ (fun s1 H locs hq w => ?_)
    have e33 : s1 13 3 = tw_cn (F a) (st 13 1 - 1) := hq.2.1
    have hL2 := (hlk a ha).1.2
    have hli := (hlk a ha).2.1
    have hord : ∀ p, p < st 13 1 - 1 → F a p = true → s1 11 (tw_cn (F a) p) = T (p + 1) := hq.2.2.1
    have ho : ∀ k y, k < 11 → s1 k y = st k y := fun k y h => (hq.2.2.2 k y (by omega) (by omega) (by omega)).trans (tw_up_k (by omega))
    refine lv_aload_n S.1 S.2.1 dX1_remove_26 rfl (lv_at hl 0 rfl) ?_
    refine lv_iload_n S.1 S.2.1 dX1_remove_27 rfl (lv_at hl 2 rfl) ?_
    refine lv_if_lt (tgt := 39) S.1 S.2.1 dX1_remove_28 (by decide) (fun h28 => ?_) (fun h28 => ?_)
    · have hno := tw_neg_no (f := F a) (m := st 13 1 - 1) (by omega) h28
      refine lv_iconst (v := nI 1) S.1 S.2.1 dX1_remove_39 (by decide) ?_
      refine lv_goto (tgt := 44) S.1 S.2.1 dX1_remove_40 (by decide) ?_
      refine tw_cyi (n := 1) S w hA (kX1_bad l D cI cZ x ad _ _ (b := 1) (by omega)) (tw_gV wl_X1_71 wn_X1_bad ws_X1_bad wi_X1 wy_X1_bad) rfl rfl (by decide +kernel) ⟨Nat.le_of_ble_eq_true rfl, Nat.le_of_ble_eq_true rfl⟩ rfl hl.1 rfl (Nat.le_of_ble_eq_true rfl) dX1_remove_44 ⟨Nat.le_of_ble_eq_true rfl, Nat.le_of_ble_eq_true rfl⟩ (fun r u H locs hp w => ?_)
      obtain ⟨hr9, hu⟩ := hp
      subst hr9
      rw [hu] at w
      refine lv_if_eq (tgt := 52) S.1 S.2.1 dX1_remove_47 (by decide) (fun h47 => absurd h47 (by decide)) (fun h47 => ?_)
      refine lv_iconst (v := nI 0) S.1 S.2.1 dX1_remove_50 (by decide) ?_
      exact tw_iretY S hr hlk0 w (Or.inr ⟨a, ha, rfl, Or.inl ⟨hno, tw_lkr_of hq⟩⟩) dX1_remove_51
    · refine lv_iload_n S.1 S.2.1 dX1_remove_31 rfl (lv_at hl 2 rfl) ?_
      refine lv_aload_n S.1 S.2.1 dX1_remove_32 rfl (lv_at hl 0 rfl) ?_
      refine yyg_long_ S w dX1_remove_33 ?_
      refine tw_t (show _ = nI (tw_cn (F a) (st 13 1 - 1)) from by rw [e33]) ?_
      refine lv_icmp_lt (tgt := 43) S.1 S.2.1 dX1_remove_36 (by decide) (fun h36 => ?_) (fun h36 => ?_)
      · obtain ⟨p, p1, p2, rfl⟩ := tw_yes (f := F a) (m := st 13 1 - 1) (by omega) h28 (Int32.not_le.mpr h36)
        have hcl := tw_cn_le (F a) p
        have hT := hli.2.2.1 (p + 1) (by omega)
        refine lv_iconst (v := nI 0) S.1 S.2.1 dX1_remove_43 (by decide) ?_
        refine tw_cyi (n := 1) S w hA (kX1_bad l D cI cZ x ad _ _ (b := 0) (by omega)) (tw_gV wl_X1_71 wn_X1_bad ws_X1_bad wi_X1 wy_X1_bad) rfl rfl (by decide +kernel) ⟨Nat.le_of_ble_eq_true rfl, Nat.le_of_ble_eq_true rfl⟩ rfl hl.1 rfl (Nat.le_of_ble_eq_true rfl) dX1_remove_44 ⟨Nat.le_of_ble_eq_true rfl, Nat.le_of_ble_eq_true rfl⟩ (fun r u H locs hp w => ?_)
        obtain ⟨hr9, hu⟩ := hp
        subst hr9
        rw [hu] at w
        refine lv_if_eq (tgt := 52) S.1 S.2.1 dX1_remove_47 (by decide) (fun h47 => ?_) (fun h47 => absurd (by decide) h47)
        refine lv_aload_n S.1 S.2.1 dX1_remove_52 rfl (lv_at hl 0 rfl) ?_
        refine yyg_made S w dX1_remove_53 ?_
        refine lv_iload_n S.1 S.2.1 dX1_remove_56 rfl (lv_at hl 1 rfl) ?_
        refine yyl_9 S w (by omega) dX1_remove_57 ?_
        refine tw_t (show _ = nI (st 9 a) from by rw [tw_up_k (by omega), ho 9 _ (by omega)]) ?_
        refine lv_sipush (v := nI 400) S.1 S.2.1 dX1_remove_58 (by decide) ?_
        refine lv_icmp_ne (tgt := 71) S.1 S.2.1 dX1_remove_61 (by decide) (fun h61 => ?_) (fun h61 => ?_)
        · have hmd : st 9 a ≠ 400 := fun g => h61 (by rw [g])
          refine lv_aload_n S.1 S.2.1 dX1_remove_71 rfl (lv_at hl 0 rfl) ?_
          refine lv_iload_n S.1 S.2.1 dX1_remove_72 rfl (lv_at hl 1 rfl) ?_
          refine lv_aload_n S.1 S.2.1 dX1_remove_73 rfl (lv_at hl 0 rfl) ?_
          refine yyg_order S w dX1_remove_74 ?_
          refine lv_iload_n S.1 S.2.1 dX1_remove_77 rfl (lv_at hl 2 rfl) ?_
          refine yyl_11 S w (by omega) dX1_remove_78 ?_
          refine tw_t (show _ = nI (T (p + 1)) from by rw [tw_up_k (by omega), hord p p1 p2]) ?_
          refine lv_ineg S.1 S.2.1 dX1_remove_79 ?_
          refine tw_t (tw_wh_o _).symm ?_
          have e9 : tw_up s1 13 0 0 9 a = st 9 a := by rw [tw_up_k (by omega), ho 9 _ (by omega)]
          refine tw_cyi (n := 2) S w hA (kX1_done l D cI cZ x ad _ _ (h := 2 * T (p + 1) + 1) ha (by rw [e9]; have := h9 a ha; omega)) (tw_gV wl_X1_82 wn_X1_done ws_X1_done wi_X1 wy_X1_done) rfl rfl (by decide +kernel) ⟨Nat.le_of_ble_eq_true rfl, Nat.le_of_ble_eq_true rfl⟩ rfl hl.1 rfl (Nat.le_of_ble_eq_true rfl) dX1_remove_80 ⟨Nat.le_of_ble_eq_true rfl, Nat.le_of_ble_eq_true rfl⟩ (fun r u H locs hp w => ?_)
          rw [e9] at hp
          obtain ⟨hr9, hu⟩ := hp
          subst hr9
          exact tw_iretY S hr hlk0 w (Or.inr ⟨a, ha, rfl, Or.inr ⟨p, p1, p2, rfl, Or.inr ⟨hmd, rfl, _, tw_lkr_of (c := 0) hq, hu⟩⟩⟩) dX1_remove_83
        · have hmd : st 9 a = 400 := (tw_eq (by have := h9 a ha; omega) (by omega)).mp h61
          refine lv_aload_n S.1 S.2.1 dX1_remove_64 rfl (lv_at hl 0 rfl) ?_
          refine lv_iconst (v := nI 2) S.1 S.2.1 dX1_remove_65 (by decide) ?_
          refine yyp_thrown S w dX1_remove_66 (fun H locs w => ?_)
          refine lv_iconst (v := nI 0) S.1 S.2.1 dX1_remove_69 (by decide) ?_
          exact tw_iretY S hr hlk0 w (Or.inr ⟨a, ha, rfl, Or.inr ⟨p, p1, p2, rfl, Or.inl ⟨hmd, tw_lkr_c (tw_lkr_of (c := 0) hq)⟩⟩⟩) dX1_remove_70
      · have hno := tw_no (f := F a) (m := st 13 1 - 1) (by omega) (Int32.not_lt.mp h36)
        refine lv_iconst (v := nI 1) S.1 S.2.1 dX1_remove_39 (by decide) ?_
        refine lv_goto (tgt := 44) S.1 S.2.1 dX1_remove_40 (by decide) ?_
        refine tw_cyi (n := 1) S w hA (kX1_bad l D cI cZ x ad _ _ (b := 1) (by omega)) (tw_gV wl_X1_71 wn_X1_bad ws_X1_bad wi_X1 wy_X1_bad) rfl rfl (by decide +kernel) ⟨Nat.le_of_ble_eq_true rfl, Nat.le_of_ble_eq_true rfl⟩ rfl hl.1 rfl (Nat.le_of_ble_eq_true rfl) dX1_remove_44 ⟨Nat.le_of_ble_eq_true rfl, Nat.le_of_ble_eq_true rfl⟩ (fun r u H locs hp w => ?_)
        obtain ⟨hr9, hu⟩ := hp
        subst hr9
        rw [hu] at w
        refine lv_if_eq (tgt := 52) S.1 S.2.1 dX1_remove_47 (by decide) (fun h47 => absurd h47 (by decide)) (fun h47 => ?_)
        refine lv_iconst (v := nI 0) S.1 S.2.1 dX1_remove_50 (by decide) ?_
        exact tw_iretY S hr hlk0 w (Or.inr ⟨a, ha, rfl, Or.inl ⟨hno, tw_lkr_of hq⟩⟩) dX1_remove_51
  · have hbad : tw_nc v := hp.elim (fun g => absurd (g.1.symm.trans h5) (by decide)) (fun g => g.2)
    refine lv_iconst (v := nI 1) S.1 S.2.1 dX1_remove_8 (by decide) ?_
    refine lv_goto (tgt := 13) S.1 S.2.1 dX1_remove_9 (by decide) ?_
    refine tw_cyi (n := 1) S w hA (kX1_bad l D cI cZ x ad _ _ (b := 1) (by omega)) (tw_gV wl_X1_71 wn_X1_bad ws_X1_bad wi_X1 wy_X1_bad) rfl rfl (by decide +kernel) ⟨Nat.le_of_ble_eq_true rfl, Nat.le_of_ble_eq_true rfl⟩ rfl hl.1 rfl (Nat.le_of_ble_eq_true rfl) dX1_remove_13 ⟨Nat.le_of_ble_eq_true rfl, Nat.le_of_ble_eq_true rfl⟩ (fun r u H locs hp w => ?_)
    obtain ⟨hr9, hu⟩ := hp
    subst hr9
    rw [hu] at w
    refine lv_if_eq (tgt := 21) S.1 S.2.1 dX1_remove_16 (by decide) (fun h16 => absurd h16 (by decide)) (fun h16 => ?_)
    refine lv_iconst (v := nI 0) S.1 S.2.1 dX1_remove_19 (by decide) ?_
    exact tw_iretY S hr hlk0 w (Or.inl ⟨hbad, rfl⟩) dX1_remove_20
