theorem tw_max {a b : Nat} (ha : a < 2147483648) (hb : b < 2147483648) : (if nI a < nI b then nI b else nI a) = nI (max a b) := by
  by_cases h : a < b
  · rw [if_pos ((tw_lt ha hb).mpr h), Nat.max_eq_right (Nat.le_of_lt h)]
  · rw [if_neg (fun q => h ((tw_lt ha hb).mp q)), Nat.max_eq_left (Nat.not_lt.mp h)]
set_option maxHeartbeats 4000000 in
set_option maxRecDepth 100000 in
/-- a letter comes to a text -/
theorem kX0_showLetter (l : Launch) (D : va_G) (cI cJ : ClassId) (x : Nat) (ad : Nat → Nat) (st : Nat → Nat → Nat) (sz : Nat) {a i : Nat} (hc : a < 4) (hi : i < 512) (h16 : st 5 i < 16) (h4 : st 4 i < 2147483648) (h7 : st 7 a < 2147483648) : Met l yX0_showLetter wsX0_showLetter ({ frames := 1, cells := 0, slots := 0, locals := 22 }) (va_Pc [.ref x, .int (nI a), .int (nI i)] (fun U => U.heap.size = sz ∧ tw_XU D cI cJ x ad st U)) (va_Qv (fun u => u = tw_up (tw_up (tw_up st 5 i (tw_on (st 5 i) a)) 8 a (st 8 a + 1)) 7 a (max (st 7 a) (st 4 i / 4))) (tw_XT D cI cJ x ad (va_A (tw_x cI cJ x ad st) sz)) (va_A (tw_x cI cJ x ad st) sz)) 0 0 (va_A (tw_x cI cJ x ad st) sz) := by
  refine Met.ofW (cc := cX0_showLetter) (maxL := 3) (ret := none) (by decide) rfl ?_
  intro p e s m args below meth cd s₁ B hml hv
  obtain ⟨rfl, hsz, hU⟩ := hv
  subst hsz
  have S : CallFix p m cd cX0_showLetter 3 s ([.ref x, .int (nI a), .int (nI i)] : List Value).toArray tw_wall RX0 := ⟨B.exec, B.bytes, hml, findClass_of_methodNamed B.named, fun w h => atoms_spec (ws := wsX0_showLetter) B.pre w (List.mem_cons_of_mem _ h)⟩
  have hr := B.returns
  have hlk := B.notSynchronized
  have z : va_S (fun q => s.heap.size ≤ q) s.heap s.heap [] := va_S.rf
  have w := tw_X0 hU
  have hA : ∀ q : Nat, s.heap.size ≤ q → va_A (tw_x cI cJ x ad st) s.heap.size q := fun q h => Or.inr h
  generalize va_A (tw_x cI cJ x ad st) s.heap.size = A at w hA ⊢
  have hl := lv_entry ([.ref x, .int (nI a), .int (nI i)]) (n := 3) (Nat.le_of_ble_eq_true rfl)
  rw [lg_entry_eq]
  generalize (lg_sl ([.ref x, .int (nI a), .int (nI i)]) ++ List.replicate (3 - (lg_sl ([.ref x, .int (nI a), .int (nI i)])).length) Slot.unset).toArray = ls at hl ⊢
  have hl : lv_has ls 3 [(0, .ref x), (1, .int (nI a)), (2, .int (nI i))] := hl
  refine lv_aload_n S.1 S.2.1 dX0_showLetter_0 rfl (lv_at hl 0 rfl) ?_
  refine xxg_shownIn S w dX0_showLetter_1 ?_
  refine lv_iload_n S.1 S.2.1 dX0_showLetter_4 rfl (lv_at hl 2 rfl) ?_
  refine lv_dup2_11 S.1 S.2.1 dX0_showLetter_5 rfl rfl ?_
  refine xxl_5 S w (by omega) dX0_showLetter_6 ?_
  refine lv_iconst (v := 1) S.1 S.2.1 dX0_showLetter_7 (by decide) ?_
  refine lv_iload_n S.1 S.2.1 dX0_showLetter_8 rfl (lv_at hl 1 rfl) ?_
  refine lv_ishl S.1 S.2.1 dX0_showLetter_9 ?_
  refine lv_ior S.1 S.2.1 dX0_showLetter_10 ?_
  refine tw_t (tw_on_i _ h16 _ hc) ?_
  refine xxs_5 S w (by omega)  dX0_showLetter_11 (fun H locs w => ?_)
  refine lv_aload_n S.1 S.2.1 dX0_showLetter_12 rfl (lv_at hl 0 rfl) ?_
  refine xxg_lengths S w dX0_showLetter_13 ?_
  refine lv_iload_n S.1 S.2.1 dX0_showLetter_16 rfl (lv_at hl 1 rfl) ?_
  refine lv_dup2_11 S.1 S.2.1 dX0_showLetter_17 rfl rfl ?_
  refine xxl_8 S w (by omega) dX0_showLetter_18 ?_
  refine tw_t (show _ = nI (st 8 a) from rfl) ?_
  refine lv_iconst (v := nI 1) S.1 S.2.1 dX0_showLetter_19 (by decide) ?_
  refine lv_iadd S.1 S.2.1 dX0_showLetter_20 ?_
  refine tw_t (nI_add _ _) ?_
  refine xxs_8 S w (by omega)  dX0_showLetter_21 (fun H locs w => ?_)
  refine lv_aload_n S.1 S.2.1 dX0_showLetter_22 rfl (lv_at hl 0 rfl) ?_
  refine xxg_greatest S w dX0_showLetter_23 ?_
  refine lv_iload_n S.1 S.2.1 dX0_showLetter_26 rfl (lv_at hl 1 rfl) ?_
  refine lv_aload_n S.1 S.2.1 dX0_showLetter_27 rfl (lv_at hl 0 rfl) ?_
  refine xxg_greatest S w dX0_showLetter_28 ?_
  refine lv_iload_n S.1 S.2.1 dX0_showLetter_31 rfl (lv_at hl 1 rfl) ?_
  refine xxl_7 S w (by omega) dX0_showLetter_32 ?_
  refine tw_t (show _ = nI (st 7 a) from rfl) ?_
  refine lv_aload_n S.1 S.2.1 dX0_showLetter_33 rfl (lv_at hl 0 rfl) ?_
  refine xxg_names S w dX0_showLetter_34 ?_
  refine lv_iload_n S.1 S.2.1 dX0_showLetter_37 rfl (lv_at hl 2 rfl) ?_
  refine xxl_4 S w (by omega) dX0_showLetter_38 ?_
  refine tw_t (show _ = nI (st 4 i) from rfl) ?_
  refine lv_iconst (v := nI 4) S.1 S.2.1 dX0_showLetter_39 (by decide) ?_
  refine lv_idiv S.1 S.2.1 dX0_showLetter_40 (by decide) ?_
  refine tw_t (pk_div (a := st 4 i) (d := 4) h4 (by decide) (by decide)) ?_
  refine va_mmax S.1 S.2.1 (S.2.2.1.trans hl.1.symm) S.2.2.2.1 (S.2.2.2.2 _ wl_X0_125) (S.2.2.2.2 _ wt_max) (S.2.2.2.2 _ wi_Math) (S.2.2.2.2 _ wy_max) (Nat.le_of_ble_eq_true rfl) (Nat.le_of_ble_eq_true rfl) (Nat.le_of_ble_eq_true rfl) (Nat.le_of_ble_eq_true rfl) dX0_showLetter_41 ?_
  refine tw_t (tw_max h7 (by omega)) ?_
  refine xxs_7 S w (by omega)  dX0_showLetter_44 (fun H locs w => ?_)
  exact tw_vret S hr hlk w rfl dX0_showLetter_45
set_option maxHeartbeats 4000000 in
set_option maxRecDepth 100000 in
/-- a letter is taken out of a text -/
theorem kX0_hideLetter (l : Launch) (D : va_G) (cI cJ : ClassId) (x : Nat) (ad : Nat → Nat) (st : Nat → Nat → Nat) (sz : Nat) {a i : Nat} (hc : a < 4) (hi : i < 512) (h16 : st 5 i < 16) (h8 : (st 5 i).testBit a = true → 1 ≤ st 8 a) : Met l yX0_hideLetter wsX0_hideLetter ({ frames := 1, cells := 0, slots := 0, locals := 22 }) (va_Pc [.ref x, .int (nI a), .int (nI i)] (fun U => U.heap.size = sz ∧ tw_XU D cI cJ x ad st U)) (va_Qv (fun u => u = if (st 5 i).testBit a = true then tw_up (tw_up st 5 i (tw_off (st 5 i) a)) 8 a (st 8 a - 1) else st) (tw_XT D cI cJ x ad (va_A (tw_x cI cJ x ad st) sz)) (va_A (tw_x cI cJ x ad st) sz)) 0 0 (va_A (tw_x cI cJ x ad st) sz) := by
  refine Met.ofW (cc := cX0_hideLetter) (maxL := 3) (ret := none) (by decide) rfl ?_
  intro p e s m args below meth cd s₁ B hml hv
  obtain ⟨rfl, hsz, hU⟩ := hv
  subst hsz
  have S : CallFix p m cd cX0_hideLetter 3 s ([.ref x, .int (nI a), .int (nI i)] : List Value).toArray tw_wall RX0 := ⟨B.exec, B.bytes, hml, findClass_of_methodNamed B.named, fun w h => atoms_spec (ws := wsX0_hideLetter) B.pre w (List.mem_cons_of_mem _ h)⟩
  have hr := B.returns
  have hlk := B.notSynchronized
  have z : va_S (fun q => s.heap.size ≤ q) s.heap s.heap [] := va_S.rf
  have w := tw_X0 hU
  have hA : ∀ q : Nat, s.heap.size ≤ q → va_A (tw_x cI cJ x ad st) s.heap.size q := fun q h => Or.inr h
  generalize va_A (tw_x cI cJ x ad st) s.heap.size = A at w hA ⊢
  have hl := lv_entry ([.ref x, .int (nI a), .int (nI i)]) (n := 3) (Nat.le_of_ble_eq_true rfl)
  rw [lg_entry_eq]
  generalize (lg_sl ([.ref x, .int (nI a), .int (nI i)]) ++ List.replicate (3 - (lg_sl ([.ref x, .int (nI a), .int (nI i)])).length) Slot.unset).toArray = ls at hl ⊢
  have hl : lv_has ls 3 [(0, .ref x), (1, .int (nI a)), (2, .int (nI i))] := hl
  refine lv_aload_n S.1 S.2.1 dX0_hideLetter_0 rfl (lv_at hl 0 rfl) ?_
  refine lv_iload_n S.1 S.2.1 dX0_hideLetter_1 rfl (lv_at hl 1 rfl) ?_
  refine lv_iload_n S.1 S.2.1 dX0_hideLetter_2 rfl (lv_at hl 2 rfl) ?_
  refine tw_cro (n := 2) S w w.2.2.2 hA (fun q h => h) (kX0_isShown l D cI cJ x ad st _ hc hi h16) (tw_gV wl_X0_110 wn_X0_isShown ws_X0_isShown wi_X0 wy_X0_isShown) rfl rfl (by decide +kernel) ⟨Nat.le_of_ble_eq_true rfl, Nat.le_of_ble_eq_true rfl⟩ rfl hl.1 rfl (Nat.le_of_ble_eq_true rfl) dX0_hideLetter_3 ⟨Nat.le_of_ble_eq_true rfl, Nat.le_of_ble_eq_true rfl⟩ (fun r H locs hp w _ => ?_)
  refine lv_if_eq (tgt := 33) S.1 S.2.1 dX0_hideLetter_6 (by decide) (fun h6 => ?_) (fun h6 => ?_)
  · have hf : (st 5 i).testBit a = false := hp.elim (fun g => absurd (g.1.symm.trans h6) (by decide)) (fun g => g.2)
    exact tw_vret S hr hlk w (by rw [hf]; rfl) dX0_hideLetter_33
  · have hf : (st 5 i).testBit a = true := hp.elim (fun g => g.2) (fun g => absurd g.1 h6)
    refine lv_aload_n S.1 S.2.1 dX0_hideLetter_9 rfl (lv_at hl 0 rfl) ?_
    refine xxg_shownIn S w dX0_hideLetter_10 ?_
    refine lv_iload_n S.1 S.2.1 dX0_hideLetter_13 rfl (lv_at hl 2 rfl) ?_
    refine lv_dup2_11 S.1 S.2.1 dX0_hideLetter_14 rfl rfl ?_
    refine xxl_5 S w (by omega) dX0_hideLetter_15 ?_
    refine lv_iconst (v := 1) S.1 S.2.1 dX0_hideLetter_16 (by decide) ?_
    refine lv_iload_n S.1 S.2.1 dX0_hideLetter_17 rfl (lv_at hl 1 rfl) ?_
    refine lv_ishl S.1 S.2.1 dX0_hideLetter_18 ?_
    refine lv_iconst (v := -1) S.1 S.2.1 dX0_hideLetter_19 (by decide) ?_
    refine lv_ixor S.1 S.2.1 dX0_hideLetter_20 ?_
    refine lv_iand S.1 S.2.1 dX0_hideLetter_21 ?_
    refine tw_t (tw_off_i _ h16 _ hc) ?_
    refine xxs_5 S w (by omega)  dX0_hideLetter_22 (fun H locs w => ?_)
    refine lv_aload_n S.1 S.2.1 dX0_hideLetter_23 rfl (lv_at hl 0 rfl) ?_
    refine xxg_lengths S w dX0_hideLetter_24 ?_
    refine lv_iload_n S.1 S.2.1 dX0_hideLetter_27 rfl (lv_at hl 1 rfl) ?_
    refine lv_dup2_11 S.1 S.2.1 dX0_hideLetter_28 rfl rfl ?_
    refine xxl_8 S w (by omega) dX0_hideLetter_29 ?_
    refine tw_t (show _ = nI (st 8 a) from rfl) ?_
    refine lv_iconst (v := nI 1) S.1 S.2.1 dX0_hideLetter_30 (by decide) ?_
    refine lv_isub S.1 S.2.1 dX0_hideLetter_31 ?_
    refine tw_t (pk_sub (h8 hf)) ?_
    refine xxs_8 S w (by omega)  dX0_hideLetter_32 (fun H locs w => ?_)
    exact tw_vret S hr hlk w (by rw [hf]; rfl) dX0_hideLetter_33
theorem tw_m1z {k : Nat} (h : nI k - 1 = -1) (hk : k < 2147483648) : k = 0 := by
  have h1 : nI k = nI 0 := by
    have h2 : nI k - 1 + 1 = (-1 : Int32) + 1 := by rw [h]
    rw [Int32.sub_add_cancel] at h2
    rw [h2]; decide
  exact (tw_eq hk (by decide)).mp h1
set_option maxHeartbeats 4000000 in
set_option maxRecDepth 100000 in
/-- a change comes to a copy -/
theorem kX0_receive (l : Launch) (D : va_G) (cI cJ : ClassId) (x : Nat) (ad : Nat → Nat) (st : Nat → Nat → Nat) (sz : Nat) {a i : Nat} (hc : a < 4) (hi : i < 512) (hm : st 0 i < 4) (hb2 : st 2 i < 2147483648) (ht : ∀ j, st 2 i = j + 1 → j < 512) (h16 : ∀ j, st 5 j < 16) (h4 : st 4 i < 2147483648) (h7 : st 7 a < 2147483648) (h8 : ∀ j, st 2 i = j + 1 → (st 5 j).testBit a = true → 1 ≤ st 8 a) : Met l yX0_receive wsX0_receive ({ frames := 2, cells := 0, slots := 0, locals := 44 }) (va_Pc [.ref x, .int (nI a), .int (nI i)] (fun U => U.heap.size = sz ∧ tw_XU D cI cJ x ad st U)) (va_Qv (fun u => u = tw_rcv st a i) (tw_XT D cI cJ x ad (va_A (tw_x cI cJ x ad st) sz)) (va_A (tw_x cI cJ x ad st) sz)) 0 0 (va_A (tw_x cI cJ x ad st) sz) := by
  refine Met.ofW (cc := cX0_receive) (maxL := 3) (ret := none) (by decide) rfl ?_
  intro p e s m args below meth cd s₁ B hml hv
  obtain ⟨rfl, hsz, hU⟩ := hv
  subst hsz
  have S : CallFix p m cd cX0_receive 3 s ([.ref x, .int (nI a), .int (nI i)] : List Value).toArray tw_wall RX0 := ⟨B.exec, B.bytes, hml, findClass_of_methodNamed B.named, fun w h => atoms_spec (ws := wsX0_receive) B.pre w (List.mem_cons_of_mem _ h)⟩
  have hr := B.returns
  have hlk := B.notSynchronized
  have z : va_S (fun q => s.heap.size ≤ q) s.heap s.heap [] := va_S.rf
  have w := tw_X0 hU
  have hA : ∀ q : Nat, s.heap.size ≤ q → va_A (tw_x cI cJ x ad st) s.heap.size q := fun q h => Or.inr h
  generalize va_A (tw_x cI cJ x ad st) s.heap.size = A at w hA ⊢
  have hl := lv_entry ([.ref x, .int (nI a), .int (nI i)]) (n := 3) (Nat.le_of_ble_eq_true rfl)
  rw [lg_entry_eq]
  generalize (lg_sl ([.ref x, .int (nI a), .int (nI i)]) ++ List.replicate (3 - (lg_sl ([.ref x, .int (nI a), .int (nI i)])).length) Slot.unset).toArray = ls at hl ⊢
  have hl : lv_has ls 3 [(0, .ref x), (1, .int (nI a)), (2, .int (nI i))] := hl
  refine lv_aload_n S.1 S.2.1 dX0_receive_0 rfl (lv_at hl 0 rfl) ?_
  refine xxg_known S w dX0_receive_1 ?_
  refine lv_iload_n S.1 S.2.1 dX0_receive_4 rfl (lv_at hl 1 rfl) ?_
  refine xxr_12 S w (by omega) dX0_receive_5 ?_
  refine lv_aload_n S.1 S.2.1 dX0_receive_6 rfl (lv_at hl 0 rfl) ?_
  refine xxg_maker S w dX0_receive_7 ?_
  refine lv_iload_n S.1 S.2.1 dX0_receive_10 rfl (lv_at hl 2 rfl) ?_
  refine xxl_0 S w (by omega) dX0_receive_11 ?_
  refine lv_aload_n S.1 S.2.1 dX0_receive_12 rfl (lv_at hl 0 rfl) ?_
  refine xxg_number S w dX0_receive_13 ?_
  refine lv_iload_n S.1 S.2.1 dX0_receive_16 rfl (lv_at hl 2 rfl) ?_
  refine xxl_1 S w (by omega) dX0_receive_17 ?_
  refine lv_iconst (v := nI 1) S.1 S.2.1 dX0_receive_18 (by decide) ?_
  refine lv_iadd S.1 S.2.1 dX0_receive_19 ?_
  refine tw_t (nI_add _ _) ?_
  refine xxs_24 S w (by omega) (by omega) dX0_receive_20 (fun H locs w => ?_)
  refine lv_aload_n S.1 S.2.1 dX0_receive_21 rfl (lv_at hl 0 rfl) ?_
  refine xxg_taken S w dX0_receive_22 ?_
  refine lv_iload_n S.1 S.2.1 dX0_receive_25 rfl (lv_at hl 2 rfl) ?_
  refine xxl_2 S w (by omega) dX0_receive_26 ?_
  refine tw_t (show _ = nI (st 2 i) - 1 from by rw [tw_up_k (by omega)]) ?_
  refine lv_iconst (v := -1) S.1 S.2.1 dX0_receive_27 (by decide) ?_
  refine lv_icmp_ne (tgt := 40) S.1 S.2.1 dX0_receive_28 (by decide) (fun h28 => ?_) (fun h28 => ?_)
  · have h2 : st 2 i ≠ 0 := fun g => h28 (by rw [g]; decide)
    obtain ⟨j, hj⟩ : ∃ j, st 2 i = j + 1 := ⟨st 2 i - 1, by omega⟩
    refine lv_aload_n S.1 S.2.1 dX0_receive_40 rfl (lv_at hl 0 rfl) ?_
    refine lv_iload_n S.1 S.2.1 dX0_receive_41 rfl (lv_at hl 1 rfl) ?_
    refine lv_aload_n S.1 S.2.1 dX0_receive_42 rfl (lv_at hl 0 rfl) ?_
    refine xxg_taken S w dX0_receive_43 ?_
    refine lv_iload_n S.1 S.2.1 dX0_receive_46 rfl (lv_at hl 2 rfl) ?_
    refine xxl_2 S w (by omega) dX0_receive_47 ?_
    refine tw_t (show _ = nI j from by rw [tw_up_k (by omega), hj]; exact nI_pred j) ?_
    refine tw_cwv (n := 2) S w hA (kX0_hideLetter l D cI cJ x ad (tw_up st (24 + a) (st 0 i) (st 1 i + 1)) _ (i := j) hc (ht j hj) (by rw [tw_up_k (by omega)]; exact h16 j) (by rw [tw_up_k (by omega), tw_up_k (by omega)]; exact h8 j hj)) (tw_gV wl_X0_122 wn_X0_hideLetter ws_X0_hideLetter wi_X0 wy_X0_hideLetter) rfl rfl (by decide +kernel) ⟨Nat.le_of_ble_eq_true rfl, Nat.le_of_ble_eq_true rfl⟩ rfl hl.1 rfl (Nat.le_of_ble_eq_true rfl) dX0_receive_48 ⟨Nat.le_of_ble_eq_true rfl, Nat.le_of_ble_eq_true rfl⟩ (fun u H locs hp w => ?_)
    first
      | exact tw_vret S hr hlk w (by rw [hp]; unfold tw_rcv; rw [if_pos h2, tw_up_k (k := 24 + a) (by omega), tw_up_k (k := 24 + a) (by omega), tw_up_k (k := 24 + a) (by omega), tw_up_k (k := 24 + a) (by omega)]) dX0_receive_51
      | exact tw_vret S hr hlk w (by rw [hp]; unfold tw_rcv; rw [if_neg h2, show st 2 i - 1 = j by omega, tw_up_k (k := 24 + a) (by omega), tw_up_k (k := 24 + a) (by omega)]) dX0_receive_51
  · have h2 : st 2 i = 0 := tw_m1z h28 hb2
    refine lv_aload_n S.1 S.2.1 dX0_receive_31 rfl (lv_at hl 0 rfl) ?_
    refine lv_iload_n S.1 S.2.1 dX0_receive_32 rfl (lv_at hl 1 rfl) ?_
    refine lv_iload_n S.1 S.2.1 dX0_receive_33 rfl (lv_at hl 2 rfl) ?_
    refine tw_cwv (n := 2) S w hA (kX0_showLetter l D cI cJ x ad (tw_up st (24 + a) (st 0 i) (st 1 i + 1)) _ hc hi (by rw [tw_up_k (by omega)]; exact h16 i) (by rw [tw_up_k (by omega)]; exact h4) (by rw [tw_up_k (by omega)]; exact h7)) (tw_gV wl_X0_119 wn_X0_showLetter ws_X0_showLetter wi_X0 wy_X0_showLetter) rfl rfl (by decide +kernel) ⟨Nat.le_of_ble_eq_true rfl, Nat.le_of_ble_eq_true rfl⟩ rfl hl.1 rfl (Nat.le_of_ble_eq_true rfl) dX0_receive_34 ⟨Nat.le_of_ble_eq_true rfl, Nat.le_of_ble_eq_true rfl⟩ (fun u H locs hp w => ?_)
    refine lv_goto (tgt := 51) S.1 S.2.1 dX0_receive_37 (by decide) ?_
    first
      | exact tw_vret S hr hlk w (by rw [hp]; unfold tw_rcv; rw [if_pos h2, tw_up_k (k := 24 + a) (by omega), tw_up_k (k := 24 + a) (by omega), tw_up_k (k := 24 + a) (by omega), tw_up_k (k := 24 + a) (by omega)]) dX0_receive_51
      | exact tw_vret S hr hlk w (by rw [hp]; unfold tw_rcv; rw [if_neg h2, show st 2 i - 1 = j by omega, tw_up_k (k := 24 + a) (by omega), tw_up_k (k := 24 + a) (by omega)]) dX0_receive_51
