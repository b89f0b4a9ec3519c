set_option maxHeartbeats 4000000 in
set_option maxRecDepth 100000 in
/-- remove(c, at) -/
theorem kX0_remove (l : Launch) (D : va_G) (cI cJ : ClassId) (x : Nat) (ad : Nat → Nat) (st : Nat → Nat → Nat) (sz : Nat) (hlt : l.stackTraces = false) {v t : Int32} {md : Nat → Nat} (hci : tw_ci md st) (hcc : ∀ c, c < 4 → st (24 + c) c = md c) (hnc : st 9 0 ≤ 512) (hn4 : ∀ j, st 4 j < 2147483648) : vx_Met l yX0_remove wsX0_remove ({ frames := 9, cells := 4, slots := 24, locals := 150 }) (va_Pc [.ref x, .int v, .int t] (fun U => U.heap.size = sz ∧ tw_Z (fun q => sz ≤ q) U ∧ tw_XU D cI cJ x ad st U)) (va_Qi (fun r u => tw_okRem st v t r u) (tw_XT D cI cJ x ad (va_A (tw_x cI cJ x ad st) sz)) (va_A (tw_x cI cJ x ad st) sz)) (tw_XC (tw_pxRem st v t) sz) 4 24 (va_A (tw_x cI cJ x ad st) sz) := by
  refine vx_ofW (cc := cX0_remove) (maxL := 5) (ret := (some .int)) (by decide) rfl ?_
  intro p e s m args below meth cd s₁ B hml ht hv
  obtain ⟨rfl, hsz, Z, hU⟩ := hv
  subst hsz
  have S : CallFix p m cd cX0_remove 5 s ([.ref x, .int v, .int t] : List Value).toArray tw_wall RX0 := ⟨B.exec, B.bytes, hml, findClass_of_methodNamed B.named, fun w h => atoms_spec (ws := wsX0_remove) B.pre w (List.mem_cons_of_mem _ h)⟩
  have hr := B.returns
  have hlk := B.notSynchronized
  have z : va_S (fun q => s.heap.size ≤ q) s.heap s.heap [] := va_S.rf
  have w := tw_X0 hU
  have hA : ∀ q : Nat, s.heap.size ≤ q → va_A (tw_x cI cJ x ad st) s.heap.size q := fun q h => Or.inr h
  generalize va_A (tw_x cI cJ x ad st) s.heap.size = A at w hA ⊢
  have hl := lv_entry ([.ref x, .int v, .int t]) (n := 5) (Nat.le_of_ble_eq_true rfl)
  rw [lg_entry_eq]
  generalize (lg_sl ([.ref x, .int v, .int t]) ++ List.replicate (5 - (lg_sl ([.ref x, .int v, .int t])).length) Slot.unset).toArray = ls at hl ⊢
  have hl : lv_has ls 5 [(0, .ref x), (1, .int v), (2, .int t)] := hl
  obtain ⟨bl, bo, b5, bk, b8, bi, bw, bs⟩ := tw_bd_of hci hnc
  refine lv_iload_n S.1 S.2.1 dX0_remove_0 rfl (lv_at hl 1 rfl) ?_
  refine tw_chk (n := 1) S ht hlk Z z hA (kX0_checkCopy l _ hlt (v := v)) (tw_gS wl_X0_55 wt_X0_checkCopy wi_X0 wy_X0_checkCopy) rfl rfl (by decide +kernel) ⟨Nat.le_of_ble_eq_true rfl, Nat.le_of_ble_eq_true rfl⟩ rfl hl.1 rfl (Nat.le_of_ble_eq_true rfl) dX0_remove_1 ⟨Nat.le_of_ble_eq_true rfl, Nat.le_of_ble_eq_true rfl⟩ (Nat.le_of_ble_eq_true rfl) (Nat.le_of_ble_eq_true rfl) (fun u h => Or.inl ⟨h.1, Or.inl h.2⟩) (fun H locs hp hk z => ?_)
  have w := w.kept hk (tw_mono z hA)
  obtain ⟨a, ha, rfl⟩ := tw_copy hp
  refine lv_aload_n S.1 S.2.1 dX0_remove_4 rfl (lv_at hl 0 rfl) ?_
  refine lv_iload_n S.1 S.2.1 dX0_remove_5 rfl (lv_at hl 1 rfl) ?_
  refine lv_iload_n S.1 S.2.1 dX0_remove_6 rfl (lv_at hl 2 rfl) ?_
  refine tw_cro (n := 2) S w z (fun q h => h) hA (kX0_placeOf l D cI cJ x ad st _ (t := t) ha bl bo b5) (tw_gV wl_X0_66 wn_X0_placeOf ws_X0_placeOf wi_X0 wy_X0_placeOf) rfl rfl (by decide +kernel) ⟨Nat.le_of_ble_eq_true rfl, Nat.le_of_ble_eq_true rfl⟩ rfl hl.1 rfl (Nat.le_of_ble_eq_true rfl) dX0_remove_7 ⟨Nat.le_of_ble_eq_true rfl, Nat.le_of_ble_eq_true rfl⟩ (fun r H locs hp w z => ?_)
  refine lv_istore_n S.1 S.2.1 dX0_remove_10 rfl hl (by decide) rfl (fun ls hl => ?_)
  refine lv_iload_n S.1 S.2.1 dX0_remove_11 rfl (lv_at hl 0 rfl) ?_
  refine lv_iconst (v := -1) S.1 S.2.1 dX0_remove_12 (by decide) ?_
  refine lv_icmp_ne (tgt := 26) S.1 S.2.1 dX0_remove_13 (by decide) (fun h13 => ?_) (fun h13 => ?_)
  · rcases hp with ⟨q, q1, q2, q3, rfl⟩ | ⟨g, -⟩
    rotate_left
    · exact absurd g h13
    refine lv_aload_n S.1 S.2.1 dX0_remove_26 rfl (lv_at hl 1 rfl) ?_
    refine lv_iload_n S.1 S.2.1 dX0_remove_27 rfl (lv_at hl 2 rfl) ?_
    refine tw_chv (n := 1) S ht hlk w hA Z z hA (kX0_checkRoom l D cI cJ x ad st _ hlt ha (by have := bk a a ha ha; omega) (by omega)) (tw_gV wl_X0_63 wn_X0_checkRoom ws_X0_checkRoom wi_X0 wy_X0_checkRoom) rfl rfl (by decide +kernel) ⟨Nat.le_of_ble_eq_true rfl, Nat.le_of_ble_eq_true rfl⟩ rfl hl.1 rfl (Nat.le_of_ble_eq_true rfl) dX0_remove_28 ⟨Nat.le_of_ble_eq_true rfl, Nat.le_of_ble_eq_true rfl⟩ (Nat.le_of_ble_eq_true rfl) (Nat.le_of_ble_eq_true rfl) (fun u h => Or.inr ⟨h.1, a, q, ha, rfl, q1, q2, q3, h.2⟩) (fun H locs hp w z => ?_)
    obtain ⟨hr1, hr2⟩ := hp
    refine lv_aload_n S.1 S.2.1 dX0_remove_31 rfl (lv_at hl 1 rfl) ?_
    refine lv_iload_n S.1 S.2.1 dX0_remove_32 rfl (lv_at hl 2 rfl) ?_
    refine lv_aload_n S.1 S.2.1 dX0_remove_33 rfl (lv_at hl 1 rfl) ?_
    refine xxg_order S w dX0_remove_34 ?_
    refine lv_iload_n S.1 S.2.1 dX0_remove_37 rfl (lv_at hl 0 rfl) ?_
    refine xxl_6 S w (by omega) dX0_remove_38 ?_
    refine tw_t (nI_pred (st 6 q)).symm ?_
    refine tw_cwi (n := 2) S w hA (kX0_addChange l D cI cJ x ad st _ (t := st 6 q + 1) ha hr2 hr1) (tw_gV wl_X0_70 wn_X0_addChange ws_X0_addChange wi_X0 wy_X0_addChange) rfl rfl (by decide +kernel) ⟨Nat.le_of_ble_eq_true rfl, Nat.le_of_ble_eq_true rfl⟩ rfl hl.1 rfl (Nat.le_of_ble_eq_true rfl) dX0_remove_39 ⟨Nat.le_of_ble_eq_true rfl, Nat.le_of_ble_eq_true rfl⟩ (fun r u H locs hp w => ?_)
    obtain ⟨rfl, rfl⟩ := hp
    refine lv_istore S.1 S.2.1 dX0_remove_42 hl (by decide) rfl (fun ls hl => ?_)
    refine lv_aload_n S.1 S.2.1 dX0_remove_44 rfl (lv_at hl 2 rfl) ?_
    refine lv_iload_n S.1 S.2.1 dX0_remove_45 rfl (lv_at hl 3 rfl) ?_
    refine lv_iload S.1 S.2.1 dX0_remove_46 (lv_at hl 0 rfl) ?_
    refine tw_cwv (n := 2) S w hA (kX0_receive l D cI cJ x ad (tw_add st a (st 6 q + 1)) _ ha hr2 (by rw [tw_add_0 ha]; exact ha) (by rw [tw_add_2 ha]; have := bo q q1; omega) (fun j hj => by rw [tw_add_2 ha] at hj; have := bo q q1; omega) (fun j => by rw [tw_add_o (by omega) ha]; exact b5 j) (by rw [tw_add_o (by omega) ha]; exact hn4 _) (by rw [tw_add_o (by omega) ha]; have := (b8 a ha).2; omega) (fun j _ hb => by rw [tw_add_o (by omega) ha] at hb; rw [tw_add_o (by omega) ha]; exact bs a j ha hb)) (tw_gV wl_X0_76 wn_X0_receive ws_X0_receive wi_X0 wy_X0_receive) rfl rfl (by decide +kernel) ⟨Nat.le_of_ble_eq_true rfl, Nat.le_of_ble_eq_true rfl⟩ rfl hl.1 rfl (Nat.le_of_ble_eq_true rfl) dX0_remove_48 ⟨Nat.le_of_ble_eq_true rfl, Nat.le_of_ble_eq_true rfl⟩ (fun u H locs hp w => ?_)
    subst hp
    refine lv_aload_n S.1 S.2.1 dX0_remove_51 rfl (lv_at hl 2 rfl) ?_
    refine xxg_number S w dX0_remove_52 ?_
    refine lv_iload S.1 S.2.1 dX0_remove_55 (lv_at hl 0 rfl) ?_
    refine xxl_1 S w (by omega) dX0_remove_57 ?_
    refine tw_t (show _ = nI (st (24 + a) a) from by rw [tw_rcv_o (by omega), tw_add_1 ha]) ?_
    refine vx_ret ?_
    refine W.widen (k := 4) (n := 24) (by omega) (by omega) ?_
    exact tw_iret S hr hlk w ⟨a, q, ha, rfl, q1, q2, q3, hr1, hr2, rfl, rfl⟩ dX0_remove_58
  · rcases hp with ⟨q, q1, q2, q3, rfl⟩ | ⟨g, g2⟩
    · exact absurd h13 (tw_nm1 (by omega))
    exact tw_throwA S hlt ht hlk Z Z.2.2.2.2.2.1 z hl.1 (Or.inl ⟨rfl, Or.inr ⟨a, ha, rfl, g2⟩⟩) hA dX0_remove_16 dX0_remove_19 dX0_remove_20 dX0_remove_22 dX0_remove_25 (Nat.le_of_ble_eq_true rfl) (Nat.le_of_ble_eq_true rfl) (Nat.le_of_ble_eq_true rfl) (Nat.le_of_ble_eq_true rfl) (Nat.le_of_ble_eq_true rfl) (Nat.le_of_ble_eq_true rfl)
set_option maxHeartbeats 4000000 in
set_option maxRecDepth 100000 in
/-- bring(from, k, to) -/
theorem kX0_bring (l : Launch) (D : va_G) (cI cJ : ClassId) (x : Nat) (ad : Nat → Nat) (st : Nat → Nat → Nat) (sz : Nat) (hlt : l.stackTraces = false) {v t w0 : Int32} {md : Nat → Nat} (hci : tw_ci md st) (hcc : ∀ c, c < 4 → st (24 + c) c = md c) (hnc : st 9 0 ≤ 512) (hn4 : ∀ j, st 4 j < 2147483648) : vx_Met l yX0_bring wsX0_bring ({ frames := 9, cells := 4, slots := 24, locals := 150 }) (va_Pc [.ref x, .int v, .int t, .int w0] (fun U => U.heap.size = sz ∧ tw_Z (fun q => sz ≤ q) U ∧ tw_XU D cI cJ x ad st U)) (va_Qv (fun u => tw_okBr st v t w0 u) (tw_XT D cI cJ x ad (va_A (tw_x cI cJ x ad st) sz)) (va_A (tw_x cI cJ x ad st) sz)) (tw_XC (tw_pxBr st v t w0) sz) 4 24 (va_A (tw_x cI cJ x ad st) sz) := by
  refine vx_ofW (cc := cX0_bring) (maxL := 5) (ret := none) (by decide) rfl ?_
  intro p e s m args below meth cd s₁ B hml ht hv
  obtain ⟨rfl, hsz, Z, hU⟩ := hv
  subst hsz
  have S : CallFix p m cd cX0_bring 5 s ([.ref x, .int v, .int t, .int w0] : List Value).toArray tw_wall RX0 := ⟨B.exec, B.bytes, hml, findClass_of_methodNamed B.named, fun w h => atoms_spec (ws := wsX0_bring) B.pre w (List.mem_cons_of_mem _ h)⟩
  have hr := B.returns
  have hlk := B.notSynchronized
  have z : va_S (fun q => s.heap.size ≤ q) s.heap s.heap [] := va_S.rf
  have w := tw_X0 hU
  have hA : ∀ q : Nat, s.heap.size ≤ q → va_A (tw_x cI cJ x ad st) s.heap.size q := fun q h => Or.inr h
  generalize va_A (tw_x cI cJ x ad st) s.heap.size = A at w hA ⊢
  have hl := lv_entry ([.ref x, .int v, .int t, .int w0]) (n := 5) (Nat.le_of_ble_eq_true rfl)
  rw [lg_entry_eq]
  generalize (lg_sl ([.ref x, .int v, .int t, .int w0]) ++ List.replicate (5 - (lg_sl ([.ref x, .int v, .int t, .int w0])).length) Slot.unset).toArray = ls at hl ⊢
  have hl : lv_has ls 5 [(0, .ref x), (1, .int v), (2, .int t), (3, .int w0)] := hl
  obtain ⟨bl, bo, b5, bk, b8, bi, bw, bs⟩ := tw_bd_of hci hnc
  refine lv_iload_n S.1 S.2.1 dX0_bring_0 rfl (lv_at hl 1 rfl) ?_
  refine tw_chk (n := 1) S ht hlk Z z hA (kX0_checkCopy l _ hlt (v := v)) (tw_gS wl_X0_55 wt_X0_checkCopy wi_X0 wy_X0_checkCopy) rfl rfl (by decide +kernel) ⟨Nat.le_of_ble_eq_true rfl, Nat.le_of_ble_eq_true rfl⟩ rfl hl.1 rfl (Nat.le_of_ble_eq_true rfl) dX0_bring_1 ⟨Nat.le_of_ble_eq_true rfl, Nat.le_of_ble_eq_true rfl⟩ (Nat.le_of_ble_eq_true rfl) (Nat.le_of_ble_eq_true rfl) (fun u h => Or.inl ⟨h.1, Or.inl h.2⟩) (fun H locs hp hk z => ?_)
  have w := w.kept hk (tw_mono z hA)
  obtain ⟨a, ha, rfl⟩ := tw_copy hp
  refine lv_iload_n S.1 S.2.1 dX0_bring_4 rfl (lv_at hl 3 rfl) ?_
  refine tw_chk (n := 1) S ht hlk Z z hA (kX0_checkCopy l _ hlt (v := w0)) (tw_gS wl_X0_55 wt_X0_checkCopy wi_X0 wy_X0_checkCopy) rfl rfl (by decide +kernel) ⟨Nat.le_of_ble_eq_true rfl, Nat.le_of_ble_eq_true rfl⟩ rfl hl.1 rfl (Nat.le_of_ble_eq_true rfl) dX0_bring_5 ⟨Nat.le_of_ble_eq_true rfl, Nat.le_of_ble_eq_true rfl⟩ (Nat.le_of_ble_eq_true rfl) (Nat.le_of_ble_eq_true rfl) (fun u h => Or.inl ⟨h.1, Or.inr (Or.inl h.2)⟩) (fun H locs hp hk z => ?_)
  have w := w.kept hk (tw_mono z hA)
  obtain ⟨b, hb, rfl⟩ := tw_copy hp
  refine lv_iload_n S.1 S.2.1 dX0_bring_8 rfl (lv_at hl 1 rfl) ?_
  refine lv_iload_n S.1 S.2.1 dX0_bring_9 rfl (lv_at hl 3 rfl) ?_
  refine lv_icmp_ne (tgt := 23) S.1 S.2.1 dX0_bring_10 (by decide) (fun h10 => ?_) (fun h10 => ?_)
  · have hab : a ≠ b := fun q => h10 (by rw [q])
    refine lv_iload_n S.1 S.2.1 dX0_bring_23 rfl (lv_at hl 2 rfl) ?_
    refine lv_aload_n S.1 S.2.1 dX0_bring_24 rfl (lv_at hl 0 rfl) ?_
    refine xxg_known S w dX0_bring_25 ?_
    refine lv_iload_n S.1 S.2.1 dX0_bring_28 rfl (lv_at hl 1 rfl) ?_
    refine xxr_12 S w (by omega) dX0_bring_29 ?_
    refine lv_iload_n S.1 S.2.1 dX0_bring_30 rfl (lv_at hl 1 rfl) ?_
    refine xxl_24 S w (by omega) (by omega) dX0_bring_31 ?_
    refine lv_iconst (v := nI 1) S.1 S.2.1 dX0_bring_32 (by decide) ?_
    refine lv_isub S.1 S.2.1 dX0_bring_33 ?_
    refine tw_chk (n := 2) S ht hlk Z z hA (kX0_checkUpTo l _ hlt (v := t) (b := nI (st (24 + a) a) - nI 1)) (tw_gS wl_X0_59 wt_X0_checkUpTo wi_X0 wy_X0_checkUpTo) rfl rfl (by decide +kernel) ⟨Nat.le_of_ble_eq_true rfl, Nat.le_of_ble_eq_true rfl⟩ rfl hl.1 rfl (Nat.le_of_ble_eq_true rfl) dX0_bring_34 ⟨Nat.le_of_ble_eq_true rfl, Nat.le_of_ble_eq_true rfl⟩ (Nat.le_of_ble_eq_true rfl) (Nat.le_of_ble_eq_true rfl) (fun u h => Or.inl ⟨h.1, Or.inr (Or.inr (Or.inr ⟨a, ha, rfl, h.2⟩))⟩) (fun H locs hp hk z => ?_)
    have w := w.kept hk (tw_mono z hA)
    have ba := bk a a ha ha
    obtain ⟨k, hk1, rfl⟩ := tw_m1le (by omega) hp
    have hi := bw a k ha (by rw [← hcc a ha]; exact hk1)
    obtain ⟨i1, i2, i3, i4, i5, i6⟩ := bi _ hi
    refine lv_aload_n S.1 S.2.1 dX0_bring_37 rfl (lv_at hl 0 rfl) ?_
    refine xxg_own S w dX0_bring_38 ?_
    refine lv_iload_n S.1 S.2.1 dX0_bring_41 rfl (lv_at hl 1 rfl) ?_
    refine xxr_11 S w (by omega) dX0_bring_42 ?_
    refine lv_iload_n S.1 S.2.1 dX0_bring_43 rfl (lv_at hl 2 rfl) ?_
    refine xxl_20 S w (by omega) (by omega) dX0_bring_44 ?_
    refine lv_istore S.1 S.2.1 dX0_bring_45 hl (by decide) rfl (fun ls hl => ?_)
    refine lv_aload_n S.1 S.2.1 dX0_bring_47 rfl (lv_at hl 1 rfl) ?_
    refine lv_iload_n S.1 S.2.1 dX0_bring_48 rfl (lv_at hl 4 rfl) ?_
    refine lv_iload S.1 S.2.1 dX0_bring_49 (lv_at hl 0 rfl) ?_
    refine tw_cro (n := 2) S w z (fun q h => h) hA (kX0_isIn l D cI cJ x ad st _ (i := (st (20 + a) k)) hb i1 i2 (by omega) (by have := bk b _ hb i2; omega)) (tw_gV wl_X0_88 wn_X0_isIn ws_X0_isIn wi_X0 wy_X0_isIn) rfl rfl (by decide +kernel) ⟨Nat.le_of_ble_eq_true rfl, Nat.le_of_ble_eq_true rfl⟩ rfl hl.1 rfl (Nat.le_of_ble_eq_true rfl) dX0_bring_51 ⟨Nat.le_of_ble_eq_true rfl, Nat.le_of_ble_eq_true rfl⟩ (fun r H locs hp w z => ?_)
    refine lv_if_eq (tgt := 58) S.1 S.2.1 dX0_bring_54 (by decide) (fun h54 => ?_) (fun h54 => ?_)
    · have hno : ¬ tw_has st b (st (20 + a) k) := hp.elim (fun g => absurd (g.1.symm.trans h54) (by decide)) (fun g => g.2)
      refine lv_aload_n S.1 S.2.1 dX0_bring_58 rfl (lv_at hl 1 rfl) ?_
      refine lv_iload_n S.1 S.2.1 dX0_bring_59 rfl (lv_at hl 4 rfl) ?_
      refine lv_iload S.1 S.2.1 dX0_bring_60 (lv_at hl 0 rfl) ?_
      refine tw_cro (n := 2) S w z (fun q h => h) hA (kX0_canCome l D cI cJ x ad st _ (i := (st (20 + a) k)) hb i1 i6 (fun j hj => by have := bk b j hb hj; omega)) (tw_gV wl_X0_92 wn_X0_canCome ws_X0_canCome wi_X0 wy_X0_canCome) rfl rfl (by decide +kernel) ⟨Nat.le_of_ble_eq_true rfl, Nat.le_of_ble_eq_true rfl⟩ rfl hl.1 rfl (Nat.le_of_ble_eq_true rfl) dX0_bring_62 ⟨Nat.le_of_ble_eq_true rfl, Nat.le_of_ble_eq_true rfl⟩ (fun r H locs hp w z => ?_)
      refine lv_if_ne (tgt := 78) S.1 S.2.1 dX0_bring_65 (by decide) (fun h65 => ?_) (fun h65 => ?_)
      · have hcan : ∀ j, j < 4 → st (16 + j) (st (20 + a) k) ≤ st (24 + b) j := hp.elim (fun g => g.2) (fun g => absurd g.1 h65)
        refine lv_aload_n S.1 S.2.1 dX0_bring_78 rfl (lv_at hl 1 rfl) ?_
        refine lv_iload_n S.1 S.2.1 dX0_bring_79 rfl (lv_at hl 4 rfl) ?_
        refine lv_iload S.1 S.2.1 dX0_bring_80 (lv_at hl 0 rfl) ?_
        refine tw_cwv (n := 2) S w hA (kX0_receive l D cI cJ x ad st _ (i := (st (20 + a) k)) hb i1 i2 i5 i4 b5 (hn4 _) (by have := (b8 b hb).2; omega) (fun j _ hb2 => bs b j hb hb2)) (tw_gV wl_X0_76 wn_X0_receive ws_X0_receive wi_X0 wy_X0_receive) rfl rfl (by decide +kernel) ⟨Nat.le_of_ble_eq_true rfl, Nat.le_of_ble_eq_true rfl⟩ rfl hl.1 rfl (Nat.le_of_ble_eq_true rfl) dX0_bring_82 ⟨Nat.le_of_ble_eq_true rfl, Nat.le_of_ble_eq_true rfl⟩ (fun u H locs hp w => ?_)
        refine vx_ret ?_
        refine W.widen (k := 4) (n := 24) (by omega) (by omega) ?_
        exact tw_vret S hr hlk w ⟨a, b, k, ha, rfl, hb, rfl, hab, hk1, rfl, Or.inr ⟨hno, hcan, hp⟩⟩ dX0_bring_85
      · have hcan : ¬ ∀ j, j < 4 → st (16 + j) (st (20 + a) k) ≤ st (24 + b) j := hp.elim (fun g => absurd (g.1.symm.trans h65) (by decide)) (fun g => g.2)
        exact tw_throwB S hlt ht hlk Z Z.2.2.2.2.2.2.2 z hl.1 (Or.inr ⟨rfl, a, b, k, ha, rfl, hb, rfl, hab, hk1, rfl, hno, hcan⟩) hA dX0_bring_68 dX0_bring_71 dX0_bring_72 dX0_bring_74 dX0_bring_77 (Nat.le_of_ble_eq_true rfl) (Nat.le_of_ble_eq_true rfl) (Nat.le_of_ble_eq_true rfl) (Nat.le_of_ble_eq_true rfl) (Nat.le_of_ble_eq_true rfl) (Nat.le_of_ble_eq_true rfl)
    · have hyes : tw_has st b (st (20 + a) k) := hp.elim (fun g => g.2) (fun g => absurd g.1 h54)
      refine vx_ret ?_
      refine W.widen (k := 4) (n := 24) (by omega) (by omega) ?_
      exact tw_vret S hr hlk w ⟨a, b, k, ha, rfl, hb, rfl, hab, hk1, rfl, Or.inl ⟨hyes, rfl⟩⟩ dX0_bring_57
  · exact tw_throwA S hlt ht hlk Z Z.2.2.2.2.2.2.1 z hl.1 (Or.inl ⟨rfl, Or.inr (Or.inr (Or.inl h10))⟩) hA dX0_bring_13 dX0_bring_16 dX0_bring_17 dX0_bring_19 dX0_bring_22 (Nat.le_of_ble_eq_true rfl) (Nat.le_of_ble_eq_true rfl) (Nat.le_of_ble_eq_true rfl) (Nat.le_of_ble_eq_true rfl) (Nat.le_of_ble_eq_true rfl) (Nat.le_of_ble_eq_true rfl)
