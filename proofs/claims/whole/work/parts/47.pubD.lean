set_option maxHeartbeats 4000000 in
set_option maxRecDepth 100000 in
/-- insert(c, at, letter) -/
theorem kX0_insert (l : Launch) (D : va_G) (cI cJ : ClassId) (x : Nat) (ad : Nat → Nat) (st : Nat → Nat → Nat) (sz : Nat) (hlt : l.stackTraces = false) {v t b : Int32} {md : Nat → Nat} (hci : tw_ci md st) (hcc : ∀ c, c < 4 → st (24 + c) c = md c) (hnc : st 9 0 ≤ 512) (hn4 : ∀ j, st 4 j < 2147483648) : vx_Met l yX0_insert wsX0_insert ({ frames := 9, cells := 4, slots := 24, locals := 150 }) (va_Pc [.ref x, .int v, .int t, .int b] (fun U => U.heap.size = sz ∧ tw_Z (fun q => sz ≤ q) U ∧ tw_XU D cI cJ x ad st U)) (va_Qi (fun r u => tw_okIns st v t b r u) (tw_XT D cI cJ x ad (va_A (tw_x cI cJ x ad st) sz)) (va_A (tw_x cI cJ x ad st) sz)) (tw_XC (tw_pxIns st v t b) sz) 4 24 (va_A (tw_x cI cJ x ad st) sz) := by
  refine vx_ofW (cc := cX0_insert) (maxL := 6) (ret := (some .int)) (by decide) rfl ?_
  intro p e s m args below meth cd s₁ B hml ht hv
  obtain ⟨rfl, hsz, Z, hU⟩ := hv
  subst hsz
  have S : CallFix p m cd cX0_insert 6 s ([.ref x, .int v, .int t, .int b] : List Value).toArray tw_wall RX0 := ⟨B.exec, B.bytes, hml, findClass_of_methodNamed B.named, fun w h => atoms_spec (ws := wsX0_insert) B.pre w (List.mem_cons_of_mem _ h)⟩
  have hr := B.returns
  have hlk := B.notSynchronized
  have z : va_S (fun q => s.heap.size ≤ q) s.heap s.heap [] := va_S.rf
  have w := tw_X0 hU
  have hA : ∀ q : Nat, s.heap.size ≤ q → va_A (tw_x cI cJ x ad st) s.heap.size q := fun q h => Or.inr h
  generalize va_A (tw_x cI cJ x ad st) s.heap.size = A at w hA ⊢
  have hl := lv_entry ([.ref x, .int v, .int t, .int b]) (n := 6) (Nat.le_of_ble_eq_true rfl)
  rw [lg_entry_eq]
  generalize (lg_sl ([.ref x, .int v, .int t, .int b]) ++ List.replicate (6 - (lg_sl ([.ref x, .int v, .int t, .int b])).length) Slot.unset).toArray = ls at hl ⊢
  have hl : lv_has ls 6 [(0, .ref x), (1, .int v), (2, .int t), (3, .int b)] := hl
  obtain ⟨bl, bo, b5, bk, b8, bi, bw, bs⟩ := tw_bd_of hci hnc
  refine lv_iload_n S.1 S.2.1 dX0_insert_0 rfl (lv_at hl 1 rfl) ?_
  refine tw_chk (n := 1) S ht hlk Z z hA (kX0_checkCopy l _ hlt (v := v)) (tw_gS wl_X0_55 wt_X0_checkCopy wi_X0 wy_X0_checkCopy) rfl rfl (by decide +kernel) ⟨Nat.le_of_ble_eq_true rfl, Nat.le_of_ble_eq_true rfl⟩ rfl hl.1 rfl (Nat.le_of_ble_eq_true rfl) dX0_insert_1 ⟨Nat.le_of_ble_eq_true rfl, Nat.le_of_ble_eq_true rfl⟩ (Nat.le_of_ble_eq_true rfl) (Nat.le_of_ble_eq_true rfl) (fun u h => Or.inl ⟨h.1, Or.inl h.2⟩) (fun H locs hp hk z => ?_)
  have w := w.kept hk (tw_mono z hA)
  obtain ⟨a, ha, rfl⟩ := tw_copy hp
  refine lv_iload_n S.1 S.2.1 dX0_insert_4 rfl (lv_at hl 2 rfl) ?_
  refine lv_aload_n S.1 S.2.1 dX0_insert_5 rfl (lv_at hl 0 rfl) ?_
  refine xxg_lengths S w dX0_insert_6 ?_
  refine lv_iload_n S.1 S.2.1 dX0_insert_9 rfl (lv_at hl 1 rfl) ?_
  refine xxl_8 S w (by omega) dX0_insert_10 ?_
  refine tw_chk (n := 2) S ht hlk Z z hA (kX0_checkUpTo l _ hlt (v := t) (b := nI (st 8 a))) (tw_gS wl_X0_59 wt_X0_checkUpTo wi_X0 wy_X0_checkUpTo) rfl rfl (by decide +kernel) ⟨Nat.le_of_ble_eq_true rfl, Nat.le_of_ble_eq_true rfl⟩ rfl hl.1 rfl (Nat.le_of_ble_eq_true rfl) dX0_insert_11 ⟨Nat.le_of_ble_eq_true rfl, Nat.le_of_ble_eq_true rfl⟩ (Nat.le_of_ble_eq_true rfl) (Nat.le_of_ble_eq_true rfl) (fun u h => Or.inl ⟨h.1, Or.inr ⟨a, ha, rfl, h.2.elim Or.inl (fun q => Or.inr (Or.inl q))⟩⟩) (fun H locs hp hk z => ?_)
  have w := w.kept hk (tw_mono z hA)
  obtain ⟨k, hk1, rfl⟩ := tw_up_of (by have := (b8 a ha).1; omega) hp
  refine lv_iload_n S.1 S.2.1 dX0_insert_14 rfl (lv_at hl 3 rfl) ?_
  refine lv_sipush (v := nI 255) S.1 S.2.1 dX0_insert_15 (by decide) ?_
  refine tw_chk (n := 2) S ht hlk Z z hA (kX0_checkUpTo l _ hlt (v := b) (b := nI 255)) (tw_gS wl_X0_59 wt_X0_checkUpTo wi_X0 wy_X0_checkUpTo) rfl rfl (by decide +kernel) ⟨Nat.le_of_ble_eq_true rfl, Nat.le_of_ble_eq_true rfl⟩ rfl hl.1 rfl (Nat.le_of_ble_eq_true rfl) dX0_insert_18 ⟨Nat.le_of_ble_eq_true rfl, Nat.le_of_ble_eq_true rfl⟩ (Nat.le_of_ble_eq_true rfl) (Nat.le_of_ble_eq_true rfl) (fun u h => Or.inl ⟨h.1, Or.inr ⟨a, ha, rfl, h.2.elim (fun q => Or.inr (Or.inr (Or.inl q))) (fun q => Or.inr (Or.inr (Or.inr q)))⟩⟩) (fun H locs hp hk z => ?_)
  have w := w.kept hk (tw_mono z hA)
  obtain ⟨d, hd1, rfl⟩ := tw_up_of (by omega) hp
  refine lv_aload_n S.1 S.2.1 dX0_insert_21 rfl (lv_at hl 0 rfl) ?_
  refine lv_iload_n S.1 S.2.1 dX0_insert_22 rfl (lv_at hl 1 rfl) ?_
  refine tw_chv (n := 1) S ht hlk w hA Z z hA (kX0_checkRoom l D cI cJ x ad st _ hlt ha (by have := bk a a ha ha; omega) (by omega)) (tw_gV wl_X0_63 wn_X0_checkRoom ws_X0_checkRoom wi_X0 wy_X0_checkRoom) rfl rfl (by decide +kernel) ⟨Nat.le_of_ble_eq_true rfl, Nat.le_of_ble_eq_true rfl⟩ rfl hl.1 rfl (Nat.le_of_ble_eq_true rfl) dX0_insert_23 ⟨Nat.le_of_ble_eq_true rfl, Nat.le_of_ble_eq_true rfl⟩ (Nat.le_of_ble_eq_true rfl) (Nat.le_of_ble_eq_true rfl) (fun u h => Or.inr ⟨h.1, a, k, d, ha, rfl, hk1, rfl, hd1, rfl, h.2⟩) (fun H locs hp w z => ?_)
  obtain ⟨hr1, hr2⟩ := hp
  have tail : ∀ (bh : Nat) (H : Heap) (locs : List Loc) (ls : Array Slot), bh ≤ st 9 1 → tw_bh st a k bh → TWX D cI cJ x ad st A s.heap H locs s → lv_has ls 6 [(0, .ref x), (1, .int (nI a)), (2, .int (nI k)), (3, .int (nI d))] → W p l e (headSpec wsX0_insert ({ frames := 9, cells := 4, slots := 24, locals := 150 })).room s m ([.ref x, .int (nI a), .int (nI k), .int (nI d)] : List Value).toArray below meth cd H locs 4 24 (vx_MQ below (va_Qi (fun r u => tw_okIns st (nI a) (nI k) (nI d) r u) (tw_XT D cI cJ x ad A) A) (tw_XC (tw_pxIns st (nI a) (nI k) (nI d)) s.heap.size) ([.ref x, .int (nI a), .int (nI k), .int (nI d)] : List Value).toArray s 4 24 A) (F0 m 42 ls [.int (nI bh - 1)]) := by
    intro bh H locs ls hbh1 hbh w hl
    have hq4 : ∀ j, tw_new st a d 4 j < 2147483648 := fun j => by
      rw [tw_new_4 ha]
      split
      · have := (b8 a ha).2
        omega
      · exact hn4 j
    refine lv_istore S.1 S.2.1 dX0_insert_42 hl (by decide) rfl (fun ls hl => ?_)
    refine lv_aload_n S.1 S.2.1 dX0_insert_44 rfl (lv_at hl 1 rfl) ?_
    refine lv_iload_n S.1 S.2.1 dX0_insert_45 rfl (lv_at hl 2 rfl) ?_
    refine lv_iconst (v := nI 0 - 1) S.1 S.2.1 dX0_insert_46 (by decide) ?_
    refine tw_cwi (n := 2) S w hA (kX0_addChange l D cI cJ x ad st _ (t := 0) ha hr2 hr1) (tw_gV wl_X0_70 wn_X0_addChange ws_X0_addChange wi_X0 wy_X0_addChange) rfl rfl (by decide +kernel) ⟨Nat.le_of_ble_eq_true rfl, Nat.le_of_ble_eq_true rfl⟩ rfl hl.1 rfl (Nat.le_of_ble_eq_true rfl) dX0_insert_47 ⟨Nat.le_of_ble_eq_true rfl, Nat.le_of_ble_eq_true rfl⟩ (fun r u H locs hp w => ?_)
    obtain ⟨rfl, rfl⟩ := hp
    refine lv_istore S.1 S.2.1 dX0_insert_50 hl (by decide) rfl (fun ls hl => ?_)
    refine lv_aload_n S.1 S.2.1 dX0_insert_52 rfl (lv_at hl 2 rfl) ?_
    refine xxg_bytes S w dX0_insert_53 ?_
    refine lv_iload S.1 S.2.1 dX0_insert_56 (lv_at hl 0 rfl) ?_
    refine lv_iload_n S.1 S.2.1 dX0_insert_58 rfl (lv_at hl 5 rfl) ?_
    refine xxs_3 S w (by omega)  dX0_insert_59 (fun H locs w => ?_)
    refine lv_aload_n S.1 S.2.1 dX0_insert_60 rfl (lv_at hl 2 rfl) ?_
    refine xxg_names S w dX0_insert_61 ?_
    refine lv_iload S.1 S.2.1 dX0_insert_64 (lv_at hl 0 rfl) ?_
    refine lv_iconst (v := nI 4) S.1 S.2.1 dX0_insert_66 (by decide) ?_
    refine lv_aload_n S.1 S.2.1 dX0_insert_67 rfl (lv_at hl 2 rfl) ?_
    refine xxg_greatest S w dX0_insert_68 ?_
    refine lv_iload_n S.1 S.2.1 dX0_insert_71 rfl (lv_at hl 3 rfl) ?_
    refine xxl_7 S w (by omega) dX0_insert_72 ?_
    refine tw_t (show _ = nI (st 7 a) from by rw [tw_up_k (by omega), tw_add_o (by omega) ha]) ?_
    refine lv_iconst (v := nI 1) S.1 S.2.1 dX0_insert_73 (by decide) ?_
    refine lv_iadd S.1 S.2.1 dX0_insert_74 ?_
    refine tw_t (nI_add _ _) ?_
    refine lv_imul S.1 S.2.1 dX0_insert_75 ?_
    refine tw_t (pk_mul _ _) ?_
    refine lv_iload_n S.1 S.2.1 dX0_insert_76 rfl (lv_at hl 3 rfl) ?_
    refine lv_iadd S.1 S.2.1 dX0_insert_77 ?_
    refine tw_t (nI_add _ _) ?_
    refine xxs_4 S w (by omega)  dX0_insert_78 (fun H locs w => ?_)
    have w : TWX D cI cJ x ad (tw_new st a d) A s.heap H locs s := w
    have e91 : tw_new st a d 9 1 = st 9 1 := by rw [tw_new_o (by omega) (by omega), tw_add_o (by omega) ha]
    have e6 : ∀ j, tw_new st a d 6 j = st 6 j := fun j => by rw [tw_new_o (by omega) (by omega), tw_add_o (by omega) ha]
    refine lv_aload_n S.1 S.2.1 dX0_insert_79 rfl (lv_at hl 2 rfl) ?_
    refine lv_iload S.1 S.2.1 dX0_insert_80 (lv_at hl 0 rfl) ?_
    refine lv_iload S.1 S.2.1 dX0_insert_82 (lv_at hl 1 rfl) ?_
    refine tw_cwv (n := 2) S w hA (kX0_weave l D cI cJ x ad (tw_new st a d) _ (i := st 9 0) (b := bh) hr2 (by rw [e91]; exact hbh1) (by rw [e91]; have := hci.2.2.2.1.1; omega) (fun p hp => by rw [e91] at hp; rw [e6]; exact bo p hp) hq4) (tw_gV wl_X0_73 wn_X0_weave ws_X0_weave wi_X0 wy_X0_weave) rfl rfl (by decide +kernel) ⟨Nat.le_of_ble_eq_true rfl, Nat.le_of_ble_eq_true rfl⟩ rfl hl.1 rfl (Nat.le_of_ble_eq_true rfl) dX0_insert_84 ⟨Nat.le_of_ble_eq_true rfl, Nat.le_of_ble_eq_true rfl⟩ (fun u H locs hp w => ?_)
    obtain ⟨q, g1, g2, g3, g4, rfl⟩ := hp
    rw [e91] at g2 g4
    have g3 : ∀ j, bh ≤ j → j < q → tw_new st a d 4 (st 9 0) < tw_new st a d 4 (st 6 j) := fun j h1 h2 => by have := g3 j h1 h2; rw [e6] at this; exact this
    rw [e6] at g4
    refine lv_aload_n S.1 S.2.1 dX0_insert_87 rfl (lv_at hl 2 rfl) ?_
    refine lv_iload_n S.1 S.2.1 dX0_insert_88 rfl (lv_at hl 3 rfl) ?_
    refine lv_iload S.1 S.2.1 dX0_insert_89 (lv_at hl 0 rfl) ?_
    refine tw_cwv (n := 2) S w hA (kX0_receive l D cI cJ x ad (tw_wv (tw_new st a d) q (st 9 0)) _ (i := st 9 0) ha hr2 (by rw [tw_wv_o (by omega) (by omega), tw_new_o (by omega) (by omega), tw_add_0 ha]; exact ha) (by rw [tw_wv_o (by omega) (by omega), tw_new_o (by omega) (by omega), tw_add_2 ha]; omega) (fun j hj => by rw [tw_wv_o (by omega) (by omega), tw_new_o (by omega) (by omega), tw_add_2 ha] at hj; omega) (fun j => by rw [tw_wv_o (by omega) (by omega), tw_new_o (by omega) (by omega), tw_add_o (by omega) ha]; exact b5 j) (by rw [tw_wv_o (by omega) (by omega), tw_new_4 ha, if_pos rfl]; have := (b8 a ha).2; omega) (by rw [tw_wv_o (by omega) (by omega), tw_new_o (by omega) (by omega), tw_add_o (by omega) ha]; have := (b8 a ha).2; omega) (fun j hj => by rw [tw_wv_o (by omega) (by omega), tw_new_o (by omega) (by omega), tw_add_2 ha] at hj; omega)) (tw_gV wl_X0_76 wn_X0_receive ws_X0_receive wi_X0 wy_X0_receive) rfl rfl (by decide +kernel) ⟨Nat.le_of_ble_eq_true rfl, Nat.le_of_ble_eq_true rfl⟩ rfl hl.1 rfl (Nat.le_of_ble_eq_true rfl) dX0_insert_91 ⟨Nat.le_of_ble_eq_true rfl, Nat.le_of_ble_eq_true rfl⟩ (fun u H locs hp w => ?_)
    subst hp
    refine lv_aload_n S.1 S.2.1 dX0_insert_94 rfl (lv_at hl 2 rfl) ?_
    refine xxg_number S w dX0_insert_95 ?_
    refine lv_iload S.1 S.2.1 dX0_insert_98 (lv_at hl 0 rfl) ?_
    refine xxl_1 S w (by omega) dX0_insert_100 ?_
    refine tw_t (show _ = nI (st (24 + a) a) from by rw [tw_rcv_o (by omega), tw_wv_o (by omega) (by omega), tw_new_o (by omega) (by omega), tw_add_1 ha]) ?_
    refine vx_ret ?_
    refine W.widen (k := 4) (n := 24) (by omega) (by omega) ?_
    exact tw_iret S hr hlk w ⟨a, k, d, bh, q, ha, rfl, hk1, rfl, hd1, rfl, hr1, hr2, rfl, hbh, g1, g2, g3, g4, rfl⟩ dX0_insert_101
  refine lv_iload_n S.1 S.2.1 dX0_insert_26 rfl (lv_at hl 2 rfl) ?_
  refine lv_if_ne (tgt := 34) S.1 S.2.1 dX0_insert_27 (by decide) (fun h27 => ?_) (fun h27 => ?_)
  · have hk0 : k ≠ 0 := fun q => h27 (by rw [q]; decide)
    refine lv_aload_n S.1 S.2.1 dX0_insert_34 rfl (lv_at hl 0 rfl) ?_
    refine lv_iload_n S.1 S.2.1 dX0_insert_35 rfl (lv_at hl 1 rfl) ?_
    refine lv_iload_n S.1 S.2.1 dX0_insert_36 rfl (lv_at hl 2 rfl) ?_
    refine lv_iconst (v := nI 1) S.1 S.2.1 dX0_insert_37 (by decide) ?_
    refine lv_isub S.1 S.2.1 dX0_insert_38 ?_
    refine tw_t (pk_sub (by omega)) ?_
    refine tw_cro (n := 2) S w z (fun q h => h) hA (kX0_placeOf l D cI cJ x ad st _ (t := nI (k - 1)) ha bl bo b5) (tw_gV wl_X0_66 wn_X0_placeOf ws_X0_placeOf wi_X0 wy_X0_placeOf) rfl rfl (by decide +kernel) ⟨Nat.le_of_ble_eq_true rfl, Nat.le_of_ble_eq_true rfl⟩ rfl hl.1 rfl (Nat.le_of_ble_eq_true rfl) dX0_insert_39 ⟨Nat.le_of_ble_eq_true rfl, Nat.le_of_ble_eq_true rfl⟩ (fun r H locs hp w z => ?_)
    have h8c : st 8 a = tw_cn (tw_f st a) (st 9 1) := hci.2.2.1.2.2 a ha
    obtain ⟨p0, p1, p2, p3⟩ := tw_cn_at (show k - 1 < tw_cn (tw_f st a) (st 9 1) by omega)
    rcases hp with ⟨q, q1, q2, q3, rfl⟩ | ⟨-, g⟩
    rotate_left
    · exact absurd (by rw [p3]) (g p0 p1 p2)
    have q4 : k - 1 = tw_cn (tw_f st a) q := (tw_eq (by have := (b8 a ha).1; omega) (by have := tw_cn_le (tw_f st a) q; omega)).mp q3
    refine tw_t (nI_pred q).symm ?_
    first
      | exact tail 0 H locs ls (by omega) (Or.inl ⟨hk0, rfl⟩) w hl
      | exact tail (q + 1) H locs ls (by omega) (Or.inr ⟨q, q1, q2, by omega, rfl⟩) w hl
  · have hk0 : k = 0 := (tw_eq (by have := (b8 a ha).1; omega) (by omega)).mp h27
    refine lv_iconst (v := nI 0 - 1) S.1 S.2.1 dX0_insert_30 (by decide) ?_
    refine lv_goto (tgt := 42) S.1 S.2.1 dX0_insert_31 (by decide) ?_
    first
      | exact tail 0 H locs ls (by omega) (Or.inl ⟨hk0, rfl⟩) w hl
      | exact tail (q + 1) H locs ls (by omega) (Or.inr ⟨q, q1, q2, by omega, rfl⟩) w hl
