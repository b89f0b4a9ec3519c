set_option maxHeartbeats 4000000 in
set_option maxRecDepth 100000 in
/-- merge(from, to) -/
theorem kX0_merge (l : Launch) (D : va_G) (cI cJ : ClassId) (x : Nat) (ad : Nat → Nat) (st : Nat → Nat → Nat) (sz : Nat) (hlt : l.stackTraces = false) {v t : Int32} {md : Nat → Nat} (hci : tw_ci md st) (hcc : ∀ c, c < 4 → st (24 + c) c = md c) (hnc : st 9 0 ≤ 512) (hn4 : ∀ j, st 4 j < 2147483648) : vx_Met l yX0_merge wsX0_merge ({ frames := 9, cells := 4, slots := 24, locals := 150 }) (va_Pc [.ref x, .int v, .int t] (fun U => U.heap.size = sz ∧ tw_Z (fun q => sz ≤ q) U ∧ tw_XU D cI cJ x ad st U)) (va_Qi (fun r u => ∃ a b k, a < 4 ∧ v = nI a ∧ b < 4 ∧ t = nI b ∧ r = nI k ∧ tw_mrg md st u a b (st 9 0) k) (tw_XT D cI cJ x ad (va_A (tw_x cI cJ x ad st) sz)) (va_A (tw_x cI cJ x ad st) sz)) (tw_XC (fun u => u = 1 ∧ (tw_nc v ∨ tw_nc t)) sz) 4 24 (va_A (tw_x cI cJ x ad st) sz) := by
  refine vx_ofW (cc := cX0_merge) (maxL := 5) (ret := (some .int)) (by decide) rfl ?_
  intro p e s m args below meth cd s₁ B hml ht hv
  obtain ⟨rfl, hsz, Z, hU⟩ := hv
  subst hsz
  have S : CallFix p m cd cX0_merge 5 s ([.ref x, .int v, .int t] : List Value).toArray tw_wall RX0 := ⟨B.exec, B.bytes, hml, findClass_of_methodNamed B.named, fun w h => atoms_spec (ws := wsX0_merge) B.pre w (List.mem_cons_of_mem _ h)⟩
  have hr := B.returns
  have hlk := B.notSynchronized
  have z : va_S (fun q => s.heap.size ≤ q) s.heap s.heap [] := va_S.rf
  have w := tw_X0 hU
  have hA : ∀ q : Nat, s.heap.size ≤ q → va_A (tw_x cI cJ x ad st) s.heap.size q := fun q h => Or.inr h
  generalize va_A (tw_x cI cJ x ad st) s.heap.size = A at w hA ⊢
  have hl := lv_entry ([.ref x, .int v, .int t]) (n := 5) (Nat.le_of_ble_eq_true rfl)
  rw [lg_entry_eq]
  generalize (lg_sl ([.ref x, .int v, .int t]) ++ List.replicate (5 - (lg_sl ([.ref x, .int v, .int t])).length) Slot.unset).toArray = ls at hl ⊢
  have hl : lv_has ls 5 [(0, .ref x), (1, .int v), (2, .int t)] := hl
  obtain ⟨bl, bo, b5, bk, b8, bi, bw, bs⟩ := tw_bd_of hci hnc
  refine lv_iload_n S.1 S.2.1 dX0_merge_0 rfl (lv_at hl 1 rfl) ?_
  refine tw_chk (n := 1) S ht hlk Z z hA (kX0_checkCopy l _ hlt (v := v)) (tw_gS wl_X0_55 wt_X0_checkCopy wi_X0 wy_X0_checkCopy) rfl rfl (by decide +kernel) ⟨Nat.le_of_ble_eq_true rfl, Nat.le_of_ble_eq_true rfl⟩ rfl hl.1 rfl (Nat.le_of_ble_eq_true rfl) dX0_merge_1 ⟨Nat.le_of_ble_eq_true rfl, Nat.le_of_ble_eq_true rfl⟩ (Nat.le_of_ble_eq_true rfl) (Nat.le_of_ble_eq_true rfl) (fun u h => ⟨h.1, Or.inl h.2⟩) (fun H locs hp hk z => ?_)
  have w := w.kept hk (tw_mono z hA)
  obtain ⟨a, ha, rfl⟩ := tw_copy hp
  refine lv_iload_n S.1 S.2.1 dX0_merge_4 rfl (lv_at hl 2 rfl) ?_
  refine tw_chk (n := 1) S ht hlk Z z hA (kX0_checkCopy l _ hlt (v := t)) (tw_gS wl_X0_55 wt_X0_checkCopy wi_X0 wy_X0_checkCopy) rfl rfl (by decide +kernel) ⟨Nat.le_of_ble_eq_true rfl, Nat.le_of_ble_eq_true rfl⟩ rfl hl.1 rfl (Nat.le_of_ble_eq_true rfl) dX0_merge_5 ⟨Nat.le_of_ble_eq_true rfl, Nat.le_of_ble_eq_true rfl⟩ (Nat.le_of_ble_eq_true rfl) (Nat.le_of_ble_eq_true rfl) (fun u h => ⟨h.1, Or.inr h.2⟩) (fun H locs hp hk z => ?_)
  have w := w.kept hk (tw_mono z hA)
  obtain ⟨b, hb, rfl⟩ := tw_copy hp
  have loop : ∀ (n : Nat) (i k : Nat) (sm : Nat → Nat → Nat) (H : Heap) (locs : List Loc) (ls : Array Slot), i ≤ st 9 0 → st 9 0 - i < n → tw_mrg md st sm a b i k → TWX D cI cJ x ad sm A s.heap H locs s → lv_has ls 5 [(4, .int (nI i)), (3, .int (nI k)), (0, .ref x), (1, .int (nI a)), (2, .int (nI b))] → W p l e (headSpec wsX0_merge ({ frames := 9, cells := 4, slots := 24, locals := 150 })).room s m ([.ref x, .int (nI a), .int (nI b)] : List Value).toArray below meth cd H locs 2 12 (vx_MQ below (va_Qi (fun r u => ∃ a' b' k, a' < 4 ∧ nI a = nI a' ∧ b' < 4 ∧ nI b = nI b' ∧ r = nI k ∧ tw_mrg md st u a' b' (st 9 0) k) (tw_XT D cI cJ x ad A) A) (tw_XC (fun u => u = 1 ∧ (tw_nc (nI a) ∨ tw_nc (nI b))) s.heap.size) ([.ref x, .int (nI a), .int (nI b)] : List Value).toArray s 4 24 A) (F0 m 13 ls []) := by
    intro n
    induction n with
    | zero => intros; omega
    | succ n ih =>
      intro i k sm H locs ls hi0 hm hg w hl
      have e9 : sm 9 0 = st 9 0 := hg.2.1 9 0 (by omega)
      obtain ⟨-, -, m5, mk, m8, mi, -, m0⟩ := tw_bd_of hg.1 (by omega)
      refine lv_iload S.1 S.2.1 dX0_merge_13 (lv_at hl 0 rfl) ?_
      refine lv_aload_n S.1 S.2.1 dX0_merge_15 rfl (lv_at hl 2 rfl) ?_
      refine xxg_changes S w dX0_merge_16 ?_
      refine lv_icmp_ge (tgt := 58) S.1 S.2.1 dX0_merge_19 (by decide) (fun h19 => ?_) (fun h19 => ?_)
      · have hi : i = st 9 0 := by have := (tw_le (by omega) (by omega)).mp h19; omega
        refine lv_iload_n S.1 S.2.1 dX0_merge_58 rfl (lv_at hl 1 rfl) ?_
        refine vx_ret ?_
        refine W.widen (k := 4) (n := 24) (by omega) (by omega) ?_
        exact tw_iret S hr hlk w ⟨a, b, k, ha, rfl, hb, rfl, rfl, by rw [← hi]; exact hg⟩ dX0_merge_59
      · have hi : i < st 9 0 := Nat.not_le.mp (fun g => h19 ((tw_le (by omega) (by omega)).mpr (by omega)))
        obtain ⟨i1, i2, i3, i4, i5, i6⟩ := mi i (by omega)
        refine lv_aload_n S.1 S.2.1 dX0_merge_22 rfl (lv_at hl 2 rfl) ?_
        refine lv_iload_n S.1 S.2.1 dX0_merge_23 rfl (lv_at hl 3 rfl) ?_
        refine lv_iload S.1 S.2.1 dX0_merge_24 (lv_at hl 0 rfl) ?_
        refine tw_cro (n := 2) S w w.2.2.2 hA (fun q h => h) (kX0_isIn l D cI cJ x ad sm _ (i := i) ha i1 i2 (by omega) (by have := mk a _ ha i2; omega)) (tw_gV wl_X0_88 wn_X0_isIn ws_X0_isIn wi_X0 wy_X0_isIn) rfl rfl (by decide +kernel) ⟨Nat.le_of_ble_eq_true rfl, Nat.le_of_ble_eq_true rfl⟩ rfl hl.1 rfl (Nat.le_of_ble_eq_true rfl) dX0_merge_26 ⟨Nat.le_of_ble_eq_true rfl, Nat.le_of_ble_eq_true rfl⟩ (fun r H locs hp1 w _ => ?_)
        refine lv_if_eq (tgt := 52) S.1 S.2.1 dX0_merge_29 (by decide) (fun h29 => ?_) (fun h29 => ?_)
        · have hno : ¬ (tw_has sm a i ∧ ¬ tw_has sm b i) := hp1.elim (fun g => absurd (g.1.symm.trans h29) (by decide)) (fun g q => g.2 q.1)
          refine lv_iinc S.1 S.2.1 dX0_merge_52 hl (k := 0) rfl (tw_inc _) (by decide) rfl (fun ls hl => ?_)
          refine lv_goto (tgt := 13) S.1 S.2.1 dX0_merge_55 (by decide) ?_
          first
            | exact ih (i + 1) k sm H locs ls (by omega) (by omega) (tw_mrg_no hg hci ha hb hi hno) w (lv_sub hl [0, 1, 2, 3, 4] rfl)
            | exact ih (i + 1) (k + 1) _ H locs ls (by omega) (by omega) (tw_mrg_yes hg hci ha hb hi hya hnb) w (lv_sub hl [0, 1, 2, 3, 4] rfl)
        · have hya : tw_has sm a i := hp1.elim (fun g => g.2) (fun g => absurd g.1 h29)
          refine lv_aload_n S.1 S.2.1 dX0_merge_32 rfl (lv_at hl 2 rfl) ?_
          refine lv_iload_n S.1 S.2.1 dX0_merge_33 rfl (lv_at hl 4 rfl) ?_
          refine lv_iload S.1 S.2.1 dX0_merge_34 (lv_at hl 0 rfl) ?_
          refine tw_cro (n := 2) S w w.2.2.2 hA (fun q h => h) (kX0_isIn l D cI cJ x ad sm _ (i := i) hb i1 i2 (by omega) (by have := mk b _ hb i2; omega)) (tw_gV wl_X0_88 wn_X0_isIn ws_X0_isIn wi_X0 wy_X0_isIn) rfl rfl (by decide +kernel) ⟨Nat.le_of_ble_eq_true rfl, Nat.le_of_ble_eq_true rfl⟩ rfl hl.1 rfl (Nat.le_of_ble_eq_true rfl) dX0_merge_36 ⟨Nat.le_of_ble_eq_true rfl, Nat.le_of_ble_eq_true rfl⟩ (fun r H locs hp2 w _ => ?_)
          refine lv_if_ne (tgt := 52) S.1 S.2.1 dX0_merge_39 (by decide) (fun h39 => ?_) (fun h39 => ?_)
          · have hno : ¬ (tw_has sm a i ∧ ¬ tw_has sm b i) := hp2.elim (fun g q => q.2 g.2) (fun g => absurd g.1 h39)
            refine lv_iinc S.1 S.2.1 dX0_merge_52 hl (k := 0) rfl (tw_inc _) (by decide) rfl (fun ls hl => ?_)
            refine lv_goto (tgt := 13) S.1 S.2.1 dX0_merge_55 (by decide) ?_
            first
              | exact ih (i + 1) k sm H locs ls (by omega) (by omega) (tw_mrg_no hg hci ha hb hi hno) w (lv_sub hl [0, 1, 2, 3, 4] rfl)
              | exact ih (i + 1) (k + 1) _ H locs ls (by omega) (by omega) (tw_mrg_yes hg hci ha hb hi hya hnb) w (lv_sub hl [0, 1, 2, 3, 4] rfl)
          · have hnb : ¬ tw_has sm b i := hp2.elim (fun g => absurd (g.1.symm.trans h39) (by decide)) (fun g => g.2)
            refine lv_aload_n S.1 S.2.1 dX0_merge_42 rfl (lv_at hl 2 rfl) ?_
            refine lv_iload_n S.1 S.2.1 dX0_merge_43 rfl (lv_at hl 4 rfl) ?_
            refine lv_iload S.1 S.2.1 dX0_merge_44 (lv_at hl 0 rfl) ?_
            refine tw_cwv (n := 2) S w hA (kX0_receive l D cI cJ x ad sm _ (i := i) hb i1 i2 i5 i4 m5 (by rw [hg.2.1 4 i (by omega)]; exact hn4 i) (by have := (m8 b hb).2; omega) (fun j _ hb2 => m0 b j hb hb2)) (tw_gV wl_X0_76 wn_X0_receive ws_X0_receive wi_X0 wy_X0_receive) rfl rfl (by decide +kernel) ⟨Nat.le_of_ble_eq_true rfl, Nat.le_of_ble_eq_true rfl⟩ rfl hl.1 rfl (Nat.le_of_ble_eq_true rfl) dX0_merge_46 ⟨Nat.le_of_ble_eq_true rfl, Nat.le_of_ble_eq_true rfl⟩ (fun u H locs hp w => ?_)
            subst hp
            refine lv_iinc S.1 S.2.1 dX0_merge_49 hl (k := 1) rfl (tw_inc _) (by decide) rfl (fun ls hl => ?_)
            refine lv_iinc S.1 S.2.1 dX0_merge_52 hl (k := 1) rfl (tw_inc _) (by decide) rfl (fun ls hl => ?_)
            refine lv_goto (tgt := 13) S.1 S.2.1 dX0_merge_55 (by decide) ?_
            first
              | exact ih (i + 1) k sm H locs ls (by omega) (by omega) (tw_mrg_no hg hci ha hb hi hno) w (lv_sub hl [0, 1, 2, 3, 4] rfl)
              | exact ih (i + 1) (k + 1) _ H locs ls (by omega) (by omega) (tw_mrg_yes hg hci ha hb hi hya hnb) w (lv_sub hl [0, 1, 2, 3, 4] rfl)
  refine lv_iconst (v := nI 0) S.1 S.2.1 dX0_merge_8 (by decide) ?_
  refine lv_istore_n S.1 S.2.1 dX0_merge_9 rfl hl (by decide) rfl (fun ls hl => ?_)
  refine lv_iconst (v := nI 0) S.1 S.2.1 dX0_merge_10 (by decide) ?_
  refine lv_istore S.1 S.2.1 dX0_merge_11 hl (by decide) rfl (fun ls hl => ?_)
  exact loop (st 9 0 + 1) 0 0 st _ _ _ (by omega) (by omega) (tw_mrg_0 hci) w (lv_sub hl [0, 1, 2, 3, 4] rfl)
