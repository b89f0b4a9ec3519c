def tw_hadK (st s : Nat → Nat → Nat) (a i : Nat) : Nat → (Nat → Nat → Nat)
  | 0 => s
  | k + 1 => tw_up (tw_hadK st s a i k) (16 + k) i (st (24 + a) k)
theorem tw_hadK_o {st s : Nat → Nat → Nat} {a i : Nat} : ∀ {k k' y : Nat}, k ≤ 4 → (k' < 16 ∨ 20 ≤ k') → tw_hadK st s a i k k' y = s k' y
  | 0, _, _, _, _ => rfl
  | k + 1, k', y, h, h2 => by
    show tw_up (tw_hadK st s a i k) (16 + k) i (st (24 + a) k) k' y = s k' y
    rw [tw_up_k (by omega)]
    exact tw_hadK_o (by omega) h2
def tw_add3 (st : Nat → Nat → Nat) (a t : Nat) : Nat → Nat → Nat := tw_up (tw_up (tw_up st 0 (st 9 0) a) 1 (st 9 0) (st (24 + a) a)) 2 (st 9 0) t
/-- a change of copy a, that takes t, behind the others -/
def tw_add (st : Nat → Nat → Nat) (a t : Nat) : Nat → Nat → Nat := tw_up (tw_up (tw_hadK st (tw_add3 st a t) a (st 9 0) 4) (20 + a) (st (24 + a) a) (st 9 0)) 9 0 (st 9 0 + 1)
theorem tw_add3_o {st : Nat → Nat → Nat} {a t k y : Nat} (h : 2 < k) : tw_add3 st a t k y = st k y := by
  unfold tw_add3
  rw [tw_up_k (by omega), tw_up_k (by omega), tw_up_k (by omega)]
set_option maxHeartbeats 4000000 in
set_option maxRecDepth 100000 in
/-- a change behind the others in the log -/
theorem kX0_addChange (l : Launch) (D : va_G) (cI cJ : ClassId) (x : Nat) (ad : Nat → Nat) (st : Nat → Nat → Nat) (sz : Nat) {a t : Nat} (hc : a < 4) (hn : st 9 0 < 512) (hk : st (24 + a) a < 400) : Met l yX0_addChange wsX0_addChange ({ frames := 0, cells := 0, slots := 0, locals := 0 }) (va_Pc [.ref x, .int (nI a), .int (nI t - 1)] (fun U => U.heap.size = sz ∧ tw_XU D cI cJ x ad st U)) (va_Qi (fun r u => r = nI (st 9 0) ∧ u = tw_add st a t) (tw_XT D cI cJ x ad (va_A (tw_x cI cJ x ad st) sz)) (va_A (tw_x cI cJ x ad st) sz)) 0 0 (va_A (tw_x cI cJ x ad st) sz) := by
  refine Met.ofW (cc := cX0_addChange) (maxL := 5) (ret := (some .int)) (by decide) rfl ?_
  intro p e s m args below meth cd s₁ B hml hv
  obtain ⟨rfl, hsz, hU⟩ := hv
  subst hsz
  have S : CallFix p m cd cX0_addChange 5 s ([.ref x, .int (nI a), .int (nI t - 1)] : List Value).toArray tw_wall RX0 := ⟨B.exec, B.bytes, hml, findClass_of_methodNamed B.named, fun w h => atoms_spec (ws := wsX0_addChange) B.pre w (List.mem_cons_of_mem _ h)⟩
  have hr := B.returns
  have hlk := B.notSynchronized
  have z : va_S (fun q => s.heap.size ≤ q) s.heap s.heap [] := va_S.rf
  have w := tw_X0 hU
  have hA : ∀ q : Nat, s.heap.size ≤ q → va_A (tw_x cI cJ x ad st) s.heap.size q := fun q h => Or.inr h
  generalize va_A (tw_x cI cJ x ad st) s.heap.size = A at w hA ⊢
  have hl := lv_entry ([.ref x, .int (nI a), .int (nI t - 1)]) (n := 5) (Nat.le_of_ble_eq_true rfl)
  rw [lg_entry_eq]
  generalize (lg_sl ([.ref x, .int (nI a), .int (nI t - 1)]) ++ List.replicate (5 - (lg_sl ([.ref x, .int (nI a), .int (nI t - 1)])).length) Slot.unset).toArray = ls at hl ⊢
  have hl : lv_has ls 5 [(0, .ref x), (1, .int (nI a)), (2, .int (nI t - 1))] := hl
  have loop : ∀ (n : Nat) (k : Nat) (H : Heap) (locs : List Loc) (ls : Array Slot), k ≤ 4 → 4 - k < n → TWX D cI cJ x ad (tw_hadK st (tw_add3 st a t) a (st 9 0) k) A s.heap H locs s → lv_has ls 5 [(4, .int (nI k)), (3, .int (nI (st 9 0))), (0, .ref x), (1, .int (nI a)), (2, .int (nI t - 1))] → W p l e (headSpec wsX0_addChange ({ frames := 0, cells := 0, slots := 0, locals := 0 })).room s m ([.ref x, .int (nI a), .int (nI t - 1)] : List Value).toArray below meth cd H locs 0 0 (MQ below (va_Qi (fun r u => r = nI (st 9 0) ∧ u = tw_add st a t) (tw_XT D cI cJ x ad A) A) ([.ref x, .int (nI a), .int (nI t - 1)] : List Value).toArray s 0 0 A) (F0 m 36 ls []) := by
    intro n
    induction n with
    | zero => intros; omega
    | succ n ih =>
      intro k H locs ls hk hm w hl
      refine lv_iload S.1 S.2.1 dX0_addChange_36 (lv_at hl 0 rfl) ?_
      refine lv_iconst (v := nI 4) S.1 S.2.1 dX0_addChange_38 (by decide) ?_
      refine lv_icmp_ge (tgt := 66) S.1 S.2.1 dX0_addChange_39 (by decide) (fun h39 => ?_) (fun h39 => ?_)
      · have hk4 : k = 4 := by have := (tw_le (by omega) (by omega)).mp h39; omega
        subst hk4
        refine lv_aload_n S.1 S.2.1 dX0_addChange_66 rfl (lv_at hl 2 rfl) ?_
        refine xxg_own S w dX0_addChange_67 ?_
        refine lv_iload_n S.1 S.2.1 dX0_addChange_70 rfl (lv_at hl 3 rfl) ?_
        refine xxr_11 S w (by omega) dX0_addChange_71 ?_
        refine lv_aload_n S.1 S.2.1 dX0_addChange_72 rfl (lv_at hl 2 rfl) ?_
        refine xxg_number S w dX0_addChange_73 ?_
        refine lv_iload_n S.1 S.2.1 dX0_addChange_76 rfl (lv_at hl 1 rfl) ?_
        refine xxl_1 S w (by omega) dX0_addChange_77 ?_
        refine tw_t (show _ = nI (st (24 + a) a) from by rw [tw_hadK_o (by omega) (by omega)]; unfold tw_add3; rw [tw_up_k (by omega), tw_up_e]) ?_
        refine lv_iload_n S.1 S.2.1 dX0_addChange_78 rfl (lv_at hl 1 rfl) ?_
        refine xxs_20 S w (by omega) (by omega) dX0_addChange_79 (fun H locs w => ?_)
        refine lv_aload_n S.1 S.2.1 dX0_addChange_80 rfl (lv_at hl 2 rfl) ?_
        refine lv_dup S.1 S.2.1 dX0_addChange_81 rfl ?_
        refine xxg_changes S w dX0_addChange_82 ?_
        refine tw_t (show _ = nI (st 9 0) from by rw [tw_up_k (by omega), tw_hadK_o (by omega) (by omega), tw_add3_o (by omega)]) ?_
        refine lv_iconst (v := nI 1) S.1 S.2.1 dX0_addChange_85 (by decide) ?_
        refine lv_iadd S.1 S.2.1 dX0_addChange_86 ?_
        refine tw_t (nI_add _ _) ?_
        refine xxp_changes S w dX0_addChange_87 (fun H locs w => ?_)
        refine lv_iload_n S.1 S.2.1 dX0_addChange_90 rfl (lv_at hl 1 rfl) ?_
        exact tw_iret S hr hlk w ⟨rfl, rfl⟩ dX0_addChange_91
      · have hk4 : k < 4 := Nat.not_le.mp (fun g => h39 ((tw_le (by omega) (by omega)).mpr g))
        refine lv_aload_n S.1 S.2.1 dX0_addChange_42 rfl (lv_at hl 2 rfl) ?_
        refine xxg_had S w dX0_addChange_43 ?_
        refine lv_iload S.1 S.2.1 dX0_addChange_46 (lv_at hl 0 rfl) ?_
        refine xxr_10 S w (by omega) dX0_addChange_48 ?_
        refine lv_iload_n S.1 S.2.1 dX0_addChange_49 rfl (lv_at hl 1 rfl) ?_
        refine lv_aload_n S.1 S.2.1 dX0_addChange_50 rfl (lv_at hl 2 rfl) ?_
        refine xxg_known S w dX0_addChange_51 ?_
        refine lv_iload_n S.1 S.2.1 dX0_addChange_54 rfl (lv_at hl 3 rfl) ?_
        refine xxr_12 S w (by omega) dX0_addChange_55 ?_
        refine lv_iload S.1 S.2.1 dX0_addChange_56 (lv_at hl 0 rfl) ?_
        refine xxl_24 S w (by omega) (by omega) dX0_addChange_58 ?_
        refine tw_t (show _ = nI (st (24 + a) k) from by rw [tw_hadK_o (by omega) (by omega), tw_add3_o (by omega)]) ?_
        refine xxs_16 S w (by omega) (by omega) dX0_addChange_59 (fun H locs w => ?_)
        refine lv_iinc S.1 S.2.1 dX0_addChange_60 hl (k := 0) rfl (tw_inc _) (by decide) rfl (fun ls hl => ?_)
        refine lv_goto (tgt := 36) S.1 S.2.1 dX0_addChange_63 (by decide) ?_
        exact ih (k + 1) H locs ls (by omega) (by omega) w (lv_sub hl [0, 1, 2, 3, 4] rfl)
  refine lv_aload_n S.1 S.2.1 dX0_addChange_0 rfl (lv_at hl 0 rfl) ?_
  refine xxg_changes S w dX0_addChange_1 ?_
  refine lv_istore_n S.1 S.2.1 dX0_addChange_4 rfl hl (by decide) rfl (fun ls hl => ?_)
  refine lv_aload_n S.1 S.2.1 dX0_addChange_5 rfl (lv_at hl 1 rfl) ?_
  refine xxg_maker S w dX0_addChange_6 ?_
  refine lv_iload_n S.1 S.2.1 dX0_addChange_9 rfl (lv_at hl 0 rfl) ?_
  refine lv_iload_n S.1 S.2.1 dX0_addChange_10 rfl (lv_at hl 2 rfl) ?_
  refine xxs_0 S w (by omega)  dX0_addChange_11 (fun H locs w => ?_)
  refine lv_aload_n S.1 S.2.1 dX0_addChange_12 rfl (lv_at hl 1 rfl) ?_
  refine xxg_number S w dX0_addChange_13 ?_
  refine lv_iload_n S.1 S.2.1 dX0_addChange_16 rfl (lv_at hl 0 rfl) ?_
  refine lv_aload_n S.1 S.2.1 dX0_addChange_17 rfl (lv_at hl 1 rfl) ?_
  refine xxg_known S w dX0_addChange_18 ?_
  refine lv_iload_n S.1 S.2.1 dX0_addChange_21 rfl (lv_at hl 2 rfl) ?_
  refine xxr_12 S w (by omega) dX0_addChange_22 ?_
  refine lv_iload_n S.1 S.2.1 dX0_addChange_23 rfl (lv_at hl 2 rfl) ?_
  refine xxl_24 S w (by omega) (by omega) dX0_addChange_24 ?_
  refine tw_t (show _ = nI (st (24 + a) a) from by rw [tw_up_k (by omega)]) ?_
  refine xxs_1 S w (by omega)  dX0_addChange_25 (fun H locs w => ?_)
  refine lv_aload_n S.1 S.2.1 dX0_addChange_26 rfl (lv_at hl 1 rfl) ?_
  refine xxg_taken S w dX0_addChange_27 ?_
  refine lv_iload_n S.1 S.2.1 dX0_addChange_30 rfl (lv_at hl 0 rfl) ?_
  refine lv_iload_n S.1 S.2.1 dX0_addChange_31 rfl (lv_at hl 3 rfl) ?_
  refine xxs_2 S w (by omega)  dX0_addChange_32 (fun H locs w => ?_)
  refine lv_iconst (v := nI 0) S.1 S.2.1 dX0_addChange_33 (by decide) ?_
  refine lv_istore S.1 S.2.1 dX0_addChange_34 hl (by decide) rfl (fun ls hl => ?_)
  exact loop 5 0 _ _ _ (by omega) (by omega) w (lv_sub hl [0, 1, 2, 3, 4] rfl)
theorem tw_pm1 (b : Nat) : nI b - 1 + nI 1 = nI b := by
  rw [show nI 1 = (1 : Int32) by decide, Int32.sub_add_cancel]
/-- the order with the places from q on moved by one -/
def tw_mv (st : Nat → Nat → Nat) (q : Nat) : Nat → Nat → Nat := fun k y => if k = 6 then (if q + 1 ≤ y ∧ y < st 9 1 + 1 then st 6 (y - 1) else st 6 y) else st k y
theorem tw_mv_w {cI cJ : ClassId} {x : Nat} {ad : Nat → Nat} {st : Nat → Nat → Nat} {q : Nat} (hq : q ≤ st 9 1) (h5 : st 9 1 < 512) : (tw_x cI cJ x ad st).set 7 (ad 6, .inl (cI, 512, .inl (va_cpy (fun i => nI (st 6 i)) (fun i => nI (st 6 i)) (nI q).toNatClampNeg (nI (q + 1)).toNatClampNeg (nI (st 9 1 - q)).toNatClampNeg))) = tw_x cI cJ x ad (tw_mv st q) := by
  have h : va_cpy (fun i => nI (st 6 i)) (fun i => nI (st 6 i)) (nI q).toNatClampNeg (nI (q + 1)).toNatClampNeg (nI (st 9 1 - q)).toNatClampNeg = (fun j => nI (tw_mv st q 6 j)) := by
    rw [nI_clamp (by omega), nI_clamp (by omega), nI_clamp (by omega)]
    funext j
    unfold va_cpy tw_mv
    rw [if_pos rfl]
    by_cases g : q + 1 ≤ j ∧ j < st 9 1 + 1
    · rw [if_pos (show q + 1 ≤ j ∧ j < q + 1 + (st 9 1 - q) from ⟨g.1, by omega⟩), if_pos g, show q + (j - (q + 1)) = j - 1 by omega]
    · rw [if_neg (show ¬ (q + 1 ≤ j ∧ j < q + 1 + (st 9 1 - q)) from fun z => g ⟨z.1, by omega⟩), if_neg g]
  rw [h]
  rfl
/-- the order with i put in at q -/
def tw_wv (st : Nat → Nat → Nat) (q i : Nat) : Nat → Nat → Nat := tw_up (tw_up (tw_mv st q) 6 q i) 9 1 (st 9 1 + 1)
set_option maxHeartbeats 4000000 in
set_option maxRecDepth 100000 in
/-- a letter is woven into the order -/
theorem kX0_weave (l : Launch) (D : va_G) (cI cJ : ClassId) (x : Nat) (ad : Nat → Nat) (st : Nat → Nat → Nat) (sz : Nat) {i b : Nat} (hi : i < 512) (hb : b ≤ st 9 1) (h5 : st 9 1 < 512) (hod : ∀ p, p < st 9 1 → st 6 p < 512) (hn4 : ∀ j, st 4 j < 2147483648) : Met l yX0_weave wsX0_weave ({ frames := 1, cells := 0, slots := 0, locals := 60 }) (va_Pc [.ref x, .int (nI i), .int (nI b - 1)] (fun U => U.heap.size = sz ∧ tw_XU D cI cJ x ad st U)) (va_Qv (fun u => ∃ q, b ≤ q ∧ q ≤ st 9 1 ∧ (∀ j, b ≤ j → j < q → st 4 i < st 4 (st 6 j)) ∧ (q < st 9 1 → st 4 (st 6 q) ≤ st 4 i) ∧ u = tw_wv st q i) (tw_XT D cI cJ x ad (va_A (tw_x cI cJ x ad st) sz)) (va_A (tw_x cI cJ x ad st) sz)) 0 0 (va_A (tw_x cI cJ x ad st) sz) := by
  refine Met.ofW (cc := cX0_weave) (maxL := 4) (ret := none) (by decide) rfl ?_
  intro p e s m args below meth cd s₁ B hml hv
  obtain ⟨rfl, hsz, hU⟩ := hv
  subst hsz
  have S : CallFix p m cd cX0_weave 4 s ([.ref x, .int (nI i), .int (nI b - 1)] : List Value).toArray tw_wall RX0 := ⟨B.exec, B.bytes, hml, findClass_of_methodNamed B.named, fun w h => atoms_spec (ws := wsX0_weave) B.pre w (List.mem_cons_of_mem _ h)⟩
  have hr := B.returns
  have hlk := B.notSynchronized
  have z : va_S (fun q => s.heap.size ≤ q) s.heap s.heap [] := va_S.rf
  have w := tw_X0 hU
  have hA : ∀ q : Nat, s.heap.size ≤ q → va_A (tw_x cI cJ x ad st) s.heap.size q := fun q h => Or.inr h
  generalize va_A (tw_x cI cJ x ad st) s.heap.size = A at w hA ⊢
  have hl := lv_entry ([.ref x, .int (nI i), .int (nI b - 1)]) (n := 4) (Nat.le_of_ble_eq_true rfl)
  rw [lg_entry_eq]
  generalize (lg_sl ([.ref x, .int (nI i), .int (nI b - 1)]) ++ List.replicate (4 - (lg_sl ([.ref x, .int (nI i), .int (nI b - 1)])).length) Slot.unset).toArray = ls at hl ⊢
  have hl : lv_has ls 4 [(0, .ref x), (1, .int (nI i)), (2, .int (nI b - 1))] := hl
  have loop : ∀ (n : Nat) (q : Nat) (H : Heap) (locs : List Loc) (ls : Array Slot), q ≤ st 9 1 → st 9 1 - q < n → b ≤ q → (∀ j, b ≤ j → j < q → st 4 i < st 4 (st 6 j)) → TWX D cI cJ x ad st A s.heap H locs s → lv_has ls 4 [(3, .int (nI q)), (0, .ref x), (1, .int (nI i)), (2, .int (nI b - 1))] → W p l e (headSpec wsX0_weave ({ frames := 1, cells := 0, slots := 0, locals := 60 })).room s m ([.ref x, .int (nI i), .int (nI b - 1)] : List Value).toArray below meth cd H locs 0 0 (MQ below (va_Qv (fun u => ∃ q, b ≤ q ∧ q ≤ st 9 1 ∧ (∀ j, b ≤ j → j < q → st 4 i < st 4 (st 6 j)) ∧ (q < st 9 1 → st 4 (st 6 q) ≤ st 4 i) ∧ u = tw_wv st q i) (tw_XT D cI cJ x ad A) A) ([.ref x, .int (nI i), .int (nI b - 1)] : List Value).toArray s 0 0 A) (F0 m 4 ls []) := by
    intro n
    induction n with
    | zero => intros; omega
    | succ n ih =>
      intro q H locs ls hq0 hm hb hgt w hl
      refine lv_iload_n S.1 S.2.1 dX0_weave_4 rfl (lv_at hl 0 rfl) ?_
      refine lv_aload_n S.1 S.2.1 dX0_weave_5 rfl (lv_at hl 1 rfl) ?_
      refine xxg_letters S w dX0_weave_6 ?_
      refine lv_icmp_ge (tgt := 38) S.1 S.2.1 dX0_weave_9 (by decide) (fun h9 => ?_) (fun h9 => ?_)
      · have hqe : q < st 9 1 → st 4 (st 6 q) ≤ st 4 i := fun g => by have := (tw_le (by omega) (by omega)).mp h9; omega
        refine lv_aload_n S.1 S.2.1 dX0_weave_38 rfl (lv_at hl 1 rfl) ?_
        refine xxg_order S w dX0_weave_39 ?_
        refine lv_iload_n S.1 S.2.1 dX0_weave_42 rfl (lv_at hl 0 rfl) ?_
        refine lv_aload_n S.1 S.2.1 dX0_weave_43 rfl (lv_at hl 1 rfl) ?_
        refine xxg_order S w dX0_weave_44 ?_
        refine lv_iload_n S.1 S.2.1 dX0_weave_47 rfl (lv_at hl 0 rfl) ?_
        refine lv_iconst (v := nI 1) S.1 S.2.1 dX0_weave_48 (by decide) ?_
        refine lv_iadd S.1 S.2.1 dX0_weave_49 ?_
        refine tw_t (nI_add _ _) ?_
        refine lv_aload_n S.1 S.2.1 dX0_weave_50 rfl (lv_at hl 1 rfl) ?_
        refine xxg_letters S w dX0_weave_51 ?_
        refine lv_iload_n S.1 S.2.1 dX0_weave_54 rfl (lv_at hl 0 rfl) ?_
        refine lv_isub S.1 S.2.1 dX0_weave_55 ?_
        refine tw_t (pk_sub (by omega)) ?_
        refine va_copyi S.1 S.2.1 (S.2.2.1.trans hl.1.symm) S.2.2.2.1 (S.2.2.2.2 _ wl_X0_113) (S.2.2.2.2 _ wv_arraycopy) (S.2.2.2.2 _ wt_arraycopy) (S.2.2.2.2 _ wi_System) w.1 w.2.1 w.2.2.1 w.2.2.2 7 7 0 0 rfl rfl rfl rfl rfl (nI_pos (by omega)) (nI_pos (by omega)) (nI_pos (by omega)) (by rw [nI_clamp (by omega), nI_clamp (by omega)]; omega) (by rw [nI_clamp (by omega), nI_clamp (by omega)]; omega) (fun _ _ => rfl) (Nat.le_of_ble_eq_true rfl) (Nat.le_of_ble_eq_true rfl) dX0_weave_56 (fun H locs hP hD hS => ?_)
        rw [tw_mv_w hq0 h5] at hP hD
        have w : TWX D cI cJ x ad (tw_mv st q) A s.heap H locs s := ⟨w.1, hP, hD, hS⟩
        refine lv_aload_n S.1 S.2.1 dX0_weave_59 rfl (lv_at hl 1 rfl) ?_
        refine xxg_order S w dX0_weave_60 ?_
        refine lv_iload_n S.1 S.2.1 dX0_weave_63 rfl (lv_at hl 0 rfl) ?_
        refine lv_iload_n S.1 S.2.1 dX0_weave_64 rfl (lv_at hl 2 rfl) ?_
        refine xxs_6 S w (by omega)  dX0_weave_65 (fun H locs w => ?_)
        refine lv_aload_n S.1 S.2.1 dX0_weave_66 rfl (lv_at hl 1 rfl) ?_
        refine lv_dup S.1 S.2.1 dX0_weave_67 rfl ?_
        refine xxg_letters S w dX0_weave_68 ?_
        refine tw_t (show _ = nI (st 9 1) from rfl) ?_
        refine lv_iconst (v := nI 1) S.1 S.2.1 dX0_weave_71 (by decide) ?_
        refine lv_iadd S.1 S.2.1 dX0_weave_72 ?_
        refine tw_t (nI_add _ _) ?_
        refine xxp_letters S w dX0_weave_73 (fun H locs w => ?_)
        exact tw_vret S hr hlk w ⟨q, hb, hq0, hgt, hqe, rfl⟩ dX0_weave_76
      · have hq : q < st 9 1 := Nat.not_le.mp (fun g => h9 ((tw_le (by omega) (by omega)).mpr g))
        refine lv_aload_n S.1 S.2.1 dX0_weave_12 rfl (lv_at hl 1 rfl) ?_
        refine xxg_names S w dX0_weave_13 ?_
        refine lv_aload_n S.1 S.2.1 dX0_weave_16 rfl (lv_at hl 1 rfl) ?_
        refine xxg_order S w dX0_weave_17 ?_
        refine lv_iload_n S.1 S.2.1 dX0_weave_20 rfl (lv_at hl 0 rfl) ?_
        refine xxl_6 S w (by omega) dX0_weave_21 ?_
        refine xxl_4 S w (hod q hq) dX0_weave_22 ?_
        refine lv_aload_n S.1 S.2.1 dX0_weave_23 rfl (lv_at hl 1 rfl) ?_
        refine xxg_names S w dX0_weave_24 ?_
        refine lv_iload_n S.1 S.2.1 dX0_weave_27 rfl (lv_at hl 2 rfl) ?_
        refine xxl_4 S w (by omega) dX0_weave_28 ?_
        refine lv_icmp_le (tgt := 38) S.1 S.2.1 dX0_weave_29 (by decide) (fun h29 => ?_) (fun h29 => ?_)
        · have hqe : q < st 9 1 → st 4 (st 6 q) ≤ st 4 i := fun _ => (tw_le (hn4 _) (hn4 _)).mp h29
          refine lv_aload_n S.1 S.2.1 dX0_weave_38 rfl (lv_at hl 1 rfl) ?_
          refine xxg_order S w dX0_weave_39 ?_
          refine lv_iload_n S.1 S.2.1 dX0_weave_42 rfl (lv_at hl 0 rfl) ?_
          refine lv_aload_n S.1 S.2.1 dX0_weave_43 rfl (lv_at hl 1 rfl) ?_
          refine xxg_order S w dX0_weave_44 ?_
          refine lv_iload_n S.1 S.2.1 dX0_weave_47 rfl (lv_at hl 0 rfl) ?_
          refine lv_iconst (v := nI 1) S.1 S.2.1 dX0_weave_48 (by decide) ?_
          refine lv_iadd S.1 S.2.1 dX0_weave_49 ?_
          refine tw_t (nI_add _ _) ?_
          refine lv_aload_n S.1 S.2.1 dX0_weave_50 rfl (lv_at hl 1 rfl) ?_
          refine xxg_letters S w dX0_weave_51 ?_
          refine lv_iload_n S.1 S.2.1 dX0_weave_54 rfl (lv_at hl 0 rfl) ?_
          refine lv_isub S.1 S.2.1 dX0_weave_55 ?_
          refine tw_t (pk_sub (by omega)) ?_
          refine va_copyi S.1 S.2.1 (S.2.2.1.trans hl.1.symm) S.2.2.2.1 (S.2.2.2.2 _ wl_X0_113) (S.2.2.2.2 _ wv_arraycopy) (S.2.2.2.2 _ wt_arraycopy) (S.2.2.2.2 _ wi_System) w.1 w.2.1 w.2.2.1 w.2.2.2 7 7 0 0 rfl rfl rfl rfl rfl (nI_pos (by omega)) (nI_pos (by omega)) (nI_pos (by omega)) (by rw [nI_clamp (by omega), nI_clamp (by omega)]; omega) (by rw [nI_clamp (by omega), nI_clamp (by omega)]; omega) (fun _ _ => rfl) (Nat.le_of_ble_eq_true rfl) (Nat.le_of_ble_eq_true rfl) dX0_weave_56 (fun H locs hP hD hS => ?_)
          rw [tw_mv_w hq0 h5] at hP hD
          have w : TWX D cI cJ x ad (tw_mv st q) A s.heap H locs s := ⟨w.1, hP, hD, hS⟩
          refine lv_aload_n S.1 S.2.1 dX0_weave_59 rfl (lv_at hl 1 rfl) ?_
          refine xxg_order S w dX0_weave_60 ?_
          refine lv_iload_n S.1 S.2.1 dX0_weave_63 rfl (lv_at hl 0 rfl) ?_
          refine lv_iload_n S.1 S.2.1 dX0_weave_64 rfl (lv_at hl 2 rfl) ?_
          refine xxs_6 S w (by omega)  dX0_weave_65 (fun H locs w => ?_)
          refine lv_aload_n S.1 S.2.1 dX0_weave_66 rfl (lv_at hl 1 rfl) ?_
          refine lv_dup S.1 S.2.1 dX0_weave_67 rfl ?_
          refine xxg_letters S w dX0_weave_68 ?_
          refine tw_t (show _ = nI (st 9 1) from rfl) ?_
          refine lv_iconst (v := nI 1) S.1 S.2.1 dX0_weave_71 (by decide) ?_
          refine lv_iadd S.1 S.2.1 dX0_weave_72 ?_
          refine tw_t (nI_add _ _) ?_
          refine xxp_letters S w dX0_weave_73 (fun H locs w => ?_)
          exact tw_vret S hr hlk w ⟨q, hb, hq0, hgt, hqe, rfl⟩ dX0_weave_76
        · refine lv_iinc S.1 S.2.1 dX0_weave_32 hl (k := 0) rfl (tw_inc _) (by decide) rfl (fun ls hl => ?_)
          refine lv_goto (tgt := 4) S.1 S.2.1 dX0_weave_35 (by decide) ?_
          exact ih (q + 1) H locs ls (by omega) (by omega) (by omega) (fun j h1 h2 => by rcases Nat.lt_or_ge j q with g | g; exact hgt j h1 g; rw [show j = q by omega]; exact Nat.not_le.mp (fun g => h29 ((tw_le (hn4 _) (hn4 _)).mpr g))) w (lv_sub hl [0, 1, 2, 3] rfl)
  refine lv_iload_n S.1 S.2.1 dX0_weave_0 rfl (lv_at hl 2 rfl) ?_
  refine lv_iconst (v := nI 1) S.1 S.2.1 dX0_weave_1 (by decide) ?_
  refine lv_iadd S.1 S.2.1 dX0_weave_2 ?_
  refine tw_t (tw_pm1 b) ?_
  refine lv_istore_n S.1 S.2.1 dX0_weave_3 rfl hl (by decide) rfl (fun ls hl => ?_)
  exact loop (st 9 1 + 1) b _ _ _ hb (by omega) (Nat.le_refl b) (fun j h1 h2 => by omega) w (lv_sub hl [0, 1, 2, 3] rfl)
set_option maxHeartbeats 4000000 in
set_option maxRecDepth 100000 in
/-- a number from 0 up to b -/
theorem kX0_checkUpTo (l : Launch) (sz : Nat) (hlt : l.stackTraces = false) {v b : Int32} : vx_Met l yX0_checkUpTo wsX0_checkUpTo ({ frames := 6, cells := 1, slots := 6, locals := 82 }) (va_Pc [.int v, .int b] (fun U => U.heap.size = sz ∧ tw_Z (fun q => sz ≤ q) U)) (va_Qv (fun (_ : Unit) => (¬ v < 0 ∧ v ≤ b)) (fun _ _ => True) (fun q => sz ≤ q)) (tw_XC (fun u => u = 1 ∧ (v < 0 ∨ b < v)) sz) 1 6 (fun q => sz ≤ q) := by
  refine vx_ofW (cc := cX0_checkUpTo) (maxL := 2) (ret := none) (by decide) rfl ?_
  intro p e s m args below meth cd s₁ B hml ht hv
  obtain ⟨rfl, hsz, Z⟩ := hv
  subst hsz
  have S : CallFix p m cd cX0_checkUpTo 2 s ([.int v, .int b] : List Value).toArray tw_wall RX0 := ⟨B.exec, B.bytes, hml, findClass_of_methodNamed B.named, fun w h => atoms_spec (ws := wsX0_checkUpTo) B.pre w (List.mem_cons_of_mem _ h)⟩
  have hr := B.returns
  have hlk := B.notSynchronized
  have z : va_S (fun q => s.heap.size ≤ q) s.heap s.heap [] := va_S.rf
  have hl := lv_entry ([.int v, .int b]) (n := 2) (Nat.le_of_ble_eq_true rfl)
  rw [lg_entry_eq]
  generalize (lg_sl ([.int v, .int b]) ++ List.replicate (2 - (lg_sl ([.int v, .int b])).length) Slot.unset).toArray = ls at hl ⊢
  have hl : lv_has ls 2 [(0, .int v), (1, .int b)] := hl
  refine lv_iload_n S.1 S.2.1 dX0_checkUpTo_0 rfl (lv_at hl 0 rfl) ?_
  refine lv_if_lt (tgt := 9) S.1 S.2.1 dX0_checkUpTo_1 (by decide) (fun h1 => ?_) (fun h1 => ?_)
  · exact tw_throwA S hlt ht hlk Z Z.2.2.2.1 z hl.1 (by first | exact ⟨rfl, Or.inl h1⟩ | exact ⟨rfl, Or.inr (Int32.not_le.mp h6)⟩) (fun q h => h) dX0_checkUpTo_9 dX0_checkUpTo_12 dX0_checkUpTo_13 dX0_checkUpTo_15 dX0_checkUpTo_18 (Nat.le_of_ble_eq_true rfl) (Nat.le_of_ble_eq_true rfl) (Nat.le_of_ble_eq_true rfl) (Nat.le_of_ble_eq_true rfl) (Nat.le_of_ble_eq_true rfl) (Nat.le_of_ble_eq_true rfl)
  · refine lv_iload_n S.1 S.2.1 dX0_checkUpTo_4 rfl (lv_at hl 0 rfl) ?_
    refine lv_iload_n S.1 S.2.1 dX0_checkUpTo_5 rfl (lv_at hl 1 rfl) ?_
    refine lv_icmp_le (tgt := 19) S.1 S.2.1 dX0_checkUpTo_6 (by decide) (fun h6 => ?_) (fun h6 => ?_)
    · refine vx_ret ?_
      refine W.widen (k := 1) (n := 6) (by omega) (by omega) ?_
      exact tw_vro S hr hlk z ⟨h1, h6⟩ dX0_checkUpTo_19
    · exact tw_throwA S hlt ht hlk Z Z.2.2.2.1 z hl.1 (by first | exact ⟨rfl, Or.inl h1⟩ | exact ⟨rfl, Or.inr (Int32.not_le.mp h6)⟩) (fun q h => h) dX0_checkUpTo_9 dX0_checkUpTo_12 dX0_checkUpTo_13 dX0_checkUpTo_15 dX0_checkUpTo_18 (Nat.le_of_ble_eq_true rfl) (Nat.le_of_ble_eq_true rfl) (Nat.le_of_ble_eq_true rfl) (Nat.le_of_ble_eq_true rfl) (Nat.le_of_ble_eq_true rfl) (Nat.le_of_ble_eq_true rfl)
set_option maxHeartbeats 4000000 in
set_option maxRecDepth 100000 in
/-- a copy -/
theorem kX0_checkCopy (l : Launch) (sz : Nat) (hlt : l.stackTraces = false) {v : Int32} : vx_Met l yX0_checkCopy wsX0_checkCopy ({ frames := 7, cells := 1, slots := 6, locals := 103 }) (va_Pc [.int v] (fun U => U.heap.size = sz ∧ tw_Z (fun q => sz ≤ q) U)) (va_Qv (fun (_ : Unit) => (¬ v < 0 ∧ v ≤ nI 3)) (fun _ _ => True) (fun q => sz ≤ q)) (tw_XC (fun u => u = 1 ∧ (v < 0 ∨ nI 3 < v)) sz) 1 6 (fun q => sz ≤ q) := by
  refine vx_ofW (cc := cX0_checkCopy) (maxL := 1) (ret := none) (by decide) rfl ?_
  intro p e s m args below meth cd s₁ B hml ht hv
  obtain ⟨rfl, hsz, Z⟩ := hv
  subst hsz
  have S : CallFix p m cd cX0_checkCopy 1 s ([.int v] : List Value).toArray tw_wall RX0 := ⟨B.exec, B.bytes, hml, findClass_of_methodNamed B.named, fun w h => atoms_spec (ws := wsX0_checkCopy) B.pre w (List.mem_cons_of_mem _ h)⟩
  have hr := B.returns
  have hlk := B.notSynchronized
  have z : va_S (fun q => s.heap.size ≤ q) s.heap s.heap [] := va_S.rf
  have hl := lv_entry ([.int v]) (n := 1) (Nat.le_of_ble_eq_true rfl)
  rw [lg_entry_eq]
  generalize (lg_sl ([.int v]) ++ List.replicate (1 - (lg_sl ([.int v])).length) Slot.unset).toArray = ls at hl ⊢
  have hl : lv_has ls 1 [(0, .int v)] := hl
  refine lv_iload_n S.1 S.2.1 dX0_checkCopy_0 rfl (lv_at hl 0 rfl) ?_
  refine lv_iconst (v := nI 3) S.1 S.2.1 dX0_checkCopy_1 (by decide) ?_
  refine tw_chk (n := 2) S ht hlk Z z (fun q h => h) (kX0_checkUpTo l _ hlt (v := v) (b := nI 3)) (tw_gS wl_X0_59 wt_X0_checkUpTo wi_X0 wy_X0_checkUpTo) rfl rfl (by decide +kernel) ⟨Nat.le_of_ble_eq_true rfl, Nat.le_of_ble_eq_true rfl⟩ rfl hl.1 rfl (Nat.le_of_ble_eq_true rfl) dX0_checkCopy_2 ⟨Nat.le_of_ble_eq_true rfl, Nat.le_of_ble_eq_true rfl⟩ (Nat.le_of_ble_eq_true rfl) (Nat.le_of_ble_eq_true rfl) (fun u h => h) (fun H locs hp hk z => ?_)
  refine vx_ret ?_
  exact tw_vro S hr hlk z hp dX0_checkCopy_5
set_option maxHeartbeats 4000000 in
set_option maxRecDepth 100000 in
/-- room for a change -/
theorem kX0_checkRoom (l : Launch) (D : va_G) (cI cJ : ClassId) (x : Nat) (ad : Nat → Nat) (st : Nat → Nat → Nat) (sz : Nat) (hlt : l.stackTraces = false) {a : Nat} (hc : a < 4) (hb : st (24 + a) a < 2147483648) (hn : st 9 0 < 2147483648) : vx_Met l yX0_checkRoom wsX0_checkRoom ({ frames := 6, cells := 1, slots := 6, locals := 82 }) (va_Pc [.ref x, .int (nI a)] (fun U => U.heap.size = sz ∧ tw_Z (fun q => sz ≤ q) U ∧ tw_XU D cI cJ x ad st U)) (va_Qv (fun (_ : Unit) => (st (24 + a) a < 400 ∧ st 9 0 < 512)) (fun _ _ => True) (fun q => sz ≤ q)) (tw_XC (fun u => u = 2 ∧ (400 ≤ st (24 + a) a ∨ 512 ≤ st 9 0)) sz) 1 6 (fun q => sz ≤ q) := by
  refine vx_ofW (cc := cX0_checkRoom) (maxL := 2) (ret := none) (by decide) rfl ?_
  intro p e s m args below meth cd s₁ B hml ht hv
  obtain ⟨rfl, hsz, Z, hU⟩ := hv
  subst hsz
  have S : CallFix p m cd cX0_checkRoom 2 s ([.ref x, .int (nI a)] : List Value).toArray tw_wall RX0 := ⟨B.exec, B.bytes, hml, findClass_of_methodNamed B.named, fun w h => atoms_spec (ws := wsX0_checkRoom) B.pre w (List.mem_cons_of_mem _ h)⟩
  have hr := B.returns
  have hlk := B.notSynchronized
  have z : va_S (fun q => s.heap.size ≤ q) s.heap s.heap [] := va_S.rf
  have w := tw_X0 hU
  have hA : ∀ q : Nat, s.heap.size ≤ q → va_A (tw_x cI cJ x ad st) s.heap.size q := fun q h => Or.inr h
  generalize va_A (tw_x cI cJ x ad st) s.heap.size = A at w hA
  have hl := lv_entry ([.ref x, .int (nI a)]) (n := 2) (Nat.le_of_ble_eq_true rfl)
  rw [lg_entry_eq]
  generalize (lg_sl ([.ref x, .int (nI a)]) ++ List.replicate (2 - (lg_sl ([.ref x, .int (nI a)])).length) Slot.unset).toArray = ls at hl ⊢
  have hl : lv_has ls 2 [(0, .ref x), (1, .int (nI a))] := hl
  refine lv_aload_n S.1 S.2.1 dX0_checkRoom_0 rfl (lv_at hl 0 rfl) ?_
  refine xxg_known S w dX0_checkRoom_1 ?_
  refine lv_iload_n S.1 S.2.1 dX0_checkRoom_4 rfl (lv_at hl 1 rfl) ?_
  refine xxr_12 S w (by omega) dX0_checkRoom_5 ?_
  refine lv_iload_n S.1 S.2.1 dX0_checkRoom_6 rfl (lv_at hl 1 rfl) ?_
  refine xxl_24 S w (by omega) (by omega) dX0_checkRoom_7 ?_
  refine lv_sipush (v := nI 400) S.1 S.2.1 dX0_checkRoom_8 (by decide) ?_
  refine lv_icmp_ge (tgt := 24) S.1 S.2.1 dX0_checkRoom_11 (by decide) (fun h11 => ?_) (fun h11 => ?_)
  · have ha : 400 ≤ st (24 + a) a := (tw_le (by omega) hb).mp h11
    exact tw_throwB S hlt ht hlk Z Z.2.2.2.2.1 z hl.1 (by first | exact ⟨rfl, Or.inl ha⟩ | exact ⟨rfl, Or.inr h9⟩) (fun q h => h) dX0_checkRoom_24 dX0_checkRoom_27 dX0_checkRoom_28 dX0_checkRoom_30 dX0_checkRoom_33 (Nat.le_of_ble_eq_true rfl) (Nat.le_of_ble_eq_true rfl) (Nat.le_of_ble_eq_true rfl) (Nat.le_of_ble_eq_true rfl) (Nat.le_of_ble_eq_true rfl) (Nat.le_of_ble_eq_true rfl)
  · have ha : st (24 + a) a < 400 := Nat.not_le.mp (fun g => h11 ((tw_le (by omega) hb).mpr g))
    refine lv_aload_n S.1 S.2.1 dX0_checkRoom_14 rfl (lv_at hl 0 rfl) ?_
    refine xxg_changes S w dX0_checkRoom_15 ?_
    refine lv_sipush (v := nI 512) S.1 S.2.1 dX0_checkRoom_18 (by decide) ?_
    refine lv_icmp_lt (tgt := 34) S.1 S.2.1 dX0_checkRoom_21 (by decide) (fun h21 => ?_) (fun h21 => ?_)
    · have h9 : st 9 0 < 512 := by first | exact (tw_lt hn (by omega)).mp h21 | exact Nat.not_le.mp (fun g => by first | exact h21 ((tw_le (by omega) hn).mpr g) | exact absurd h21 (Int32.not_lt.mpr ((tw_le (by omega) hn).mpr g)))
      refine vx_ret ?_
      refine W.widen (k := 1) (n := 6) (by omega) (by omega) ?_
      exact tw_vro S hr hlk z ⟨ha, h9⟩ dX0_checkRoom_34
    · have h9 : 512 ≤ st 9 0 := by first | exact (tw_le (by omega) hn).mp h21 | exact Nat.not_lt.mp (fun g => h21 ((tw_lt hn (by omega)).mpr g))
      exact tw_throwB S hlt ht hlk Z Z.2.2.2.2.1 z hl.1 (by first | exact ⟨rfl, Or.inl ha⟩ | exact ⟨rfl, Or.inr h9⟩) (fun q h => h) dX0_checkRoom_24 dX0_checkRoom_27 dX0_checkRoom_28 dX0_checkRoom_30 dX0_checkRoom_33 (Nat.le_of_ble_eq_true rfl) (Nat.le_of_ble_eq_true rfl) (Nat.le_of_ble_eq_true rfl) (Nat.le_of_ble_eq_true rfl) (Nat.le_of_ble_eq_true rfl) (Nat.le_of_ble_eq_true rfl)
