theorem tw_inc (i : Nat) : nI i + Int32.ofInt 1 = nI (i + 1) := nI_1 i
theorem tw_b31 {a : Nat} (h : a < 2147483648) : a < 2 ^ 31 := h
theorem tw_le {a b : Nat} (ha : a < 2147483648) (hb : b < 2147483648) : nI a ≤ nI b ↔ a ≤ b := nI_leI ha hb
theorem tw_lt {a b : Nat} (ha : a < 2147483648) (hb : b < 2147483648) : nI a < nI b ↔ a < b := nI_ltI ha hb
theorem tw_eq {a b : Nat} (ha : a < 2147483648) (hb : b < 2147483648) : nI a = nI b ↔ a = b := nI_eq ha hb
set_option maxHeartbeats 4000000 in
set_option maxRecDepth 100000 in
/-- whether a copy shows a letter -/
theorem kX0_isShown (l : Launch) (D : va_G) (cI cJ : ClassId) (x : Nat) (ad : Nat → Nat) (st : Nat → Nat → Nat) (sz : Nat) {a i : Nat} (hc : a < 4) (hi : i < 512) (h16 : st 5 i < 16) : Met l yX0_isShown wsX0_isShown ({ frames := 0, cells := 0, slots := 0, locals := 0 }) (va_Pc [.ref x, .int (nI a), .int (nI i)] (fun U => U.heap.size = sz ∧ tw_XU D cI cJ x ad st U)) (va_Qi (fun r (_ : Unit) => (r = 1 ∧ (st 5 i).testBit a = true) ∨ (r = 0 ∧ (st 5 i).testBit a = false)) (fun _ _ => True) (fun q => sz ≤ q)) 0 0 (fun q => sz ≤ q) := by
  refine Met.ofW (cc := cX0_isShown) (maxL := 3) (ret := (some .boolean)) (by decide) rfl ?_
  intro p e s m args below meth cd s₁ B hml hv
  obtain ⟨rfl, hsz, hU⟩ := hv
  subst hsz
  have S : CallFix p m cd cX0_isShown 3 s ([.ref x, .int (nI a), .int (nI i)] : List Value).toArray tw_wall RX0 := ⟨B.exec, B.bytes, hml, findClass_of_methodNamed B.named, fun w h => atoms_spec (ws := wsX0_isShown) B.pre w (List.mem_cons_of_mem _ h)⟩
  have hr := B.returns
  have hlk := B.notSynchronized
  have z : va_S (fun q => s.heap.size ≤ q) s.heap s.heap [] := va_S.rf
  have w := tw_X0 hU
  have hA : ∀ q : Nat, s.heap.size ≤ q → va_A (tw_x cI cJ x ad st) s.heap.size q := fun q h => Or.inr h
  generalize va_A (tw_x cI cJ x ad st) s.heap.size = A at w hA
  have hl := lv_entry ([.ref x, .int (nI a), .int (nI i)]) (n := 3) (Nat.le_of_ble_eq_true rfl)
  rw [lg_entry_eq]
  generalize (lg_sl ([.ref x, .int (nI a), .int (nI i)]) ++ List.replicate (3 - (lg_sl ([.ref x, .int (nI a), .int (nI i)])).length) Slot.unset).toArray = ls at hl ⊢
  have hl : lv_has ls 3 [(0, .ref x), (1, .int (nI a)), (2, .int (nI i))] := hl
  refine lv_aload_n S.1 S.2.1 dX0_isShown_0 rfl (lv_at hl 0 rfl) ?_
  refine xxg_shownIn S w dX0_isShown_1 ?_
  refine lv_iload_n S.1 S.2.1 dX0_isShown_4 rfl (lv_at hl 2 rfl) ?_
  refine xxl_5 S w (by omega) dX0_isShown_5 ?_
  refine lv_iconst (v := 1) S.1 S.2.1 dX0_isShown_6 (by decide) ?_
  refine lv_iload_n S.1 S.2.1 dX0_isShown_7 rfl (lv_at hl 1 rfl) ?_
  refine lv_ishl S.1 S.2.1 dX0_isShown_8 ?_
  refine lv_iand S.1 S.2.1 dX0_isShown_9 ?_
  refine lv_if_eq (tgt := 17) S.1 S.2.1 dX0_isShown_10 (by decide) (fun h10 => ?_) (fun h10 => ?_)
  · refine lv_iconst (v := 0) S.1 S.2.1 dX0_isShown_17 (by decide) ?_
    exact tw_iro S hr rfl hlk z (by first | exact Or.inr ⟨rfl, (tw_bit_i _ h16 _ hc).mp h10⟩ | exact Or.inl ⟨rfl, by cases hb : (st 5 i).testBit a with | true => rfl | false => exact absurd ((tw_bit_i _ h16 _ hc).mpr hb) h10⟩) dX0_isShown_18
  · refine lv_iconst (v := 1) S.1 S.2.1 dX0_isShown_13 (by decide) ?_
    refine lv_goto (tgt := 18) S.1 S.2.1 dX0_isShown_14 (by decide) ?_
    exact tw_iro S hr rfl hlk z (by first | exact Or.inr ⟨rfl, (tw_bit_i _ h16 _ hc).mp h10⟩ | exact Or.inl ⟨rfl, by cases hb : (st 5 i).testBit a with | true => rfl | false => exact absurd ((tw_bit_i _ h16 _ hc).mpr hb) h10⟩) dX0_isShown_18
set_option maxHeartbeats 4000000 in
set_option maxRecDepth 100000 in
/-- whether a copy has a change -/
theorem kX0_isIn (l : Launch) (D : va_G) (cI cJ : ClassId) (x : Nat) (ad : Nat → Nat) (st : Nat → Nat → Nat) (sz : Nat) {a i : Nat} (hc : a < 4) (hi : i < 512) (hm : st 0 i < 4) (hb1 : st 1 i < 2147483648) (hb2 : st (24 + a) (st 0 i) < 2147483648) : Met l yX0_isIn wsX0_isIn ({ frames := 0, cells := 0, slots := 0, locals := 0 }) (va_Pc [.ref x, .int (nI a), .int (nI i)] (fun U => U.heap.size = sz ∧ tw_XU D cI cJ x ad st U)) (va_Qi (fun r (_ : Unit) => (r = 1 ∧ tw_has st a i) ∨ (r = 0 ∧ ¬ tw_has st a i)) (fun _ _ => True) (fun q => sz ≤ q)) 0 0 (fun q => sz ≤ q) := by
  refine Met.ofW (cc := cX0_isIn) (maxL := 3) (ret := (some .boolean)) (by decide) rfl ?_
  intro p e s m args below meth cd s₁ B hml hv
  obtain ⟨rfl, hsz, hU⟩ := hv
  subst hsz
  have S : CallFix p m cd cX0_isIn 3 s ([.ref x, .int (nI a), .int (nI i)] : List Value).toArray tw_wall RX0 := ⟨B.exec, B.bytes, hml, findClass_of_methodNamed B.named, fun w h => atoms_spec (ws := wsX0_isIn) B.pre w (List.mem_cons_of_mem _ h)⟩
  have hr := B.returns
  have hlk := B.notSynchronized
  have z : va_S (fun q => s.heap.size ≤ q) s.heap s.heap [] := va_S.rf
  have w := tw_X0 hU
  have hA : ∀ q : Nat, s.heap.size ≤ q → va_A (tw_x cI cJ x ad st) s.heap.size q := fun q h => Or.inr h
  generalize va_A (tw_x cI cJ x ad st) s.heap.size = A at w hA
  have hl := lv_entry ([.ref x, .int (nI a), .int (nI i)]) (n := 3) (Nat.le_of_ble_eq_true rfl)
  rw [lg_entry_eq]
  generalize (lg_sl ([.ref x, .int (nI a), .int (nI i)]) ++ List.replicate (3 - (lg_sl ([.ref x, .int (nI a), .int (nI i)])).length) Slot.unset).toArray = ls at hl ⊢
  have hl : lv_has ls 3 [(0, .ref x), (1, .int (nI a)), (2, .int (nI i))] := hl
  refine lv_aload_n S.1 S.2.1 dX0_isIn_0 rfl (lv_at hl 0 rfl) ?_
  refine xxg_number S w dX0_isIn_1 ?_
  refine lv_iload_n S.1 S.2.1 dX0_isIn_4 rfl (lv_at hl 2 rfl) ?_
  refine xxl_1 S w (by omega) dX0_isIn_5 ?_
  refine lv_aload_n S.1 S.2.1 dX0_isIn_6 rfl (lv_at hl 0 rfl) ?_
  refine xxg_known S w dX0_isIn_7 ?_
  refine lv_iload_n S.1 S.2.1 dX0_isIn_10 rfl (lv_at hl 1 rfl) ?_
  refine xxr_12 S w (by omega) dX0_isIn_11 ?_
  refine lv_aload_n S.1 S.2.1 dX0_isIn_12 rfl (lv_at hl 0 rfl) ?_
  refine xxg_maker S w dX0_isIn_13 ?_
  refine lv_iload_n S.1 S.2.1 dX0_isIn_16 rfl (lv_at hl 2 rfl) ?_
  refine xxl_0 S w (by omega) dX0_isIn_17 ?_
  refine xxl_24 S w (by omega) (by omega) dX0_isIn_18 ?_
  refine lv_icmp_ge (tgt := 26) S.1 S.2.1 dX0_isIn_19 (by decide) (fun h19 => ?_) (fun h19 => ?_)
  · refine lv_iconst (v := 0) S.1 S.2.1 dX0_isIn_26 (by decide) ?_
    exact tw_iro S hr rfl hlk z (by first | exact Or.inr ⟨rfl, fun q => by have := (tw_le hb2 hb1).mp h19; unfold tw_has at q; omega⟩ | exact Or.inl ⟨rfl, by unfold tw_has; exact Nat.not_le.mp (fun g => h19 ((tw_le hb2 hb1).mpr g))⟩) dX0_isIn_27
  · refine lv_iconst (v := 1) S.1 S.2.1 dX0_isIn_22 (by decide) ?_
    refine lv_goto (tgt := 27) S.1 S.2.1 dX0_isIn_23 (by decide) ?_
    exact tw_iro S hr rfl hlk z (by first | exact Or.inr ⟨rfl, fun q => by have := (tw_le hb2 hb1).mp h19; unfold tw_has at q; omega⟩ | exact Or.inl ⟨rfl, by unfold tw_has; exact Nat.not_le.mp (fun g => h19 ((tw_le hb2 hb1).mpr g))⟩) dX0_isIn_27
set_option maxHeartbeats 4000000 in
set_option maxRecDepth 100000 in
/-- whether a change can come to a copy -/
theorem kX0_canCome (l : Launch) (D : va_G) (cI cJ : ClassId) (x : Nat) (ad : Nat → Nat) (st : Nat → Nat → Nat) (sz : Nat) {a i : Nat} (hc : a < 4) (hi : i < 512) (hb1 : ∀ j, j < 4 → st (16 + j) i < 2147483648) (hb2 : ∀ j, j < 4 → st (24 + a) j < 2147483648) : Met l yX0_canCome wsX0_canCome ({ frames := 0, cells := 0, slots := 0, locals := 0 }) (va_Pc [.ref x, .int (nI a), .int (nI i)] (fun U => U.heap.size = sz ∧ tw_XU D cI cJ x ad st U)) (va_Qi (fun r (_ : Unit) => (r = 1 ∧ ∀ j, j < 4 → st (16 + j) i ≤ st (24 + a) j) ∨ (r = 0 ∧ ¬ ∀ j, j < 4 → st (16 + j) i ≤ st (24 + a) j)) (fun _ _ => True) (fun q => sz ≤ q)) 0 0 (fun q => sz ≤ q) := by
  refine Met.ofW (cc := cX0_canCome) (maxL := 4) (ret := (some .boolean)) (by decide) rfl ?_
  intro p e s m args below meth cd s₁ B hml hv
  obtain ⟨rfl, hsz, hU⟩ := hv
  subst hsz
  have S : CallFix p m cd cX0_canCome 4 s ([.ref x, .int (nI a), .int (nI i)] : List Value).toArray tw_wall RX0 := ⟨B.exec, B.bytes, hml, findClass_of_methodNamed B.named, fun w h => atoms_spec (ws := wsX0_canCome) B.pre w (List.mem_cons_of_mem _ h)⟩
  have hr := B.returns
  have hlk := B.notSynchronized
  have z : va_S (fun q => s.heap.size ≤ q) s.heap s.heap [] := va_S.rf
  have w := tw_X0 hU
  have hA : ∀ q : Nat, s.heap.size ≤ q → va_A (tw_x cI cJ x ad st) s.heap.size q := fun q h => Or.inr h
  generalize va_A (tw_x cI cJ x ad st) s.heap.size = A at w hA
  have hl := lv_entry ([.ref x, .int (nI a), .int (nI i)]) (n := 4) (Nat.le_of_ble_eq_true rfl)
  rw [lg_entry_eq]
  generalize (lg_sl ([.ref x, .int (nI a), .int (nI i)]) ++ List.replicate (4 - (lg_sl ([.ref x, .int (nI a), .int (nI i)])).length) Slot.unset).toArray = ls at hl ⊢
  have hl : lv_has ls 4 [(0, .ref x), (1, .int (nI a)), (2, .int (nI i))] := hl
  have loop : ∀ (n : Nat) (k : Nat) (H : Heap) (locs : List Loc) (ls : Array Slot), k ≤ 4 → 4 - k < n → (∀ j, j < k → st (16 + j) i ≤ st (24 + a) j) → TWX D cI cJ x ad st A s.heap H locs s → va_S (fun q => s.heap.size ≤ q) s.heap H locs → lv_has ls 4 [(3, .int (nI k)), (0, .ref x), (1, .int (nI a)), (2, .int (nI i))] → W p l e (headSpec wsX0_canCome ({ frames := 0, cells := 0, slots := 0, locals := 0 })).room s m ([.ref x, .int (nI a), .int (nI i)] : List Value).toArray below meth cd H locs 0 0 (MQ below (va_Qi (fun r (_ : Unit) => (r = 1 ∧ ∀ j, j < 4 → st (16 + j) i ≤ st (24 + a) j) ∨ (r = 0 ∧ ¬ ∀ j, j < 4 → st (16 + j) i ≤ st (24 + a) j)) (fun _ _ => True) (fun q => s.heap.size ≤ q)) ([.ref x, .int (nI a), .int (nI i)] : List Value).toArray s 0 0 (fun q => s.heap.size ≤ q)) (F0 m 2 ls []) := by
    intro n
    induction n with
    | zero => intros; omega
    | succ n ih =>
      intro k H locs ls hk hm hin w z hl
      refine lv_iload_n S.1 S.2.1 dX0_canCome_2 rfl (lv_at hl 0 rfl) ?_
      refine lv_iconst (v := nI 4) S.1 S.2.1 dX0_canCome_3 (by decide) ?_
      refine lv_icmp_ge (tgt := 34) S.1 S.2.1 dX0_canCome_4 (by decide) (fun h4 => ?_) (fun h4 => ?_)
      · have hk4 : k = 4 := by have := (tw_le (by omega) (by omega)).mp h4; omega
        refine lv_iconst (v := 1) S.1 S.2.1 dX0_canCome_34 (by decide) ?_
        exact tw_iro S hr rfl hlk z (Or.inl ⟨rfl, fun j hj => hin j (by omega)⟩) dX0_canCome_35
      · have hk4 : k < 4 := Nat.not_le.mp (fun g => h4 ((tw_le (by omega) (by omega)).mpr g))
        refine lv_aload_n S.1 S.2.1 dX0_canCome_7 rfl (lv_at hl 1 rfl) ?_
        refine xxg_known S w dX0_canCome_8 ?_
        refine lv_iload_n S.1 S.2.1 dX0_canCome_11 rfl (lv_at hl 2 rfl) ?_
        refine xxr_12 S w (by omega) dX0_canCome_12 ?_
        refine lv_iload_n S.1 S.2.1 dX0_canCome_13 rfl (lv_at hl 0 rfl) ?_
        refine xxl_24 S w (by omega) (by omega) dX0_canCome_14 ?_
        refine lv_aload_n S.1 S.2.1 dX0_canCome_15 rfl (lv_at hl 1 rfl) ?_
        refine xxg_had S w dX0_canCome_16 ?_
        refine lv_iload_n S.1 S.2.1 dX0_canCome_19 rfl (lv_at hl 0 rfl) ?_
        refine xxr_10 S w (by omega) dX0_canCome_20 ?_
        refine lv_iload_n S.1 S.2.1 dX0_canCome_21 rfl (lv_at hl 3 rfl) ?_
        refine xxl_16 S w (by omega) (by omega) dX0_canCome_22 ?_
        refine lv_icmp_ge (tgt := 28) S.1 S.2.1 dX0_canCome_23 (by decide) (fun h23 => ?_) (fun h23 => ?_)
        · refine lv_iinc S.1 S.2.1 dX0_canCome_28 hl (k := 0) rfl (tw_inc _) (by decide) rfl (fun ls hl => ?_)
          refine lv_goto (tgt := 2) S.1 S.2.1 dX0_canCome_31 (by decide) ?_
          exact ih (k + 1) H locs ls (by omega) (by omega) (fun j hj => by rcases Nat.lt_or_ge j k with g | g; exact hin j g; rw [show j = k by omega]; exact (tw_le (hb1 k hk4) (hb2 k hk4)).mp h23) w z (lv_sub hl [0, 1, 2, 3] rfl)
        · refine lv_iconst (v := 0) S.1 S.2.1 dX0_canCome_26 (by decide) ?_
          exact tw_iro S hr rfl hlk z (Or.inr ⟨rfl, fun q => h23 ((tw_le (hb1 k hk4) (hb2 k hk4)).mpr (q k hk4))⟩) dX0_canCome_27
  refine lv_iconst (v := nI 0) S.1 S.2.1 dX0_canCome_0 (by decide) ?_
  refine lv_istore_n S.1 S.2.1 dX0_canCome_1 rfl hl (by decide) rfl (fun ls hl => ?_)
  exact loop 5 0 _ _ _ (by omega) (by omega) (fun j hj => by omega) w z (lv_sub hl [0, 1, 2, 3] rfl)
set_option maxHeartbeats 4000000 in
set_option maxRecDepth 100000 in
/-- the place of letter t of the text in the order -/
theorem kX0_placeOf (l : Launch) (D : va_G) (cI cJ : ClassId) (x : Nat) (ad : Nat → Nat) (st : Nat → Nat → Nat) (sz : Nat) {a : Nat} {t : Int32} (hc : a < 4) (hlt : st 9 1 ≤ 512) (hod : ∀ p, p < st 9 1 → st 6 p < 512) (h16 : ∀ i, st 5 i < 16) : Met l yX0_placeOf wsX0_placeOf ({ frames := 1, cells := 0, slots := 0, locals := 22 }) (va_Pc [.ref x, .int (nI a), .int t] (fun U => U.heap.size = sz ∧ tw_XU D cI cJ x ad st U)) (va_Qi (fun r (_ : Unit) => (∃ p, p < st 9 1 ∧ tw_f st a p = true ∧ t = nI (tw_cn (tw_f st a) p) ∧ r = nI p) ∨ (r = -1 ∧ ∀ p, p < st 9 1 → tw_f st a p = true → t ≠ nI (tw_cn (tw_f st a) p))) (fun _ _ => True) (fun q => sz ≤ q)) 0 0 (fun q => sz ≤ q) := by
  refine Met.ofW (cc := cX0_placeOf) (maxL := 5) (ret := (some .int)) (by decide) rfl ?_
  intro p e s m args below meth cd s₁ B hml hv
  obtain ⟨rfl, hsz, hU⟩ := hv
  subst hsz
  have S : CallFix p m cd cX0_placeOf 5 s ([.ref x, .int (nI a), .int t] : List Value).toArray tw_wall RX0 := ⟨B.exec, B.bytes, hml, findClass_of_methodNamed B.named, fun w h => atoms_spec (ws := wsX0_placeOf) B.pre w (List.mem_cons_of_mem _ h)⟩
  have hr := B.returns
  have hlk := B.notSynchronized
  have z : va_S (fun q => s.heap.size ≤ q) s.heap s.heap [] := va_S.rf
  have w := tw_X0 hU
  have hA : ∀ q : Nat, s.heap.size ≤ q → va_A (tw_x cI cJ x ad st) s.heap.size q := fun q h => Or.inr h
  generalize va_A (tw_x cI cJ x ad st) s.heap.size = A at w hA
  have hl := lv_entry ([.ref x, .int (nI a), .int t]) (n := 5) (Nat.le_of_ble_eq_true rfl)
  rw [lg_entry_eq]
  generalize (lg_sl ([.ref x, .int (nI a), .int t]) ++ List.replicate (5 - (lg_sl ([.ref x, .int (nI a), .int t])).length) Slot.unset).toArray = ls at hl ⊢
  have hl : lv_has ls 5 [(0, .ref x), (1, .int (nI a)), (2, .int t)] := hl
  have loop : ∀ (n : Nat) (q b : Nat) (H : Heap) (locs : List Loc) (ls : Array Slot), q ≤ st 9 1 → st 9 1 - q < n → b = tw_cn (tw_f st a) q → (∀ j, j < q → tw_f st a j = true → t ≠ nI (tw_cn (tw_f st a) j)) → TWX D cI cJ x ad st A s.heap H locs s → va_S (fun q => s.heap.size ≤ q) s.heap H locs → lv_has ls 5 [(4, .int (nI q)), (3, .int (nI b)), (0, .ref x), (1, .int (nI a)), (2, .int t)] → W p l e (headSpec wsX0_placeOf ({ frames := 1, cells := 0, slots := 0, locals := 22 })).room s m ([.ref x, .int (nI a), .int t] : List Value).toArray below meth cd H locs 0 0 (MQ below (va_Qi (fun r (_ : Unit) => (∃ p, p < st 9 1 ∧ tw_f st a p = true ∧ t = nI (tw_cn (tw_f st a) p) ∧ r = nI p) ∨ (r = -1 ∧ ∀ p, p < st 9 1 → tw_f st a p = true → t ≠ nI (tw_cn (tw_f st a) p))) (fun _ _ => True) (fun q => s.heap.size ≤ q)) ([.ref x, .int (nI a), .int t] : List Value).toArray s 0 0 (fun q => s.heap.size ≤ q)) (F0 m 5 ls []) := by
    intro n
    induction n with
    | zero => intros; omega
    | succ n ih =>
      intro q b H locs ls hq0 hm hb hno w z hl
      refine lv_iload S.1 S.2.1 dX0_placeOf_5 (lv_at hl 0 rfl) ?_
      refine lv_aload_n S.1 S.2.1 dX0_placeOf_7 rfl (lv_at hl 2 rfl) ?_
      refine xxg_letters S w dX0_placeOf_8 ?_
      refine lv_icmp_ge (tgt := 46) S.1 S.2.1 dX0_placeOf_11 (by decide) (fun h11 => ?_) (fun h11 => ?_)
      · have hq : q = st 9 1 := by have := (tw_le (by omega) (by omega)).mp h11; omega
        refine lv_iconst (v := -1) S.1 S.2.1 dX0_placeOf_46 (by decide) ?_
        exact tw_iro S hr rfl hlk z (Or.inr ⟨rfl, fun j hj => hno j (by omega)⟩) dX0_placeOf_47
      · have hq : q < st 9 1 := Nat.not_le.mp (fun g => h11 ((tw_le (by omega) (by omega)).mpr g))
        refine lv_aload_n S.1 S.2.1 dX0_placeOf_14 rfl (lv_at hl 2 rfl) ?_
        refine lv_iload_n S.1 S.2.1 dX0_placeOf_15 rfl (lv_at hl 3 rfl) ?_
        refine lv_aload_n S.1 S.2.1 dX0_placeOf_16 rfl (lv_at hl 2 rfl) ?_
        refine xxg_order S w dX0_placeOf_17 ?_
        refine lv_iload S.1 S.2.1 dX0_placeOf_20 (lv_at hl 0 rfl) ?_
        refine xxl_6 S w (by omega) dX0_placeOf_22 ?_
        refine tw_cro (n := 2) S w z (fun q h => h) hA (kX0_isShown l D cI cJ x ad st _ hc (hod q hq) (h16 _)) (tw_gV wl_X0_110 wn_X0_isShown ws_X0_isShown wi_X0 wy_X0_isShown) rfl rfl (by decide +kernel) ⟨Nat.le_of_ble_eq_true rfl, Nat.le_of_ble_eq_true rfl⟩ rfl hl.1 rfl (Nat.le_of_ble_eq_true rfl) dX0_placeOf_23 ⟨Nat.le_of_ble_eq_true rfl, Nat.le_of_ble_eq_true rfl⟩ (fun r H locs hp w z => ?_)
        refine lv_if_eq (tgt := 40) S.1 S.2.1 dX0_placeOf_26 (by decide) (fun h26 => ?_) (fun h26 => ?_)
        · have hf : tw_f st a q = false := by exact hp.elim (fun g => absurd (g.1.symm.trans h26) (by decide)) (fun g => g.2)
          refine lv_iinc S.1 S.2.1 dX0_placeOf_40 hl (k := 0) rfl (tw_inc _) (by decide) rfl (fun ls hl => ?_)
          refine lv_goto (tgt := 5) S.1 S.2.1 dX0_placeOf_43 (by decide) ?_
          first
            | exact ih (q + 1) (b + 1) H locs ls (by omega) (by omega) (by rw [tw_cn_t hf, hb]) (fun j hj fj => by rcases Nat.lt_or_ge j q with g | g; exact hno j g fj; rw [show j = q by omega, ← hb]; exact fun z => h31 z.symm) w z (lv_sub hl [0, 1, 2, 3, 4] rfl)
            | exact ih (q + 1) b H locs ls (by omega) (by omega) (by rw [tw_cn_f hf, hb]) (fun j hj fj => by rcases Nat.lt_or_ge j q with g | g; exact hno j g fj; rw [show j = q by omega, hf] at fj; cases fj) w z (lv_sub hl [0, 1, 2, 3, 4] rfl)
        · have hf : tw_f st a q = true := by exact hp.elim (fun g => g.2) (fun g => absurd g.1 h26)
          refine lv_iload_n S.1 S.2.1 dX0_placeOf_29 rfl (lv_at hl 1 rfl) ?_
          refine lv_iload_n S.1 S.2.1 dX0_placeOf_30 rfl (lv_at hl 4 rfl) ?_
          refine lv_icmp_ne (tgt := 37) S.1 S.2.1 dX0_placeOf_31 (by decide) (fun h31 => ?_) (fun h31 => ?_)
          · refine lv_iinc S.1 S.2.1 dX0_placeOf_37 hl (k := 1) rfl (tw_inc _) (by decide) rfl (fun ls hl => ?_)
            refine lv_iinc S.1 S.2.1 dX0_placeOf_40 hl (k := 1) rfl (tw_inc _) (by decide) rfl (fun ls hl => ?_)
            refine lv_goto (tgt := 5) S.1 S.2.1 dX0_placeOf_43 (by decide) ?_
            first
              | exact ih (q + 1) (b + 1) H locs ls (by omega) (by omega) (by rw [tw_cn_t hf, hb]) (fun j hj fj => by rcases Nat.lt_or_ge j q with g | g; exact hno j g fj; rw [show j = q by omega, ← hb]; exact fun z => h31 z.symm) w z (lv_sub hl [0, 1, 2, 3, 4] rfl)
              | exact ih (q + 1) b H locs ls (by omega) (by omega) (by rw [tw_cn_f hf, hb]) (fun j hj fj => by rcases Nat.lt_or_ge j q with g | g; exact hno j g fj; rw [show j = q by omega, hf] at fj; cases fj) w z (lv_sub hl [0, 1, 2, 3, 4] rfl)
          · refine lv_iload S.1 S.2.1 dX0_placeOf_34 (lv_at hl 0 rfl) ?_
            exact tw_iro S hr rfl hlk z (Or.inl ⟨q, hq, hf, by rw [← h31, hb], rfl⟩) dX0_placeOf_36
  refine lv_iconst (v := nI 0) S.1 S.2.1 dX0_placeOf_0 (by decide) ?_
  refine lv_istore_n S.1 S.2.1 dX0_placeOf_1 rfl hl (by decide) rfl (fun ls hl => ?_)
  refine lv_iconst (v := nI 0) S.1 S.2.1 dX0_placeOf_2 (by decide) ?_
  refine lv_istore S.1 S.2.1 dX0_placeOf_3 hl (by decide) rfl (fun ls hl => ?_)
  exact loop (st 9 1 + 1) 0 0 _ _ _ (by omega) (by omega) rfl (fun j hj => by omega) w z (lv_sub hl [0, 1, 2, 3, 4] rfl)
