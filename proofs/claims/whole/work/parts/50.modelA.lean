set_option maxHeartbeats 4000000 in
set_option maxRecDepth 100000 in
/-- what would have been thrown -/
theorem kX1_thrown (l : Launch) (D : va_G) (cI cZ : ClassId) (x : Nat) (ad : Nat → Nat) (st : Nat → Nat → Nat) (sz : Nat)  : Met l yX1_thrown wsX1_thrown ({ frames := 0, cells := 0, slots := 0, locals := 0 }) (va_Pc [.ref x] (fun U => U.heap.size = sz ∧ tw_YU D cI cZ x ad st U)) (va_Qi (fun r u => r = nI (st 13 0) ∧ u = st) (tw_YT D cI cZ x ad (va_A (tw_y cI cZ x ad st) sz)) (va_A (tw_y cI cZ x ad st) sz)) 0 0 (va_A (tw_y cI cZ x ad st) sz) := by
  refine Met.ofW (cc := cX1_thrown) (maxL := 1) (ret := (some .int)) (by decide) rfl ?_
  intro p e s m args below meth cd s₁ B hml hv
  obtain ⟨rfl, hsz, hU⟩ := hv
  subst hsz
  have S : CallFix p m cd cX1_thrown 1 s ([.ref x] : List Value).toArray tw_wall RX1 := ⟨B.exec, B.bytes, hml, findClass_of_methodNamed B.named, fun w h => atoms_spec (ws := wsX1_thrown) B.pre w (List.mem_cons_of_mem _ h)⟩
  have hr := B.returns
  have hlk := B.notSynchronized
  have z : va_S (fun q => s.heap.size ≤ q) s.heap s.heap [] := va_S.rf
  have w := tw_Y0 hU
  have hA : ∀ q : Nat, s.heap.size ≤ q → va_A (tw_y cI cZ x ad st) s.heap.size q := fun q h => Or.inr h
  generalize va_A (tw_y cI cZ x ad st) s.heap.size = A at w hA ⊢
  have hl := lv_entry ([.ref x]) (n := 1) (Nat.le_of_ble_eq_true rfl)
  rw [lg_entry_eq]
  generalize (lg_sl ([.ref x]) ++ List.replicate (1 - (lg_sl ([.ref x])).length) Slot.unset).toArray = ls at hl ⊢
  have hl : lv_has ls 1 [(0, .ref x)] := hl
  refine lv_aload_n S.1 S.2.1 dX1_thrown_0 rfl (lv_at hl 0 rfl) ?_
  refine yyg_thrown S w dX1_thrown_1 ?_
  exact tw_iretY S hr hlk w ⟨rfl, rfl⟩ dX1_thrown_4
set_option maxHeartbeats 4000000 in
set_option maxRecDepth 100000 in
/-- bad(is) -/
theorem kX1_bad (l : Launch) (D : va_G) (cI cZ : ClassId) (x : Nat) (ad : Nat → Nat) (st : Nat → Nat → Nat) (sz : Nat) {b : Nat} (hb : b < 2) : Met l yX1_bad wsX1_bad ({ frames := 0, cells := 0, slots := 0, locals := 0 }) (va_Pc [.ref x, .int (nI b)] (fun U => U.heap.size = sz ∧ tw_YU D cI cZ x ad st U)) (va_Qi (fun r u => r = nI b ∧ u = tw_up st 13 0 b) (tw_YT D cI cZ x ad (va_A (tw_y cI cZ x ad st) sz)) (va_A (tw_y cI cZ x ad st) sz)) 0 0 (va_A (tw_y cI cZ x ad st) sz) := by
  refine Met.ofW (cc := cX1_bad) (maxL := 2) (ret := (some .boolean)) (by decide) rfl ?_
  intro p e s m args below meth cd s₁ B hml hv
  obtain ⟨rfl, hsz, hU⟩ := hv
  subst hsz
  have S : CallFix p m cd cX1_bad 2 s ([.ref x, .int (nI b)] : List Value).toArray tw_wall RX1 := ⟨B.exec, B.bytes, hml, findClass_of_methodNamed B.named, fun w h => atoms_spec (ws := wsX1_bad) B.pre w (List.mem_cons_of_mem _ h)⟩
  have hr := B.returns
  have hlk := B.notSynchronized
  have z : va_S (fun q => s.heap.size ≤ q) s.heap s.heap [] := va_S.rf
  have w := tw_Y0 hU
  have hA : ∀ q : Nat, s.heap.size ≤ q → va_A (tw_y cI cZ x ad st) s.heap.size q := fun q h => Or.inr h
  generalize va_A (tw_y cI cZ x ad st) s.heap.size = A at w hA ⊢
  have hl := lv_entry ([.ref x, .int (nI b)]) (n := 2) (Nat.le_of_ble_eq_true rfl)
  rw [lg_entry_eq]
  generalize (lg_sl ([.ref x, .int (nI b)]) ++ List.replicate (2 - (lg_sl ([.ref x, .int (nI b)])).length) Slot.unset).toArray = ls at hl ⊢
  have hl : lv_has ls 2 [(0, .ref x), (1, .int (nI b))] := hl
  refine lv_aload_n S.1 S.2.1 dX1_bad_0 rfl (lv_at hl 0 rfl) ?_
  refine lv_iload_n S.1 S.2.1 dX1_bad_1 rfl (lv_at hl 1 rfl) ?_
  refine lv_if_eq (tgt := 9) S.1 S.2.1 dX1_bad_2 (by decide) (fun h2 => ?_) (fun h2 => ?_)
  · have hb0 : b = 0 := (tw_eq (by omega) (by omega)).mp h2
    refine lv_iconst (v := nI 0) S.1 S.2.1 dX1_bad_9 (by decide) ?_
    refine yyp_thrown S w dX1_bad_10 (fun H locs w => ?_)
    refine lv_iload_n S.1 S.2.1 dX1_bad_13 rfl (lv_at hl 1 rfl) ?_
    first
      | exact tw_zretY S hr hlk w (by rw [hb0]; rfl) ⟨rfl, by rw [hb0]⟩ dX1_bad_14
  · have hb0 : b = 1 := by rcases (show b = 0 ∨ b = 1 by omega) with q | q; exact absurd (by rw [q]; decide) h2; exact q
    refine lv_iconst (v := nI 1) S.1 S.2.1 dX1_bad_5 (by decide) ?_
    refine lv_goto (tgt := 10) S.1 S.2.1 dX1_bad_6 (by decide) ?_
    refine yyp_thrown S w dX1_bad_10 (fun H locs w => ?_)
    refine lv_iload_n S.1 S.2.1 dX1_bad_13 rfl (lv_at hl 1 rfl) ?_
    first
      | exact tw_zretY S hr hlk w (by rw [hb0]; rfl) ⟨rfl, by rw [hb0]⟩ dX1_bad_14
theorem tw_4le {v : Int32} (h : nI 4 ≤ v) : nI 3 < v := by
  have h1 := Int32.le_iff_toInt_le.mp h
  have h2 : (nI 4).toInt = 4 := by decide
  have h3 : (nI 3).toInt = 3 := by decide
  exact Int32.lt_iff_toInt_lt.mpr (by omega)
theorem tw_4nle {v : Int32} (h : ¬ nI 4 ≤ v) : v ≤ nI 3 := by
  have h2 : (nI 4).toInt = 4 := by decide
  have h3 : (nI 3).toInt = 3 := by decide
  have h1 : ¬ (4 : Int) ≤ v.toInt := fun q => h (Int32.le_iff_toInt_le.mpr (by omega))
  exact Int32.le_iff_toInt_le.mpr (by omega)
set_option maxHeartbeats 4000000 in
set_option maxRecDepth 100000 in
/-- isCopy(c) -/
theorem kX1_isCopy (l : Launch) (sz : Nat) {v : Int32} : Met l yX1_isCopy wsX1_isCopy ({ frames := 0, cells := 0, slots := 0, locals := 0 }) (va_Pc [.int v] (fun U => U.heap.size = sz)) (va_Qi (fun r (_ : Unit) => (r = 1 ∧ ∃ a, a < 4 ∧ v = nI a) ∨ (r = 0 ∧ tw_nc v)) (fun _ _ => True) (fun q => sz ≤ q)) 0 0 (fun q => sz ≤ q) := by
  refine Met.ofW (cc := cX1_isCopy) (maxL := 1) (ret := (some .boolean)) (by decide) rfl ?_
  intro p e s m args below meth cd s₁ B hml hv
  obtain ⟨rfl, hsz⟩ := hv
  have hsz : s.heap.size = sz := hsz
  subst hsz
  have S : CallFix p m cd cX1_isCopy 1 s ([.int v] : List Value).toArray tw_wall RX1 := ⟨B.exec, B.bytes, hml, findClass_of_methodNamed B.named, fun w h => atoms_spec (ws := wsX1_isCopy) B.pre w (List.mem_cons_of_mem _ h)⟩
  have hr := B.returns
  have hlk := B.notSynchronized
  have z : va_S (fun q => s.heap.size ≤ q) s.heap s.heap [] := va_S.rf
  have hl := lv_entry ([.int v]) (n := 1) (Nat.le_of_ble_eq_true rfl)
  rw [lg_entry_eq]
  generalize (lg_sl ([.int v]) ++ List.replicate (1 - (lg_sl ([.int v])).length) Slot.unset).toArray = ls at hl ⊢
  have hl : lv_has ls 1 [(0, .int v)] := hl
  refine lv_iload_n S.1 S.2.1 dX1_isCopy_0 rfl (lv_at hl 0 rfl) ?_
  refine lv_if_lt (tgt := 13) S.1 S.2.1 dX1_isCopy_1 (by decide) (fun h1 => ?_) (fun h1 => ?_)
  · refine lv_iconst (v := 0) S.1 S.2.1 dX1_isCopy_13 (by decide) ?_
    exact tw_iro S hr rfl hlk z (by first | exact Or.inr ⟨rfl, Or.inl h1⟩ | exact Or.inr ⟨rfl, Or.inr (tw_4le h6)⟩ | exact Or.inl ⟨rfl, tw_copy ⟨h1, tw_4nle h6⟩⟩) dX1_isCopy_14
  · refine lv_iload_n S.1 S.2.1 dX1_isCopy_4 rfl (lv_at hl 0 rfl) ?_
    refine lv_iconst (v := nI 4) S.1 S.2.1 dX1_isCopy_5 (by decide) ?_
    refine lv_icmp_ge (tgt := 13) S.1 S.2.1 dX1_isCopy_6 (by decide) (fun h6 => ?_) (fun h6 => ?_)
    · refine lv_iconst (v := 0) S.1 S.2.1 dX1_isCopy_13 (by decide) ?_
      exact tw_iro S hr rfl hlk z (by first | exact Or.inr ⟨rfl, Or.inl h1⟩ | exact Or.inr ⟨rfl, Or.inr (tw_4le h6)⟩ | exact Or.inl ⟨rfl, tw_copy ⟨h1, tw_4nle h6⟩⟩) dX1_isCopy_14
    · refine lv_iconst (v := 1) S.1 S.2.1 dX1_isCopy_9 (by decide) ?_
      refine lv_goto (tgt := 14) S.1 S.2.1 dX1_isCopy_10 (by decide) ?_
      exact tw_iro S hr rfl hlk z (by first | exact Or.inr ⟨rfl, Or.inl h1⟩ | exact Or.inr ⟨rfl, Or.inr (tw_4le h6)⟩ | exact Or.inl ⟨rfl, tw_copy ⟨h1, tw_4nle h6⟩⟩) dX1_isCopy_14
set_option maxHeartbeats 4000000 in
set_option maxRecDepth 100000 in
/-- isIn(c, l) -/
theorem kX1_isIn (l : Launch) (D : va_G) (cI cZ : ClassId) (x : Nat) (ad : Nat → Nat) (st : Nat → Nat → Nat) (sz : Nat) {a k : Nat} (ha : a < 4) (hk : k < 1601) (hm : st 1 k < 4) (b1 : st 2 k < 2147483648) (b2 : st 10 (4 * a + st 1 k) < 2147483648) : Met l yX1_isIn wsX1_isIn ({ frames := 0, cells := 0, slots := 0, locals := 0 }) (va_Pc [.ref x, .int (nI a), .int (nI k)] (fun U => U.heap.size = sz ∧ tw_YU D cI cZ x ad st U)) (va_Qi (fun r u => ((r = 1 ∧ st 2 k < st 10 (4 * a + st 1 k)) ∨ (r = 0 ∧ ¬ st 2 k < st 10 (4 * a + st 1 k))) ∧ u = st) (tw_YT D cI cZ x ad (va_A (tw_y cI cZ x ad st) sz)) (va_A (tw_y cI cZ x ad st) sz)) 0 0 (va_A (tw_y cI cZ x ad st) sz) := by
  refine Met.ofW (cc := cX1_isIn) (maxL := 3) (ret := (some .boolean)) (by decide) rfl ?_
  intro p e s m args below meth cd s₁ B hml hv
  obtain ⟨rfl, hsz, hU⟩ := hv
  subst hsz
  have S : CallFix p m cd cX1_isIn 3 s ([.ref x, .int (nI a), .int (nI k)] : List Value).toArray tw_wall RX1 := ⟨B.exec, B.bytes, hml, findClass_of_methodNamed B.named, fun w h => atoms_spec (ws := wsX1_isIn) B.pre w (List.mem_cons_of_mem _ h)⟩
  have hr := B.returns
  have hlk := B.notSynchronized
  have z : va_S (fun q => s.heap.size ≤ q) s.heap s.heap [] := va_S.rf
  have w := tw_Y0 hU
  have hA : ∀ q : Nat, s.heap.size ≤ q → va_A (tw_y cI cZ x ad st) s.heap.size q := fun q h => Or.inr h
  generalize va_A (tw_y cI cZ x ad st) s.heap.size = A at w hA ⊢
  have hl := lv_entry ([.ref x, .int (nI a), .int (nI k)]) (n := 3) (Nat.le_of_ble_eq_true rfl)
  rw [lg_entry_eq]
  generalize (lg_sl ([.ref x, .int (nI a), .int (nI k)]) ++ List.replicate (3 - (lg_sl ([.ref x, .int (nI a), .int (nI k)])).length) Slot.unset).toArray = ls at hl ⊢
  have hl : lv_has ls 3 [(0, .ref x), (1, .int (nI a)), (2, .int (nI k))] := hl
  refine lv_aload_n S.1 S.2.1 dX1_isIn_0 rfl (lv_at hl 0 rfl) ?_
  refine yyg_change S w dX1_isIn_1 ?_
  refine lv_iload_n S.1 S.2.1 dX1_isIn_4 rfl (lv_at hl 2 rfl) ?_
  refine yyl_2 S w (by omega) dX1_isIn_5 ?_
  refine lv_aload_n S.1 S.2.1 dX1_isIn_6 rfl (lv_at hl 0 rfl) ?_
  refine yyg_has S w dX1_isIn_7 ?_
  refine lv_iconst (v := nI 4) S.1 S.2.1 dX1_isIn_10 (by decide) ?_
  refine lv_iload_n S.1 S.2.1 dX1_isIn_11 rfl (lv_at hl 1 rfl) ?_
  refine lv_imul S.1 S.2.1 dX1_isIn_12 ?_
  refine tw_t (pk_mul _ _) ?_
  refine lv_aload_n S.1 S.2.1 dX1_isIn_13 rfl (lv_at hl 0 rfl) ?_
  refine yyg_maker S w dX1_isIn_14 ?_
  refine lv_iload_n S.1 S.2.1 dX1_isIn_17 rfl (lv_at hl 2 rfl) ?_
  refine yyl_1 S w (by omega) dX1_isIn_18 ?_
  refine lv_iadd S.1 S.2.1 dX1_isIn_19 ?_
  refine tw_t (nI_add _ _) ?_
  refine yyl_10 S w (by omega) dX1_isIn_20 ?_
  refine lv_icmp_ge (tgt := 28) S.1 S.2.1 dX1_isIn_21 (by decide) (fun h21 => ?_) (fun h21 => ?_)
  · refine lv_iconst (v := 0) S.1 S.2.1 dX1_isIn_28 (by decide) ?_
    exact tw_zretY S hr hlk w rfl ⟨by first | exact Or.inr ⟨rfl, fun q => by have := (tw_le b2 b1).mp h21; omega⟩ | exact Or.inl ⟨rfl, Nat.not_le.mp (fun g => h21 ((tw_le b2 b1).mpr g))⟩, rfl⟩ dX1_isIn_29
  · refine lv_iconst (v := 1) S.1 S.2.1 dX1_isIn_24 (by decide) ?_
    refine lv_goto (tgt := 29) S.1 S.2.1 dX1_isIn_25 (by decide) ?_
    exact tw_zretY S hr hlk w rfl ⟨by first | exact Or.inr ⟨rfl, fun q => by have := (tw_le b2 b1).mp h21; omega⟩ | exact Or.inl ⟨rfl, Nat.not_le.mp (fun g => h21 ((tw_le b2 b1).mpr g))⟩, rfl⟩ dX1_isIn_29
set_option maxHeartbeats 4000000 in
set_option maxRecDepth 100000 in
/-- isBefore(a, b) -/
theorem kX1_isBefore (l : Launch) (D : va_G) (cI cZ : ClassId) (x : Nat) (ad : Nat → Nat) (st : Nat → Nat → Nat) (sz : Nat) {i k : Nat} (hi : i < 1601) (hk : k < 1601) (m1 : st 1 i < 4) (m2 : st 1 k < 4) (b1 : st 0 i < 2147483648) (b2 : st 0 k < 2147483648) : Met l yX1_isBefore wsX1_isBefore ({ frames := 0, cells := 0, slots := 0, locals := 0 }) (va_Pc [.ref x, .int (nI i), .int (nI k)] (fun U => U.heap.size = sz ∧ tw_YU D cI cZ x ad st U)) (va_Qi (fun r u => ((r = 1 ∧ tw_n st k < tw_n st i) ∨ (r = 0 ∧ ¬ tw_n st k < tw_n st i)) ∧ u = st) (tw_YT D cI cZ x ad (va_A (tw_y cI cZ x ad st) sz)) (va_A (tw_y cI cZ x ad st) sz)) 0 0 (va_A (tw_y cI cZ x ad st) sz) := by
  refine Met.ofW (cc := cX1_isBefore) (maxL := 3) (ret := (some .boolean)) (by decide) rfl ?_
  intro p e s m args below meth cd s₁ B hml hv
  obtain ⟨rfl, hsz, hU⟩ := hv
  subst hsz
  have S : CallFix p m cd cX1_isBefore 3 s ([.ref x, .int (nI i), .int (nI k)] : List Value).toArray tw_wall RX1 := ⟨B.exec, B.bytes, hml, findClass_of_methodNamed B.named, fun w h => atoms_spec (ws := wsX1_isBefore) B.pre w (List.mem_cons_of_mem _ h)⟩
  have hr := B.returns
  have hlk := B.notSynchronized
  have z : va_S (fun q => s.heap.size ≤ q) s.heap s.heap [] := va_S.rf
  have w := tw_Y0 hU
  have hA : ∀ q : Nat, s.heap.size ≤ q → va_A (tw_y cI cZ x ad st) s.heap.size q := fun q h => Or.inr h
  generalize va_A (tw_y cI cZ x ad st) s.heap.size = A at w hA ⊢
  have hl := lv_entry ([.ref x, .int (nI i), .int (nI k)]) (n := 3) (Nat.le_of_ble_eq_true rfl)
  rw [lg_entry_eq]
  generalize (lg_sl ([.ref x, .int (nI i), .int (nI k)]) ++ List.replicate (3 - (lg_sl ([.ref x, .int (nI i), .int (nI k)])).length) Slot.unset).toArray = ls at hl ⊢
  have hl : lv_has ls 3 [(0, .ref x), (1, .int (nI i)), (2, .int (nI k))] := hl
  refine lv_aload_n S.1 S.2.1 dX1_isBefore_0 rfl (lv_at hl 0 rfl) ?_
  refine yyg_number S w dX1_isBefore_1 ?_
  refine lv_iload_n S.1 S.2.1 dX1_isBefore_4 rfl (lv_at hl 1 rfl) ?_
  refine yyl_0 S w (by omega) dX1_isBefore_5 ?_
  refine lv_aload_n S.1 S.2.1 dX1_isBefore_6 rfl (lv_at hl 0 rfl) ?_
  refine yyg_number S w dX1_isBefore_7 ?_
  refine lv_iload_n S.1 S.2.1 dX1_isBefore_10 rfl (lv_at hl 2 rfl) ?_
  refine yyl_0 S w (by omega) dX1_isBefore_11 ?_
  refine lv_icmp_gt (tgt := 45) S.1 S.2.1 dX1_isBefore_12 (by decide) (fun h12 => ?_) (fun h12 => ?_)
  · have n1 : st 0 k < st 0 i := (tw_lt b2 b1).mp h12
    refine lv_iconst (v := 1) S.1 S.2.1 dX1_isBefore_45 (by decide) ?_
    refine lv_goto (tgt := 50) S.1 S.2.1 dX1_isBefore_46 (by decide) ?_
    exact tw_zretY S hr hlk w rfl ⟨by first | exact Or.inl ⟨rfl, by unfold tw_n; omega⟩ | exact Or.inr ⟨rfl, by unfold tw_n; omega⟩, rfl⟩ dX1_isBefore_50
  · have n1 : ¬ st 0 k < st 0 i := fun q => h12 ((tw_lt b2 b1).mpr q)
    refine lv_aload_n S.1 S.2.1 dX1_isBefore_15 rfl (lv_at hl 0 rfl) ?_
    refine yyg_number S w dX1_isBefore_16 ?_
    refine lv_iload_n S.1 S.2.1 dX1_isBefore_19 rfl (lv_at hl 1 rfl) ?_
    refine yyl_0 S w (by omega) dX1_isBefore_20 ?_
    refine lv_aload_n S.1 S.2.1 dX1_isBefore_21 rfl (lv_at hl 0 rfl) ?_
    refine yyg_number S w dX1_isBefore_22 ?_
    refine lv_iload_n S.1 S.2.1 dX1_isBefore_25 rfl (lv_at hl 2 rfl) ?_
    refine yyl_0 S w (by omega) dX1_isBefore_26 ?_
    refine lv_icmp_ne (tgt := 49) S.1 S.2.1 dX1_isBefore_27 (by decide) (fun h27 => ?_) (fun h27 => ?_)
    · have n2 : st 0 i ≠ st 0 k := fun q => h27 (by rw [q])
      refine lv_iconst (v := 0) S.1 S.2.1 dX1_isBefore_49 (by decide) ?_
      exact tw_zretY S hr hlk w rfl ⟨by first | exact Or.inl ⟨rfl, by unfold tw_n; omega⟩ | exact Or.inr ⟨rfl, by unfold tw_n; omega⟩, rfl⟩ dX1_isBefore_50
    · have n2 : st 0 i = st 0 k := (tw_eq b1 b2).mp h27
      refine lv_aload_n S.1 S.2.1 dX1_isBefore_30 rfl (lv_at hl 0 rfl) ?_
      refine yyg_maker S w dX1_isBefore_31 ?_
      refine lv_iload_n S.1 S.2.1 dX1_isBefore_34 rfl (lv_at hl 1 rfl) ?_
      refine yyl_1 S w (by omega) dX1_isBefore_35 ?_
      refine lv_aload_n S.1 S.2.1 dX1_isBefore_36 rfl (lv_at hl 0 rfl) ?_
      refine yyg_maker S w dX1_isBefore_37 ?_
      refine lv_iload_n S.1 S.2.1 dX1_isBefore_40 rfl (lv_at hl 2 rfl) ?_
      refine yyl_1 S w (by omega) dX1_isBefore_41 ?_
      refine lv_icmp_le (tgt := 49) S.1 S.2.1 dX1_isBefore_42 (by decide) (fun h42 => ?_) (fun h42 => ?_)
      · have n3 : st 1 i ≤ st 1 k := (tw_le (by omega) (by omega)).mp h42
        refine lv_iconst (v := 0) S.1 S.2.1 dX1_isBefore_49 (by decide) ?_
        exact tw_zretY S hr hlk w rfl ⟨by first | exact Or.inl ⟨rfl, by unfold tw_n; omega⟩ | exact Or.inr ⟨rfl, by unfold tw_n; omega⟩, rfl⟩ dX1_isBefore_50
      · have n3 : ¬ st 1 i ≤ st 1 k := fun q => h42 ((tw_le (by omega) (by omega)).mpr q)
        refine lv_iconst (v := 1) S.1 S.2.1 dX1_isBefore_45 (by decide) ?_
        refine lv_goto (tgt := 50) S.1 S.2.1 dX1_isBefore_46 (by decide) ?_
        exact tw_zretY S hr hlk w rfl ⟨by first | exact Or.inl ⟨rfl, by unfold tw_n; omega⟩ | exact Or.inr ⟨rfl, by unfold tw_n; omega⟩, rfl⟩ dX1_isBefore_50
def tw_dnK (st s : Nat → Nat → Nat) (a : Nat) : Nat → (Nat → Nat → Nat)
  | 0 => s
  | k + 1 => tw_up (tw_dnK st s a k) 8 ((400 * a + st 9 a) * 4 + k) (st 10 (4 * a + k))
theorem tw_dnK_o {st s : Nat → Nat → Nat} {a : Nat} : ∀ {k k' y : Nat}, k' ≠ 8 → tw_dnK st s a k k' y = s k' y
  | 0, _, _, _ => rfl
  | k + 1, k', y, h => by
    show tw_up (tw_dnK st s a k) 8 _ _ k' y = s k' y
    rw [tw_up_k h]
    exact tw_dnK_o h
/-- a change of copy a in the reference -/
def tw_dn (st : Nat → Nat → Nat) (a h : Nat) : Nat → Nat → Nat := tw_up (tw_up (tw_up (tw_dnK st (tw_up st 7 (400 * a + st 9 a) h) a 4) 9 a (st 9 a + 1)) 10 (4 * a + a) (st 10 (4 * a + a) + 1)) 13 2 0
set_option maxHeartbeats 4000000 in
set_option maxRecDepth 100000 in
/-- done(c, how) -/
theorem kX1_done (l : Launch) (D : va_G) (cI cZ : ClassId) (x : Nat) (ad : Nat → Nat) (st : Nat → Nat → Nat) (sz : Nat) {a h : Nat} (ha : a < 4) (hk : st 9 a < 400) : Met l yX1_done wsX1_done ({ frames := 0, cells := 0, slots := 0, locals := 0 }) (va_Pc [.ref x, .int (nI a), .int (tw_wh h)] (fun U => U.heap.size = sz ∧ tw_YU D cI cZ x ad st U)) (va_Qi (fun r u => r = nI (st 9 a) ∧ u = tw_dn st a h) (tw_YT D cI cZ x ad (va_A (tw_y cI cZ x ad st) sz)) (va_A (tw_y cI cZ x ad st) sz)) 0 0 (va_A (tw_y cI cZ x ad st) sz) := by
  refine Met.ofW (cc := cX1_done) (maxL := 5) (ret := (some .int)) (by decide) rfl ?_
  intro p e s m args below meth cd s₁ B hml hv
  obtain ⟨rfl, hsz, hU⟩ := hv
  subst hsz
  have S : CallFix p m cd cX1_done 5 s ([.ref x, .int (nI a), .int (tw_wh h)] : List Value).toArray tw_wall RX1 := ⟨B.exec, B.bytes, hml, findClass_of_methodNamed B.named, fun w h => atoms_spec (ws := wsX1_done) B.pre w (List.mem_cons_of_mem _ h)⟩
  have hr := B.returns
  have hlk := B.notSynchronized
  have z : va_S (fun q => s.heap.size ≤ q) s.heap s.heap [] := va_S.rf
  have w := tw_Y0 hU
  have hA : ∀ q : Nat, s.heap.size ≤ q → va_A (tw_y cI cZ x ad st) s.heap.size q := fun q h => Or.inr h
  generalize va_A (tw_y cI cZ x ad st) s.heap.size = A at w hA ⊢
  have hl := lv_entry ([.ref x, .int (nI a), .int (tw_wh h)]) (n := 5) (Nat.le_of_ble_eq_true rfl)
  rw [lg_entry_eq]
  generalize (lg_sl ([.ref x, .int (nI a), .int (tw_wh h)]) ++ List.replicate (5 - (lg_sl ([.ref x, .int (nI a), .int (tw_wh h)])).length) Slot.unset).toArray = ls at hl ⊢
  have hl : lv_has ls 5 [(0, .ref x), (1, .int (nI a)), (2, .int (tw_wh h))] := hl
  have loop : ∀ (n : Nat) (k : Nat) (H : Heap) (locs : List Loc) (ls : Array Slot), k ≤ 4 → 4 - k < n → TWY D cI cZ x ad (tw_dnK st (tw_up st 7 (400 * a + st 9 a) h) a k) A s.heap H locs s → lv_has ls 5 [(4, .int (nI k)), (3, .int (nI (st 9 a))), (0, .ref x), (1, .int (nI a)), (2, .int (tw_wh h))] → W p l e (headSpec wsX1_done ({ frames := 0, cells := 0, slots := 0, locals := 0 })).room s m ([.ref x, .int (nI a), .int (tw_wh h)] : List Value).toArray below meth cd H locs 0 0 (MQ below (va_Qi (fun r u => r = nI (st 9 a) ∧ u = tw_dn st a h) (tw_YT D cI cZ x ad A) A) ([.ref x, .int (nI a), .int (tw_wh h)] : List Value).toArray s 0 0 A) (F0 m 23 ls []) := by
    intro n
    induction n with
    | zero => intros; omega
    | succ n ih =>
      intro k H locs ls hk hm w hl
      refine lv_iload S.1 S.2.1 dX1_done_23 (lv_at hl 0 rfl) ?_
      refine lv_iconst (v := nI 4) S.1 S.2.1 dX1_done_25 (by decide) ?_
      refine lv_icmp_ge (tgt := 63) S.1 S.2.1 dX1_done_26 (by decide) (fun h26 => ?_) (fun h26 => ?_)
      · have hk4 : k = 4 := by have := (tw_le (by omega) (by omega)).mp h26; omega
        subst hk4
        refine lv_aload_n S.1 S.2.1 dX1_done_63 rfl (lv_at hl 2 rfl) ?_
        refine yyg_made S w dX1_done_64 ?_
        refine lv_iload_n S.1 S.2.1 dX1_done_67 rfl (lv_at hl 3 rfl) ?_
        refine lv_dup2_11 S.1 S.2.1 dX1_done_68 rfl rfl ?_
        refine yyl_9 S w (by omega) dX1_done_69 ?_
        refine tw_t (show _ = nI (st 9 a) from by rw [tw_dnK_o (by omega), tw_up_k (by omega)]) ?_
        refine lv_iconst (v := nI 1) S.1 S.2.1 dX1_done_70 (by decide) ?_
        refine lv_iadd S.1 S.2.1 dX1_done_71 ?_
        refine tw_t (nI_add _ _) ?_
        refine yys_9 S w (by omega)  dX1_done_72 (fun H locs w => ?_)
        refine lv_aload_n S.1 S.2.1 dX1_done_73 rfl (lv_at hl 2 rfl) ?_
        refine yyg_has S w dX1_done_74 ?_
        refine lv_iconst (v := nI 4) S.1 S.2.1 dX1_done_77 (by decide) ?_
        refine lv_iload_n S.1 S.2.1 dX1_done_78 rfl (lv_at hl 3 rfl) ?_
        refine lv_imul S.1 S.2.1 dX1_done_79 ?_
        refine tw_t (pk_mul _ _) ?_
        refine lv_iload_n S.1 S.2.1 dX1_done_80 rfl (lv_at hl 3 rfl) ?_
        refine lv_iadd S.1 S.2.1 dX1_done_81 ?_
        refine tw_t (nI_add _ _) ?_
        refine lv_dup2_11 S.1 S.2.1 dX1_done_82 rfl rfl ?_
        refine yyl_10 S w (by omega) dX1_done_83 ?_
        refine tw_t (show _ = nI (st 10 (4 * a + a)) from by rw [tw_up_k (by omega), tw_dnK_o (by omega), tw_up_k (by omega)]) ?_
        refine lv_iconst (v := nI 1) S.1 S.2.1 dX1_done_84 (by decide) ?_
        refine lv_iadd S.1 S.2.1 dX1_done_85 ?_
        refine tw_t (nI_add _ _) ?_
        refine yys_10 S w (by omega)  dX1_done_86 (fun H locs w => ?_)
        refine lv_aload_n S.1 S.2.1 dX1_done_87 rfl (lv_at hl 2 rfl) ?_
        refine lv_iconst (v := nI 0 - 1) S.1 S.2.1 dX1_done_88 (by decide) ?_
        refine yyp_orderOf S w dX1_done_89 (fun H locs w => ?_)
        refine lv_iload_n S.1 S.2.1 dX1_done_92 rfl (lv_at hl 1 rfl) ?_
        exact tw_iretY S hr hlk w ⟨rfl, rfl⟩ dX1_done_93
      · have hk4 : k < 4 := Nat.not_le.mp (fun g => h26 ((tw_le (by omega) (by omega)).mpr g))
        refine lv_aload_n S.1 S.2.1 dX1_done_29 rfl (lv_at hl 2 rfl) ?_
        refine yyg_had S w dX1_done_30 ?_
        refine lv_sipush (v := nI 400) S.1 S.2.1 dX1_done_33 (by decide) ?_
        refine lv_iload_n S.1 S.2.1 dX1_done_36 rfl (lv_at hl 3 rfl) ?_
        refine lv_imul S.1 S.2.1 dX1_done_37 ?_
        refine tw_t (pk_mul _ _) ?_
        refine lv_iload_n S.1 S.2.1 dX1_done_38 rfl (lv_at hl 1 rfl) ?_
        refine lv_iadd S.1 S.2.1 dX1_done_39 ?_
        refine tw_t (nI_add _ _) ?_
        refine lv_iconst (v := nI 4) S.1 S.2.1 dX1_done_40 (by decide) ?_
        refine lv_imul S.1 S.2.1 dX1_done_41 ?_
        refine tw_t (pk_mul _ _) ?_
        refine lv_iload S.1 S.2.1 dX1_done_42 (lv_at hl 0 rfl) ?_
        refine lv_iadd S.1 S.2.1 dX1_done_44 ?_
        refine tw_t (nI_add _ _) ?_
        refine lv_aload_n S.1 S.2.1 dX1_done_45 rfl (lv_at hl 2 rfl) ?_
        refine yyg_has S w dX1_done_46 ?_
        refine lv_iconst (v := nI 4) S.1 S.2.1 dX1_done_49 (by decide) ?_
        refine lv_iload_n S.1 S.2.1 dX1_done_50 rfl (lv_at hl 3 rfl) ?_
        refine lv_imul S.1 S.2.1 dX1_done_51 ?_
        refine tw_t (pk_mul _ _) ?_
        refine lv_iload S.1 S.2.1 dX1_done_52 (lv_at hl 0 rfl) ?_
        refine lv_iadd S.1 S.2.1 dX1_done_54 ?_
        refine tw_t (nI_add _ _) ?_
        refine yyl_10 S w (by omega) dX1_done_55 ?_
        refine tw_t (show _ = nI (st 10 (4 * a + k)) from by rw [tw_dnK_o (by omega), tw_up_k (by omega)]) ?_
        refine yys_8 S w (by omega)  dX1_done_56 (fun H locs w => ?_)
        refine lv_iinc S.1 S.2.1 dX1_done_57 hl (k := 0) rfl (tw_inc _) (by decide) rfl (fun ls hl => ?_)
        refine lv_goto (tgt := 23) S.1 S.2.1 dX1_done_60 (by decide) ?_
        exact ih (k + 1) H locs ls (by omega) (by omega) w (lv_sub hl [0, 1, 2, 3, 4] rfl)
  refine lv_aload_n S.1 S.2.1 dX1_done_0 rfl (lv_at hl 0 rfl) ?_
  refine yyg_made S w dX1_done_1 ?_
  refine lv_iload_n S.1 S.2.1 dX1_done_4 rfl (lv_at hl 1 rfl) ?_
  refine yyl_9 S w (by omega) dX1_done_5 ?_
  refine lv_istore_n S.1 S.2.1 dX1_done_6 rfl hl (by decide) rfl (fun ls hl => ?_)
  refine lv_aload_n S.1 S.2.1 dX1_done_7 rfl (lv_at hl 1 rfl) ?_
  refine yyg_what S w dX1_done_8 ?_
  refine lv_sipush (v := nI 400) S.1 S.2.1 dX1_done_11 (by decide) ?_
  refine lv_iload_n S.1 S.2.1 dX1_done_14 rfl (lv_at hl 2 rfl) ?_
  refine lv_imul S.1 S.2.1 dX1_done_15 ?_
  refine tw_t (pk_mul _ _) ?_
  refine lv_iload_n S.1 S.2.1 dX1_done_16 rfl (lv_at hl 0 rfl) ?_
  refine lv_iadd S.1 S.2.1 dX1_done_17 ?_
  refine tw_t (nI_add _ _) ?_
  refine lv_iload_n S.1 S.2.1 dX1_done_18 rfl (lv_at hl 3 rfl) ?_
  refine yys_7 S w (by omega)  dX1_done_19 (fun H locs w => ?_)
  refine lv_iconst (v := nI 0) S.1 S.2.1 dX1_done_20 (by decide) ?_
  refine lv_istore S.1 S.2.1 dX1_done_21 hl (by decide) rfl (fun ls hl => ?_)
  exact loop 5 0 _ _ _ (by omega) (by omega) w (lv_sub hl [0, 1, 2, 3, 4] rfl)
