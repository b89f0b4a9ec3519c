set_option maxHeartbeats 4000000 in
set_option maxRecDepth 100000 in
/-- the law's insert -/
theorem kL_insert (l : Launch) (D : va_G) (cI cJ cL : ClassId) (x : Nat) (ad : Nat → Nat) (st : Nat → Nat → Nat) (o : Nat) (fo : Nat → Int64) (sz : Nat) (hlt : l.stackTraces = false) {v t b : Int32} {md : Nat → Nat} (hci : tw_ci md st) (hcc : ∀ c, c < 4 → st (24 + c) c = md c) (hnc : st 9 0 ≤ 512) (hn4 : ∀ j, st 4 j < 2147483648) : vx_Met l yL_insert wsL_insert ({ frames := 10, cells := 4, slots := 24, locals := 180 }) (va_Pc [.ref x, .int v, .int t, .int b, .ref o] (fun U => U.heap.size = sz ∧ tw_Z (fun q => sz ≤ q) U ∧ va_Nc "java/lang/IllegalStateException" "java/lang/IllegalArgumentException" U ∧ tw_OU D cI cJ cL x ad st o fo U)) (va_Qi (tw_wr (fun rr u => tw_okIns st v t b rr u) (tw_pxIns st v t b) st fo) (tw_OT D cI cJ cL x ad o (va_A (tw_xo cI cJ cL x ad st o fo) sz)) (va_A (tw_xo cI cJ cL x ad st o fo) sz)) tw_XN 4 24 (va_A (tw_xo cI cJ cL x ad st o fo) sz) := by
  refine vx_ofWH (cc := cL_insert) (maxL := 6) (ret := some .int) (hh := [(0, 12, 15, 13), (0, 12, 19, 15)]) (by decide) rfl ?_
  intro p e s m args below meth cd s₁ B hml hv
  obtain ⟨rfl, hsz, Z, hnc9, hU⟩ := hv
  subst hsz
  have S : CallFix p m cd cL_insert 6 s ([.ref x, .int v, .int t, .int b, .ref o] : List Value).toArray tw_wall RL := ⟨B.exec, B.bytes, hml, findClass_of_methodNamed B.named, fun w h => atoms_spec (ws := wsL_insert) B.pre w (List.mem_cons_of_mem _ h)⟩
  have htab : cd.exceptionTable.toList = tableOf [(0, 12, 15, 13), (0, 12, 19, 15)] := vx_table (x := yL_insert) B (atoms_spec (ws := wsL_insert) B.pre _ List.mem_cons_self)
  have hr := B.returns
  have hlk := B.notSynchronized
  have z : va_S (fun q => s.heap.size ≤ q) s.heap s.heap [] := va_S.rf
  obtain ⟨hP, hK, hD0⟩ := hU
  have hD := hD0.self (sz := s.heap.size)
  have hA : ∀ q : Nat, s.heap.size ≤ q → va_A (tw_xo cI cJ cL x ad st o fo) s.heap.size q := fun q h => Or.inr h
  generalize va_A (tw_xo cI cJ cL x ad st o fo) s.heap.size = A at hD hA ⊢
  have hS : va_S A s.heap s.heap [] := va_S.rf
  have hl := lv_entry ([.ref x, .int v, .int t, .int b, .ref o]) (n := 6) (Nat.le_of_ble_eq_true rfl)
  rw [lg_entry_eq]
  generalize (lg_sl ([.ref x, .int v, .int t, .int b, .ref o]) ++ List.replicate (6 - (lg_sl ([.ref x, .int v, .int t, .int b, .ref o])).length) Slot.unset).toArray = ls at hl ⊢
  have hl : lv_has ls 6 [(0, .ref x), (1, .int v), (2, .int t), (3, .int b), (4, .ref o)] := hl
  refine lv_aload S.1 S.2.1 dL_insert_0 (lv_at hl 4 rfl) ?_
  refine lv_iconst (v := nI 0) S.1 S.2.1 dL_insert_2 (by decide) ?_
  refine lv_aload_n S.1 S.2.1 dL_insert_3 rfl (lv_at hl 0 rfl) ?_
  refine lv_iload_n S.1 S.2.1 dL_insert_4 rfl (lv_at hl 1 rfl) ?_
  refine lv_iload_n S.1 S.2.1 dL_insert_5 rfl (lv_at hl 2 rfl) ?_
  refine lv_iload_n S.1 S.2.1 dL_insert_6 rfl (lv_at hl 3 rfl) ?_
  refine tw_lci (n := 3) S hK hP hD hS hA Z z (kX0_insert l D cI cJ x ad st _ hlt hci hcc hnc hn4) (tw_gV wl_L_7 wn_X0_insert ws_X0_insert wi_X0 wy_X0_insert) rfl rfl (by decide +kernel) ⟨Nat.le_of_ble_eq_true rfl, Nat.le_of_ble_eq_true rfl⟩ rfl hl.1 rfl (Nat.le_of_ble_eq_true rfl) dL_insert_7 ⟨Nat.le_of_ble_eq_true rfl, Nat.le_of_ble_eq_true rfl⟩ (fun u q9 ce H locs hpx hce hcv hcl hP hS => ?_) (fun rr u H locs hok hP hD hS => ?_)
  · have hu12 : u = 1 ∨ u = 2 := hpx.elim (fun g => Or.inl g.1) (fun g => Or.inr g.1)
    rcases hu12 with rfl | rfl
    · refine vx_catch (E := "java/lang/IllegalArgumentException") (name := "java/lang/IllegalArgumentException") S.2.2.2.1 [] ⟨0, 12, 15, 13⟩ [⟨0, 12, 19, 15⟩] htab (fun _ h => absurd h List.not_mem_nil) (by decide) (by decide) (S.2.2.2.2 _ wc_L_13) (tw_cast (s := s) (Vm.Alike.refl s.vm) Z.2.2.1.1) hce hcv hcl ?_
      refine lv_astore S.1 S.2.1 dL_insert_15 hl (by decide) rfl (fun ls hl => ?_)
      refine lv_iconst (v := nI 1) S.1 S.2.1 dL_insert_17 (by decide) ?_
      refine vx_ret ?_
      exact W.iret S.1 S.2.1 hr (fun t ht hW => ⟨⟨_, (st, fo), rfl, Or.inr ⟨1, rfl, by omega, hpx, rfl⟩, by rw [ht]; exact hP, va_K.moved hW.alike hK, hD⟩, hS.F ht⟩) hS.2.2 dL_insert_18 hlk
    · refine vx_catch (E := "java/lang/IllegalStateException") (name := "java/lang/IllegalStateException") S.2.2.2.1 [⟨0, 12, 15, 13⟩] ⟨0, 12, 19, 15⟩ [] htab (fun q9 h => Or.inr (by rw [List.mem_singleton.mp h]; exact ⟨by decide, _, S.2.2.2.2 _ wc_L_13, hnc9⟩)) (by decide) (by decide) (S.2.2.2.2 _ wc_L_15) (tw_cast (s := s) (Vm.Alike.refl s.vm) Z.2.2.1.2.1) hce hcv hcl ?_
      refine lv_astore S.1 S.2.1 dL_insert_19 hl (by decide) rfl (fun ls hl => ?_)
      refine lv_iconst (v := nI 2) S.1 S.2.1 dL_insert_21 (by decide) ?_
      refine vx_ret ?_
      exact W.iret S.1 S.2.1 hr (fun t ht hW => ⟨⟨_, (st, fo), rfl, Or.inr ⟨2, rfl, by omega, hpx, rfl⟩, by rw [ht]; exact hP, va_K.moved hW.alike hK, hD⟩, hS.F ht⟩) hS.2.2 dL_insert_22 hlk
  · refine lv_i2l (v := rr.toInt64) S.1 S.2.1 dL_insert_10 rfl ?_
    refine va_last S.1 S.2.1 hK hP hD hS 0 2 rfl rfl (vp_in_nI (n := 0) (N := 1) (by decide) (by decide)) dL_insert_11 (fun H locs hP hD hS => ?_)
    have hP : va_P D twCl (tw_xo cI cJ cL x ad u o (vp_updL fo (nI 0).toNatClampNeg rr.toInt64)) H := hP
    have hD : va_D A (tw_xo cI cJ cL x ad u o (vp_updL fo (nI 0).toNatClampNeg rr.toInt64)) := hD
    refine lv_goto (tgt := 23) S.1 S.2.1 dL_insert_12 (by decide) ?_
    refine lv_iconst (v := nI 0) S.1 S.2.1 dL_insert_23 (by decide) ?_
    refine vx_ret ?_
    exact W.iret S.1 S.2.1 hr (fun t ht hW => ⟨⟨_, (u, vp_updL fo (nI 0).toNatClampNeg rr.toInt64), rfl, Or.inl ⟨rfl, rr, hok, by show vp_updL fo (nI 0).toNatClampNeg rr.toInt64 0 = rr.toInt64; rw [nI_clamp (by decide)]; exact pk_uLs⟩, by rw [ht]; exact hP, va_K.moved hW.alike hK, hD⟩, hS.F ht⟩) hS.2.2 dL_insert_24 hlk
set_option maxHeartbeats 4000000 in
set_option maxRecDepth 100000 in
/-- the law's remove -/
theorem kL_remove (l : Launch) (D : va_G) (cI cJ cL : ClassId) (x : Nat) (ad : Nat → Nat) (st : Nat → Nat → Nat) (o : Nat) (fo : Nat → Int64) (sz : Nat) (hlt : l.stackTraces = false) {v t : Int32} {md : Nat → Nat} (hci : tw_ci md st) (hcc : ∀ c, c < 4 → st (24 + c) c = md c) (hnc : st 9 0 ≤ 512) (hn4 : ∀ j, st 4 j < 2147483648) : vx_Met l yL_remove wsL_remove ({ frames := 10, cells := 4, slots := 24, locals := 180 }) (va_Pc [.ref x, .int v, .int t, .ref o] (fun U => U.heap.size = sz ∧ tw_Z (fun q => sz ≤ q) U ∧ va_Nc "java/lang/IllegalStateException" "java/lang/IllegalArgumentException" U ∧ tw_OU D cI cJ cL x ad st o fo U)) (va_Qi (tw_wr (fun rr u => tw_okRem st v t rr u) (tw_pxRem st v t) st fo) (tw_OT D cI cJ cL x ad o (va_A (tw_xo cI cJ cL x ad st o fo) sz)) (va_A (tw_xo cI cJ cL x ad st o fo) sz)) tw_XN 4 24 (va_A (tw_xo cI cJ cL x ad st o fo) sz) := by
  refine vx_ofWH (cc := cL_remove) (maxL := 5) (ret := some .int) (hh := [(0, 10, 13, 13), (0, 10, 17, 15)]) (by decide) rfl ?_
  intro p e s m args below meth cd s₁ B hml hv
  obtain ⟨rfl, hsz, Z, hnc9, hU⟩ := hv
  subst hsz
  have S : CallFix p m cd cL_remove 5 s ([.ref x, .int v, .int t, .ref o] : List Value).toArray tw_wall RL := ⟨B.exec, B.bytes, hml, findClass_of_methodNamed B.named, fun w h => atoms_spec (ws := wsL_remove) B.pre w (List.mem_cons_of_mem _ h)⟩
  have htab : cd.exceptionTable.toList = tableOf [(0, 10, 13, 13), (0, 10, 17, 15)] := vx_table (x := yL_remove) B (atoms_spec (ws := wsL_remove) B.pre _ List.mem_cons_self)
  have hr := B.returns
  have hlk := B.notSynchronized
  have z : va_S (fun q => s.heap.size ≤ q) s.heap s.heap [] := va_S.rf
  obtain ⟨hP, hK, hD0⟩ := hU
  have hD := hD0.self (sz := s.heap.size)
  have hA : ∀ q : Nat, s.heap.size ≤ q → va_A (tw_xo cI cJ cL x ad st o fo) s.heap.size q := fun q h => Or.inr h
  generalize va_A (tw_xo cI cJ cL x ad st o fo) s.heap.size = A at hD hA ⊢
  have hS : va_S A s.heap s.heap [] := va_S.rf
  have hl := lv_entry ([.ref x, .int v, .int t, .ref o]) (n := 5) (Nat.le_of_ble_eq_true rfl)
  rw [lg_entry_eq]
  generalize (lg_sl ([.ref x, .int v, .int t, .ref o]) ++ List.replicate (5 - (lg_sl ([.ref x, .int v, .int t, .ref o])).length) Slot.unset).toArray = ls at hl ⊢
  have hl : lv_has ls 5 [(0, .ref x), (1, .int v), (2, .int t), (3, .ref o)] := hl
  refine lv_aload_n S.1 S.2.1 dL_remove_0 rfl (lv_at hl 3 rfl) ?_
  refine lv_iconst (v := nI 0) S.1 S.2.1 dL_remove_1 (by decide) ?_
  refine lv_aload_n S.1 S.2.1 dL_remove_2 rfl (lv_at hl 0 rfl) ?_
  refine lv_iload_n S.1 S.2.1 dL_remove_3 rfl (lv_at hl 1 rfl) ?_
  refine lv_iload_n S.1 S.2.1 dL_remove_4 rfl (lv_at hl 2 rfl) ?_
  refine tw_lci (n := 2) S hK hP hD hS hA Z z (kX0_remove l D cI cJ x ad st _ hlt hci hcc hnc hn4) (tw_gV wl_L_17 wn_X0_remove ws_X0_remove wi_X0 wy_X0_remove) rfl rfl (by decide +kernel) ⟨Nat.le_of_ble_eq_true rfl, Nat.le_of_ble_eq_true rfl⟩ rfl hl.1 rfl (Nat.le_of_ble_eq_true rfl) dL_remove_5 ⟨Nat.le_of_ble_eq_true rfl, Nat.le_of_ble_eq_true rfl⟩ (fun u q9 ce H locs hpx hce hcv hcl hP hS => ?_) (fun rr u H locs hok hP hD hS => ?_)
  · have hu12 : u = 1 ∨ u = 2 := hpx.elim (fun g => Or.inl g.1) (fun g => Or.inr g.1)
    rcases hu12 with rfl | rfl
    · refine vx_catch (E := "java/lang/IllegalArgumentException") (name := "java/lang/IllegalArgumentException") S.2.2.2.1 [] ⟨0, 10, 13, 13⟩ [⟨0, 10, 17, 15⟩] htab (fun _ h => absurd h List.not_mem_nil) (by decide) (by decide) (S.2.2.2.2 _ wc_L_13) (tw_cast (s := s) (Vm.Alike.refl s.vm) Z.2.2.1.1) hce hcv hcl ?_
      refine lv_astore S.1 S.2.1 dL_remove_13 hl (by decide) rfl (fun ls hl => ?_)
      refine lv_iconst (v := nI 1) S.1 S.2.1 dL_remove_15 (by decide) ?_
      refine vx_ret ?_
      exact W.iret S.1 S.2.1 hr (fun t ht hW => ⟨⟨_, (st, fo), rfl, Or.inr ⟨1, rfl, by omega, hpx, rfl⟩, by rw [ht]; exact hP, va_K.moved hW.alike hK, hD⟩, hS.F ht⟩) hS.2.2 dL_remove_16 hlk
    · refine vx_catch (E := "java/lang/IllegalStateException") (name := "java/lang/IllegalStateException") S.2.2.2.1 [⟨0, 10, 13, 13⟩] ⟨0, 10, 17, 15⟩ [] htab (fun q9 h => Or.inr (by rw [List.mem_singleton.mp h]; exact ⟨by decide, _, S.2.2.2.2 _ wc_L_13, hnc9⟩)) (by decide) (by decide) (S.2.2.2.2 _ wc_L_15) (tw_cast (s := s) (Vm.Alike.refl s.vm) Z.2.2.1.2.1) hce hcv hcl ?_
      refine lv_astore S.1 S.2.1 dL_remove_17 hl (by decide) rfl (fun ls hl => ?_)
      refine lv_iconst (v := nI 2) S.1 S.2.1 dL_remove_19 (by decide) ?_
      refine vx_ret ?_
      exact W.iret S.1 S.2.1 hr (fun t ht hW => ⟨⟨_, (st, fo), rfl, Or.inr ⟨2, rfl, by omega, hpx, rfl⟩, by rw [ht]; exact hP, va_K.moved hW.alike hK, hD⟩, hS.F ht⟩) hS.2.2 dL_remove_20 hlk
  · refine lv_i2l (v := rr.toInt64) S.1 S.2.1 dL_remove_8 rfl ?_
    refine va_last S.1 S.2.1 hK hP hD hS 0 2 rfl rfl (vp_in_nI (n := 0) (N := 1) (by decide) (by decide)) dL_remove_9 (fun H locs hP hD hS => ?_)
    have hP : va_P D twCl (tw_xo cI cJ cL x ad u o (vp_updL fo (nI 0).toNatClampNeg rr.toInt64)) H := hP
    have hD : va_D A (tw_xo cI cJ cL x ad u o (vp_updL fo (nI 0).toNatClampNeg rr.toInt64)) := hD
    refine lv_goto (tgt := 21) S.1 S.2.1 dL_remove_10 (by decide) ?_
    refine lv_iconst (v := nI 0) S.1 S.2.1 dL_remove_21 (by decide) ?_
    refine vx_ret ?_
    exact W.iret S.1 S.2.1 hr (fun t ht hW => ⟨⟨_, (u, vp_updL fo (nI 0).toNatClampNeg rr.toInt64), rfl, Or.inl ⟨rfl, rr, hok, by show vp_updL fo (nI 0).toNatClampNeg rr.toInt64 0 = rr.toInt64; rw [nI_clamp (by decide)]; exact pk_uLs⟩, by rw [ht]; exact hP, va_K.moved hW.alike hK, hD⟩, hS.F ht⟩) hS.2.2 dL_remove_22 hlk
set_option maxHeartbeats 4000000 in
set_option maxRecDepth 100000 in
/-- the law's merge -/
theorem kL_merge (l : Launch) (D : va_G) (cI cJ cL : ClassId) (x : Nat) (ad : Nat → Nat) (st : Nat → Nat → Nat) (o : Nat) (fo : Nat → Int64) (sz : Nat) (hlt : l.stackTraces = false) {v t : Int32} {md : Nat → Nat} (hci : tw_ci md st) (hcc : ∀ c, c < 4 → st (24 + c) c = md c) (hnc : st 9 0 ≤ 512) (hn4 : ∀ j, st 4 j < 2147483648) : vx_Met l yL_merge wsL_merge ({ frames := 10, cells := 4, slots := 24, locals := 180 }) (va_Pc [.ref x, .int v, .int t, .ref o] (fun U => U.heap.size = sz ∧ tw_Z (fun q => sz ≤ q) U ∧ va_Nc "java/lang/IllegalStateException" "java/lang/IllegalArgumentException" U ∧ tw_OU D cI cJ cL x ad st o fo U)) (va_Qi (tw_wr (fun rr u => ∃ a b k, a < 4 ∧ v = nI a ∧ b < 4 ∧ t = nI b ∧ rr = nI k ∧ tw_mrg md st u a b (st 9 0) k) (fun u => u = 1 ∧ (tw_nc v ∨ tw_nc t)) st fo) (tw_OT D cI cJ cL x ad o (va_A (tw_xo cI cJ cL x ad st o fo) sz)) (va_A (tw_xo cI cJ cL x ad st o fo) sz)) tw_XN 4 24 (va_A (tw_xo cI cJ cL x ad st o fo) sz) := by
  refine vx_ofWH (cc := cL_merge) (maxL := 5) (ret := some .int) (hh := [(0, 10, 13, 13)]) (by decide) rfl ?_
  intro p e s m args below meth cd s₁ B hml hv
  obtain ⟨rfl, hsz, Z, hnc9, hU⟩ := hv
  subst hsz
  have S : CallFix p m cd cL_merge 5 s ([.ref x, .int v, .int t, .ref o] : List Value).toArray tw_wall RL := ⟨B.exec, B.bytes, hml, findClass_of_methodNamed B.named, fun w h => atoms_spec (ws := wsL_merge) B.pre w (List.mem_cons_of_mem _ h)⟩
  have htab : cd.exceptionTable.toList = tableOf [(0, 10, 13, 13)] := vx_table (x := yL_merge) B (atoms_spec (ws := wsL_merge) B.pre _ List.mem_cons_self)
  have hr := B.returns
  have hlk := B.notSynchronized
  have z : va_S (fun q => s.heap.size ≤ q) s.heap s.heap [] := va_S.rf
  obtain ⟨hP, hK, hD0⟩ := hU
  have hD := hD0.self (sz := s.heap.size)
  have hA : ∀ q : Nat, s.heap.size ≤ q → va_A (tw_xo cI cJ cL x ad st o fo) s.heap.size q := fun q h => Or.inr h
  generalize va_A (tw_xo cI cJ cL x ad st o fo) s.heap.size = A at hD hA ⊢
  have hS : va_S A s.heap s.heap [] := va_S.rf
  have hl := lv_entry ([.ref x, .int v, .int t, .ref o]) (n := 5) (Nat.le_of_ble_eq_true rfl)
  rw [lg_entry_eq]
  generalize (lg_sl ([.ref x, .int v, .int t, .ref o]) ++ List.replicate (5 - (lg_sl ([.ref x, .int v, .int t, .ref o])).length) Slot.unset).toArray = ls at hl ⊢
  have hl : lv_has ls 5 [(0, .ref x), (1, .int v), (2, .int t), (3, .ref o)] := hl
  refine lv_aload_n S.1 S.2.1 dL_merge_0 rfl (lv_at hl 3 rfl) ?_
  refine lv_iconst (v := nI 0) S.1 S.2.1 dL_merge_1 (by decide) ?_
  refine lv_aload_n S.1 S.2.1 dL_merge_2 rfl (lv_at hl 0 rfl) ?_
  refine lv_iload_n S.1 S.2.1 dL_merge_3 rfl (lv_at hl 1 rfl) ?_
  refine lv_iload_n S.1 S.2.1 dL_merge_4 rfl (lv_at hl 2 rfl) ?_
  refine tw_lci (n := 2) S hK hP hD hS hA Z z (kX0_merge l D cI cJ x ad st _ hlt hci hcc hnc hn4) (tw_gV wl_L_25 wn_X0_merge ws_X0_merge wi_X0 wy_X0_merge) rfl rfl (by decide +kernel) ⟨Nat.le_of_ble_eq_true rfl, Nat.le_of_ble_eq_true rfl⟩ rfl hl.1 rfl (Nat.le_of_ble_eq_true rfl) dL_merge_5 ⟨Nat.le_of_ble_eq_true rfl, Nat.le_of_ble_eq_true rfl⟩ (fun u q9 ce H locs hpx hce hcv hcl hP hS => ?_) (fun rr u H locs hok hP hD hS => ?_)
  · have hu12 : u = 1 ∨ u = 2 := Or.inl hpx.1
    rcases hu12 with rfl | rfl
    · refine vx_catch (E := "java/lang/IllegalArgumentException") (name := "java/lang/IllegalArgumentException") S.2.2.2.1 [] ⟨0, 10, 13, 13⟩ [] htab (fun _ h => absurd h List.not_mem_nil) (by decide) (by decide) (S.2.2.2.2 _ wc_L_13) (tw_cast (s := s) (Vm.Alike.refl s.vm) Z.2.2.1.1) hce hcv hcl ?_
      refine lv_astore S.1 S.2.1 dL_merge_13 hl (by decide) rfl (fun ls hl => ?_)
      refine lv_iconst (v := nI 1) S.1 S.2.1 dL_merge_15 (by decide) ?_
      refine vx_ret ?_
      exact W.iret S.1 S.2.1 hr (fun t ht hW => ⟨⟨_, (st, fo), rfl, Or.inr ⟨1, rfl, by omega, hpx, rfl⟩, by rw [ht]; exact hP, va_K.moved hW.alike hK, hD⟩, hS.F ht⟩) hS.2.2 dL_merge_16 hlk
    · exact absurd hpx.1 (by omega)
  · refine lv_i2l (v := rr.toInt64) S.1 S.2.1 dL_merge_8 rfl ?_
    refine va_last S.1 S.2.1 hK hP hD hS 0 2 rfl rfl (vp_in_nI (n := 0) (N := 1) (by decide) (by decide)) dL_merge_9 (fun H locs hP hD hS => ?_)
    have hP : va_P D twCl (tw_xo cI cJ cL x ad u o (vp_updL fo (nI 0).toNatClampNeg rr.toInt64)) H := hP
    have hD : va_D A (tw_xo cI cJ cL x ad u o (vp_updL fo (nI 0).toNatClampNeg rr.toInt64)) := hD
    refine lv_goto (tgt := 17) S.1 S.2.1 dL_merge_10 (by decide) ?_
    refine lv_iconst (v := nI 0) S.1 S.2.1 dL_merge_17 (by decide) ?_
    refine vx_ret ?_
    exact W.iret S.1 S.2.1 hr (fun t ht hW => ⟨⟨_, (u, vp_updL fo (nI 0).toNatClampNeg rr.toInt64), rfl, Or.inl ⟨rfl, rr, hok, by show vp_updL fo (nI 0).toNatClampNeg rr.toInt64 0 = rr.toInt64; rw [nI_clamp (by decide)]; exact pk_uLs⟩, by rw [ht]; exact hP, va_K.moved hW.alike hK, hD⟩, hS.F ht⟩) hS.2.2 dL_merge_18 hlk
set_option maxHeartbeats 4000000 in
set_option maxRecDepth 100000 in
/-- the law's length -/
theorem kL_length (l : Launch) (D : va_G) (cI cJ cL : ClassId) (x : Nat) (ad : Nat → Nat) (st : Nat → Nat → Nat) (o : Nat) (fo : Nat → Int64) (sz : Nat) (hlt : l.stackTraces = false) {v : Int32} {md : Nat → Nat} (hci : tw_ci md st) (hcc : ∀ c, c < 4 → st (24 + c) c = md c) (hnc : st 9 0 ≤ 512) (hn4 : ∀ j, st 4 j < 2147483648) : vx_Met l yL_length wsL_length ({ frames := 10, cells := 4, slots := 24, locals := 180 }) (va_Pc [.ref x, .int v, .ref o] (fun U => U.heap.size = sz ∧ tw_Z (fun q => sz ≤ q) U ∧ va_Nc "java/lang/IllegalStateException" "java/lang/IllegalArgumentException" U ∧ tw_OU D cI cJ cL x ad st o fo U)) (va_Qi (tw_wr (fun rr u => ∃ a, a < 4 ∧ v = nI a ∧ rr = nI (st 8 a) ∧ u = st) (fun u => u = 1 ∧ tw_nc v) st fo) (tw_OT D cI cJ cL x ad o (va_A (tw_xo cI cJ cL x ad st o fo) sz)) (va_A (tw_xo cI cJ cL x ad st o fo) sz)) tw_XN 4 24 (va_A (tw_xo cI cJ cL x ad st o fo) sz) := by
  refine vx_ofWH (cc := cL_length) (maxL := 4) (ret := some .int) (hh := [(0, 9, 12, 13)]) (by decide) rfl ?_
  intro p e s m args below meth cd s₁ B hml hv
  obtain ⟨rfl, hsz, Z, hnc9, hU⟩ := hv
  subst hsz
  have S : CallFix p m cd cL_length 4 s ([.ref x, .int v, .ref o] : List Value).toArray tw_wall RL := ⟨B.exec, B.bytes, hml, findClass_of_methodNamed B.named, fun w h => atoms_spec (ws := wsL_length) B.pre w (List.mem_cons_of_mem _ h)⟩
  have htab : cd.exceptionTable.toList = tableOf [(0, 9, 12, 13)] := vx_table (x := yL_length) B (atoms_spec (ws := wsL_length) B.pre _ List.mem_cons_self)
  have hr := B.returns
  have hlk := B.notSynchronized
  have z : va_S (fun q => s.heap.size ≤ q) s.heap s.heap [] := va_S.rf
  obtain ⟨hP, hK, hD0⟩ := hU
  have hD := hD0.self (sz := s.heap.size)
  have hA : ∀ q : Nat, s.heap.size ≤ q → va_A (tw_xo cI cJ cL x ad st o fo) s.heap.size q := fun q h => Or.inr h
  generalize va_A (tw_xo cI cJ cL x ad st o fo) s.heap.size = A at hD hA ⊢
  have hS : va_S A s.heap s.heap [] := va_S.rf
  have hl := lv_entry ([.ref x, .int v, .ref o]) (n := 4) (Nat.le_of_ble_eq_true rfl)
  rw [lg_entry_eq]
  generalize (lg_sl ([.ref x, .int v, .ref o]) ++ List.replicate (4 - (lg_sl ([.ref x, .int v, .ref o])).length) Slot.unset).toArray = ls at hl ⊢
  have hl : lv_has ls 4 [(0, .ref x), (1, .int v), (2, .ref o)] := hl
  refine lv_aload_n S.1 S.2.1 dL_length_0 rfl (lv_at hl 2 rfl) ?_
  refine lv_iconst (v := nI 0) S.1 S.2.1 dL_length_1 (by decide) ?_
  refine lv_aload_n S.1 S.2.1 dL_length_2 rfl (lv_at hl 0 rfl) ?_
  refine lv_iload_n S.1 S.2.1 dL_length_3 rfl (lv_at hl 1 rfl) ?_
  refine tw_lci (n := 1) S hK hP hD hS hA Z z (kX0_length l D cI cJ x ad st _ hlt hci hcc hnc hn4) (tw_gV wl_L_28 wn_X0_length ws_X0_length wi_X0 wy_X0_length) rfl rfl (by decide +kernel) ⟨Nat.le_of_ble_eq_true rfl, Nat.le_of_ble_eq_true rfl⟩ rfl hl.1 rfl (Nat.le_of_ble_eq_true rfl) dL_length_4 ⟨Nat.le_of_ble_eq_true rfl, Nat.le_of_ble_eq_true rfl⟩ (fun u q9 ce H locs hpx hce hcv hcl hP hS => ?_) (fun rr u H locs hok hP hD hS => ?_)
  · have hu12 : u = 1 ∨ u = 2 := Or.inl hpx.1
    rcases hu12 with rfl | rfl
    · refine vx_catch (E := "java/lang/IllegalArgumentException") (name := "java/lang/IllegalArgumentException") S.2.2.2.1 [] ⟨0, 9, 12, 13⟩ [] htab (fun _ h => absurd h List.not_mem_nil) (by decide) (by decide) (S.2.2.2.2 _ wc_L_13) (tw_cast (s := s) (Vm.Alike.refl s.vm) Z.2.2.1.1) hce hcv hcl ?_
      refine lv_astore_n S.1 S.2.1 dL_length_12 rfl hl (by decide) rfl (fun ls hl => ?_)
      refine lv_iconst (v := nI 1) S.1 S.2.1 dL_length_13 (by decide) ?_
      refine vx_ret ?_
      exact W.iret S.1 S.2.1 hr (fun t ht hW => ⟨⟨_, (st, fo), rfl, Or.inr ⟨1, rfl, by omega, hpx, rfl⟩, by rw [ht]; exact hP, va_K.moved hW.alike hK, hD⟩, hS.F ht⟩) hS.2.2 dL_length_14 hlk
    · exact absurd hpx.1 (by omega)
  · refine lv_i2l (v := rr.toInt64) S.1 S.2.1 dL_length_7 rfl ?_
    refine va_last S.1 S.2.1 hK hP hD hS 0 2 rfl rfl (vp_in_nI (n := 0) (N := 1) (by decide) (by decide)) dL_length_8 (fun H locs hP hD hS => ?_)
    have hP : va_P D twCl (tw_xo cI cJ cL x ad u o (vp_updL fo (nI 0).toNatClampNeg rr.toInt64)) H := hP
    have hD : va_D A (tw_xo cI cJ cL x ad u o (vp_updL fo (nI 0).toNatClampNeg rr.toInt64)) := hD
    refine lv_goto (tgt := 15) S.1 S.2.1 dL_length_9 (by decide) ?_
    refine lv_iconst (v := nI 0) S.1 S.2.1 dL_length_15 (by decide) ?_
    refine vx_ret ?_
    exact W.iret S.1 S.2.1 hr (fun t ht hW => ⟨⟨_, (u, vp_updL fo (nI 0).toNatClampNeg rr.toInt64), rfl, Or.inl ⟨rfl, rr, hok, by show vp_updL fo (nI 0).toNatClampNeg rr.toInt64 0 = rr.toInt64; rw [nI_clamp (by decide)]; exact pk_uLs⟩, by rw [ht]; exact hP, va_K.moved hW.alike hK, hD⟩, hS.F ht⟩) hS.2.2 dL_length_16 hlk
set_option maxHeartbeats 4000000 in
set_option maxRecDepth 100000 in
/-- the law's letter -/
theorem kL_letter (l : Launch) (D : va_G) (cI cJ cL : ClassId) (x : Nat) (ad : Nat → Nat) (st : Nat → Nat → Nat) (o : Nat) (fo : Nat → Int64) (sz : Nat) (hlt : l.stackTraces = false) {v t : Int32} {md : Nat → Nat} (hci : tw_ci md st) (hcc : ∀ c, c < 4 → st (24 + c) c = md c) (hnc : st 9 0 ≤ 512) (hn4 : ∀ j, st 4 j < 2147483648) : vx_Met l yL_letter wsL_letter ({ frames := 10, cells := 4, slots := 24, locals := 180 }) (va_Pc [.ref x, .int v, .int t, .ref o] (fun U => U.heap.size = sz ∧ tw_Z (fun q => sz ≤ q) U ∧ va_Nc "java/lang/IllegalStateException" "java/lang/IllegalArgumentException" U ∧ tw_OU D cI cJ cL x ad st o fo U)) (va_Qi (tw_wr (fun rr u => ∃ a, a < 4 ∧ v = nI a ∧ ¬ t < 0 ∧ tw_pl st a t rr (fun p => st 3 (st 6 p)) ∧ u = st) (fun u => u = 1 ∧ (tw_nc v ∨ t < 0)) st fo) (tw_OT D cI cJ cL x ad o (va_A (tw_xo cI cJ cL x ad st o fo) sz)) (va_A (tw_xo cI cJ cL x ad st o fo) sz)) tw_XN 4 24 (va_A (tw_xo cI cJ cL x ad st o fo) sz) := by
  refine vx_ofWH (cc := cL_letter) (maxL := 5) (ret := some .int) (hh := [(0, 10, 13, 13)]) (by decide) rfl ?_
  intro p e s m args below meth cd s₁ B hml hv
  obtain ⟨rfl, hsz, Z, hnc9, hU⟩ := hv
  subst hsz
  have S : CallFix p m cd cL_letter 5 s ([.ref x, .int v, .int t, .ref o] : List Value).toArray tw_wall RL := ⟨B.exec, B.bytes, hml, findClass_of_methodNamed B.named, fun w h => atoms_spec (ws := wsL_letter) B.pre w (List.mem_cons_of_mem _ h)⟩
  have htab : cd.exceptionTable.toList = tableOf [(0, 10, 13, 13)] := vx_table (x := yL_letter) B (atoms_spec (ws := wsL_letter) B.pre _ List.mem_cons_self)
  have hr := B.returns
  have hlk := B.notSynchronized
  have z : va_S (fun q => s.heap.size ≤ q) s.heap s.heap [] := va_S.rf
  obtain ⟨hP, hK, hD0⟩ := hU
  have hD := hD0.self (sz := s.heap.size)
  have hA : ∀ q : Nat, s.heap.size ≤ q → va_A (tw_xo cI cJ cL x ad st o fo) s.heap.size q := fun q h => Or.inr h
  generalize va_A (tw_xo cI cJ cL x ad st o fo) s.heap.size = A at hD hA ⊢
  have hS : va_S A s.heap s.heap [] := va_S.rf
  have hl := lv_entry ([.ref x, .int v, .int t, .ref o]) (n := 5) (Nat.le_of_ble_eq_true rfl)
  rw [lg_entry_eq]
  generalize (lg_sl ([.ref x, .int v, .int t, .ref o]) ++ List.replicate (5 - (lg_sl ([.ref x, .int v, .int t, .ref o])).length) Slot.unset).toArray = ls at hl ⊢
  have hl : lv_has ls 5 [(0, .ref x), (1, .int v), (2, .int t), (3, .ref o)] := hl
  refine lv_aload_n S.1 S.2.1 dL_letter_0 rfl (lv_at hl 3 rfl) ?_
  refine lv_iconst (v := nI 0) S.1 S.2.1 dL_letter_1 (by decide) ?_
  refine lv_aload_n S.1 S.2.1 dL_letter_2 rfl (lv_at hl 0 rfl) ?_
  refine lv_iload_n S.1 S.2.1 dL_letter_3 rfl (lv_at hl 1 rfl) ?_
  refine lv_iload_n S.1 S.2.1 dL_letter_4 rfl (lv_at hl 2 rfl) ?_
  refine tw_lci (n := 2) S hK hP hD hS hA Z z (kX0_letter l D cI cJ x ad st _ hlt hci hcc hnc hn4) (tw_gV wl_L_32 wn_X0_letter ws_X0_letter wi_X0 wy_X0_letter) rfl rfl (by decide +kernel) ⟨Nat.le_of_ble_eq_true rfl, Nat.le_of_ble_eq_true rfl⟩ rfl hl.1 rfl (Nat.le_of_ble_eq_true rfl) dL_letter_5 ⟨Nat.le_of_ble_eq_true rfl, Nat.le_of_ble_eq_true rfl⟩ (fun u q9 ce H locs hpx hce hcv hcl hP hS => ?_) (fun rr u H locs hok hP hD hS => ?_)
  · have hu12 : u = 1 ∨ u = 2 := Or.inl hpx.1
    rcases hu12 with rfl | rfl
    · refine vx_catch (E := "java/lang/IllegalArgumentException") (name := "java/lang/IllegalArgumentException") S.2.2.2.1 [] ⟨0, 10, 13, 13⟩ [] htab (fun _ h => absurd h List.not_mem_nil) (by decide) (by decide) (S.2.2.2.2 _ wc_L_13) (tw_cast (s := s) (Vm.Alike.refl s.vm) Z.2.2.1.1) hce hcv hcl ?_
      refine lv_astore S.1 S.2.1 dL_letter_13 hl (by decide) rfl (fun ls hl => ?_)
      refine lv_iconst (v := nI 1) S.1 S.2.1 dL_letter_15 (by decide) ?_
      refine vx_ret ?_
      exact W.iret S.1 S.2.1 hr (fun t ht hW => ⟨⟨_, (st, fo), rfl, Or.inr ⟨1, rfl, by omega, hpx, rfl⟩, by rw [ht]; exact hP, va_K.moved hW.alike hK, hD⟩, hS.F ht⟩) hS.2.2 dL_letter_16 hlk
    · exact absurd hpx.1 (by omega)
  · refine lv_i2l (v := rr.toInt64) S.1 S.2.1 dL_letter_8 rfl ?_
    refine va_last S.1 S.2.1 hK hP hD hS 0 2 rfl rfl (vp_in_nI (n := 0) (N := 1) (by decide) (by decide)) dL_letter_9 (fun H locs hP hD hS => ?_)
    have hP : va_P D twCl (tw_xo cI cJ cL x ad u o (vp_updL fo (nI 0).toNatClampNeg rr.toInt64)) H := hP
    have hD : va_D A (tw_xo cI cJ cL x ad u o (vp_updL fo (nI 0).toNatClampNeg rr.toInt64)) := hD
    refine lv_goto (tgt := 17) S.1 S.2.1 dL_letter_10 (by decide) ?_
    refine lv_iconst (v := nI 0) S.1 S.2.1 dL_letter_17 (by decide) ?_
    refine vx_ret ?_
    exact W.iret S.1 S.2.1 hr (fun t ht hW => ⟨⟨_, (u, vp_updL fo (nI 0).toNatClampNeg rr.toInt64), rfl, Or.inl ⟨rfl, rr, hok, by show vp_updL fo (nI 0).toNatClampNeg rr.toInt64 0 = rr.toInt64; rw [nI_clamp (by decide)]; exact pk_uLs⟩, by rw [ht]; exact hP, va_K.moved hW.alike hK, hD⟩, hS.F ht⟩) hS.2.2 dL_letter_18 hlk
set_option maxHeartbeats 4000000 in
set_option maxRecDepth 100000 in
/-- the law's name -/
theorem kL_name (l : Launch) (D : va_G) (cI cJ cL : ClassId) (x : Nat) (ad : Nat → Nat) (st : Nat → Nat → Nat) (o : Nat) (fo : Nat → Int64) (sz : Nat) (hlt : l.stackTraces = false) {v t : Int32} {md : Nat → Nat} (hci : tw_ci md st) (hcc : ∀ c, c < 4 → st (24 + c) c = md c) (hnc : st 9 0 ≤ 512) (hn4 : ∀ j, st 4 j < 2147483648) : vx_Met l yL_name wsL_name ({ frames := 10, cells := 4, slots := 24, locals := 180 }) (va_Pc [.ref x, .int v, .int t, .ref o] (fun U => U.heap.size = sz ∧ tw_Z (fun q => sz ≤ q) U ∧ va_Nc "java/lang/IllegalStateException" "java/lang/IllegalArgumentException" U ∧ tw_OU D cI cJ cL x ad st o fo U)) (va_Qi (tw_wr (fun rr u => ∃ a, a < 4 ∧ v = nI a ∧ ¬ t < 0 ∧ tw_pl st a t rr (fun p => st 4 (st 6 p)) ∧ u = st) (fun u => u = 1 ∧ (tw_nc v ∨ t < 0)) st fo) (tw_OT D cI cJ cL x ad o (va_A (tw_xo cI cJ cL x ad st o fo) sz)) (va_A (tw_xo cI cJ cL x ad st o fo) sz)) tw_XN 4 24 (va_A (tw_xo cI cJ cL x ad st o fo) sz) := by
  refine vx_ofWH (cc := cL_name) (maxL := 5) (ret := some .int) (hh := [(0, 10, 13, 13)]) (by decide) rfl ?_
  intro p e s m args below meth cd s₁ B hml hv
  obtain ⟨rfl, hsz, Z, hnc9, hU⟩ := hv
  subst hsz
  have S : CallFix p m cd cL_name 5 s ([.ref x, .int v, .int t, .ref o] : List Value).toArray tw_wall RL := ⟨B.exec, B.bytes, hml, findClass_of_methodNamed B.named, fun w h => atoms_spec (ws := wsL_name) B.pre w (List.mem_cons_of_mem _ h)⟩
  have htab : cd.exceptionTable.toList = tableOf [(0, 10, 13, 13)] := vx_table (x := yL_name) B (atoms_spec (ws := wsL_name) B.pre _ List.mem_cons_self)
  have hr := B.returns
  have hlk := B.notSynchronized
  have z : va_S (fun q => s.heap.size ≤ q) s.heap s.heap [] := va_S.rf
  obtain ⟨hP, hK, hD0⟩ := hU
  have hD := hD0.self (sz := s.heap.size)
  have hA : ∀ q : Nat, s.heap.size ≤ q → va_A (tw_xo cI cJ cL x ad st o fo) s.heap.size q := fun q h => Or.inr h
  generalize va_A (tw_xo cI cJ cL x ad st o fo) s.heap.size = A at hD hA ⊢
  have hS : va_S A s.heap s.heap [] := va_S.rf
  have hl := lv_entry ([.ref x, .int v, .int t, .ref o]) (n := 5) (Nat.le_of_ble_eq_true rfl)
  rw [lg_entry_eq]
  generalize (lg_sl ([.ref x, .int v, .int t, .ref o]) ++ List.replicate (5 - (lg_sl ([.ref x, .int v, .int t, .ref o])).length) Slot.unset).toArray = ls at hl ⊢
  have hl : lv_has ls 5 [(0, .ref x), (1, .int v), (2, .int t), (3, .ref o)] := hl
  refine lv_aload_n S.1 S.2.1 dL_name_0 rfl (lv_at hl 3 rfl) ?_
  refine lv_iconst (v := nI 0) S.1 S.2.1 dL_name_1 (by decide) ?_
  refine lv_aload_n S.1 S.2.1 dL_name_2 rfl (lv_at hl 0 rfl) ?_
  refine lv_iload_n S.1 S.2.1 dL_name_3 rfl (lv_at hl 1 rfl) ?_
  refine lv_iload_n S.1 S.2.1 dL_name_4 rfl (lv_at hl 2 rfl) ?_
  refine tw_lci (n := 2) S hK hP hD hS hA Z z (kX0_name l D cI cJ x ad st _ hlt hci hcc hnc hn4) (tw_gV wl_L_35 wn_X0_name ws_X0_name wi_X0 wy_X0_name) rfl rfl (by decide +kernel) ⟨Nat.le_of_ble_eq_true rfl, Nat.le_of_ble_eq_true rfl⟩ rfl hl.1 rfl (Nat.le_of_ble_eq_true rfl) dL_name_5 ⟨Nat.le_of_ble_eq_true rfl, Nat.le_of_ble_eq_true rfl⟩ (fun u q9 ce H locs hpx hce hcv hcl hP hS => ?_) (fun rr u H locs hok hP hD hS => ?_)
  · have hu12 : u = 1 ∨ u = 2 := Or.inl hpx.1
    rcases hu12 with rfl | rfl
    · refine vx_catch (E := "java/lang/IllegalArgumentException") (name := "java/lang/IllegalArgumentException") S.2.2.2.1 [] ⟨0, 10, 13, 13⟩ [] htab (fun _ h => absurd h List.not_mem_nil) (by decide) (by decide) (S.2.2.2.2 _ wc_L_13) (tw_cast (s := s) (Vm.Alike.refl s.vm) Z.2.2.1.1) hce hcv hcl ?_
      refine lv_astore S.1 S.2.1 dL_name_13 hl (by decide) rfl (fun ls hl => ?_)
      refine lv_iconst (v := nI 1) S.1 S.2.1 dL_name_15 (by decide) ?_
      refine vx_ret ?_
      exact W.iret S.1 S.2.1 hr (fun t ht hW => ⟨⟨_, (st, fo), rfl, Or.inr ⟨1, rfl, by omega, hpx, rfl⟩, by rw [ht]; exact hP, va_K.moved hW.alike hK, hD⟩, hS.F ht⟩) hS.2.2 dL_name_16 hlk
    · exact absurd hpx.1 (by omega)
  · refine lv_i2l (v := rr.toInt64) S.1 S.2.1 dL_name_8 rfl ?_
    refine va_last S.1 S.2.1 hK hP hD hS 0 2 rfl rfl (vp_in_nI (n := 0) (N := 1) (by decide) (by decide)) dL_name_9 (fun H locs hP hD hS => ?_)
    have hP : va_P D twCl (tw_xo cI cJ cL x ad u o (vp_updL fo (nI 0).toNatClampNeg rr.toInt64)) H := hP
    have hD : va_D A (tw_xo cI cJ cL x ad u o (vp_updL fo (nI 0).toNatClampNeg rr.toInt64)) := hD
    refine lv_goto (tgt := 17) S.1 S.2.1 dL_name_10 (by decide) ?_
    refine lv_iconst (v := nI 0) S.1 S.2.1 dL_name_17 (by decide) ?_
    refine vx_ret ?_
    exact W.iret S.1 S.2.1 hr (fun t ht hW => ⟨⟨_, (u, vp_updL fo (nI 0).toNatClampNeg rr.toInt64), rfl, Or.inl ⟨rfl, rr, hok, by show vp_updL fo (nI 0).toNatClampNeg rr.toInt64 0 = rr.toInt64; rw [nI_clamp (by decide)]; exact pk_uLs⟩, by rw [ht]; exact hP, va_K.moved hW.alike hK, hD⟩, hS.F ht⟩) hS.2.2 dL_name_18 hlk
set_option maxHeartbeats 4000000 in
set_option maxRecDepth 100000 in
/-- the law's has -/
theorem kL_has (l : Launch) (D : va_G) (cI cJ cL : ClassId) (x : Nat) (ad : Nat → Nat) (st : Nat → Nat → Nat) (o : Nat) (fo : Nat → Int64) (sz : Nat) (hlt : l.stackTraces = false) {v t : Int32} {md : Nat → Nat} (hci : tw_ci md st) (hcc : ∀ c, c < 4 → st (24 + c) c = md c) (hnc : st 9 0 ≤ 512) (hn4 : ∀ j, st 4 j < 2147483648) : vx_Met l yL_has wsL_has ({ frames := 10, cells := 4, slots := 24, locals := 180 }) (va_Pc [.ref x, .int v, .int t, .ref o] (fun U => U.heap.size = sz ∧ tw_Z (fun q => sz ≤ q) U ∧ va_Nc "java/lang/IllegalStateException" "java/lang/IllegalArgumentException" U ∧ tw_OU D cI cJ cL x ad st o fo U)) (va_Qi (tw_wr (fun rr u => ∃ a b, a < 4 ∧ v = nI a ∧ b < 4 ∧ t = nI b ∧ rr = nI (st (24 + a) b) ∧ u = st) (fun u => u = 1 ∧ (tw_nc v ∨ tw_nc t)) st fo) (tw_OT D cI cJ cL x ad o (va_A (tw_xo cI cJ cL x ad st o fo) sz)) (va_A (tw_xo cI cJ cL x ad st o fo) sz)) tw_XN 4 24 (va_A (tw_xo cI cJ cL x ad st o fo) sz) := by
  refine vx_ofWH (cc := cL_has) (maxL := 5) (ret := some .int) (hh := [(0, 10, 13, 13)]) (by decide) rfl ?_
  intro p e s m args below meth cd s₁ B hml hv
  obtain ⟨rfl, hsz, Z, hnc9, hU⟩ := hv
  subst hsz
  have S : CallFix p m cd cL_has 5 s ([.ref x, .int v, .int t, .ref o] : List Value).toArray tw_wall RL := ⟨B.exec, B.bytes, hml, findClass_of_methodNamed B.named, fun w h => atoms_spec (ws := wsL_has) B.pre w (List.mem_cons_of_mem _ h)⟩
  have htab : cd.exceptionTable.toList = tableOf [(0, 10, 13, 13)] := vx_table (x := yL_has) B (atoms_spec (ws := wsL_has) B.pre _ List.mem_cons_self)
  have hr := B.returns
  have hlk := B.notSynchronized
  have z : va_S (fun q => s.heap.size ≤ q) s.heap s.heap [] := va_S.rf
  obtain ⟨hP, hK, hD0⟩ := hU
  have hD := hD0.self (sz := s.heap.size)
  have hA : ∀ q : Nat, s.heap.size ≤ q → va_A (tw_xo cI cJ cL x ad st o fo) s.heap.size q := fun q h => Or.inr h
  generalize va_A (tw_xo cI cJ cL x ad st o fo) s.heap.size = A at hD hA ⊢
  have hS : va_S A s.heap s.heap [] := va_S.rf
  have hl := lv_entry ([.ref x, .int v, .int t, .ref o]) (n := 5) (Nat.le_of_ble_eq_true rfl)
  rw [lg_entry_eq]
  generalize (lg_sl ([.ref x, .int v, .int t, .ref o]) ++ List.replicate (5 - (lg_sl ([.ref x, .int v, .int t, .ref o])).length) Slot.unset).toArray = ls at hl ⊢
  have hl : lv_has ls 5 [(0, .ref x), (1, .int v), (2, .int t), (3, .ref o)] := hl
  refine lv_aload_n S.1 S.2.1 dL_has_0 rfl (lv_at hl 3 rfl) ?_
  refine lv_iconst (v := nI 0) S.1 S.2.1 dL_has_1 (by decide) ?_
  refine lv_aload_n S.1 S.2.1 dL_has_2 rfl (lv_at hl 0 rfl) ?_
  refine lv_iload_n S.1 S.2.1 dL_has_3 rfl (lv_at hl 1 rfl) ?_
  refine lv_iload_n S.1 S.2.1 dL_has_4 rfl (lv_at hl 2 rfl) ?_
  refine tw_lci (n := 2) S hK hP hD hS hA Z z (kX0_has l D cI cJ x ad st _ hlt hci hcc hnc hn4) (tw_gV wl_L_38 wn_X0_has ws_X0_has wi_X0 wy_X0_has) rfl rfl (by decide +kernel) ⟨Nat.le_of_ble_eq_true rfl, Nat.le_of_ble_eq_true rfl⟩ rfl hl.1 rfl (Nat.le_of_ble_eq_true rfl) dL_has_5 ⟨Nat.le_of_ble_eq_true rfl, Nat.le_of_ble_eq_true rfl⟩ (fun u q9 ce H locs hpx hce hcv hcl hP hS => ?_) (fun rr u H locs hok hP hD hS => ?_)
  · have hu12 : u = 1 ∨ u = 2 := Or.inl hpx.1
    rcases hu12 with rfl | rfl
    · refine vx_catch (E := "java/lang/IllegalArgumentException") (name := "java/lang/IllegalArgumentException") S.2.2.2.1 [] ⟨0, 10, 13, 13⟩ [] htab (fun _ h => absurd h List.not_mem_nil) (by decide) (by decide) (S.2.2.2.2 _ wc_L_13) (tw_cast (s := s) (Vm.Alike.refl s.vm) Z.2.2.1.1) hce hcv hcl ?_
      refine lv_astore S.1 S.2.1 dL_has_13 hl (by decide) rfl (fun ls hl => ?_)
      refine lv_iconst (v := nI 1) S.1 S.2.1 dL_has_15 (by decide) ?_
      refine vx_ret ?_
      exact W.iret S.1 S.2.1 hr (fun t ht hW => ⟨⟨_, (st, fo), rfl, Or.inr ⟨1, rfl, by omega, hpx, rfl⟩, by rw [ht]; exact hP, va_K.moved hW.alike hK, hD⟩, hS.F ht⟩) hS.2.2 dL_has_16 hlk
    · exact absurd hpx.1 (by omega)
  · refine lv_i2l (v := rr.toInt64) S.1 S.2.1 dL_has_8 rfl ?_
    refine va_last S.1 S.2.1 hK hP hD hS 0 2 rfl rfl (vp_in_nI (n := 0) (N := 1) (by decide) (by decide)) dL_has_9 (fun H locs hP hD hS => ?_)
    have hP : va_P D twCl (tw_xo cI cJ cL x ad u o (vp_updL fo (nI 0).toNatClampNeg rr.toInt64)) H := hP
    have hD : va_D A (tw_xo cI cJ cL x ad u o (vp_updL fo (nI 0).toNatClampNeg rr.toInt64)) := hD
    refine lv_goto (tgt := 17) S.1 S.2.1 dL_has_10 (by decide) ?_
    refine lv_iconst (v := nI 0) S.1 S.2.1 dL_has_17 (by decide) ?_
    refine vx_ret ?_
    exact W.iret S.1 S.2.1 hr (fun t ht hW => ⟨⟨_, (u, vp_updL fo (nI 0).toNatClampNeg rr.toInt64), rfl, Or.inl ⟨rfl, rr, hok, by show vp_updL fo (nI 0).toNatClampNeg rr.toInt64 0 = rr.toInt64; rw [nI_clamp (by decide)]; exact pk_uLs⟩, by rw [ht]; exact hP, va_K.moved hW.alike hK, hD⟩, hS.F ht⟩) hS.2.2 dL_has_18 hlk
set_option maxHeartbeats 4000000 in
set_option maxRecDepth 100000 in
/-- the law's bring -/
theorem kL_bring (l : Launch) (D : va_G) (cI cJ : ClassId) (x : Nat) (ad : Nat → Nat) (st : Nat → Nat → Nat) (sz : Nat) (hlt : l.stackTraces = false) {v t b : Int32} {md : Nat → Nat} (hci : tw_ci md st) (hcc : ∀ c, c < 4 → st (24 + c) c = md c) (hnc : st 9 0 ≤ 512) (hn4 : ∀ j, st 4 j < 2147483648) : vx_Met l yL_bring wsL_bring ({ frames := 10, cells := 4, slots := 24, locals := 180 }) (va_Pc [.ref x, .int v, .int t, .int b] (fun U => U.heap.size = sz ∧ tw_Z (fun q => sz ≤ q) U ∧ va_Nc "java/lang/IllegalStateException" "java/lang/IllegalArgumentException" U ∧ tw_XU D cI cJ x ad st U)) (va_Qi (fun r u => (r = nI 0 ∧ tw_okBr st v t b u) ∨ ∃ c, r = nI c ∧ (c = 1 ∨ c = 2) ∧ tw_pxBr st v t b c ∧ u = st) (tw_XT D cI cJ x ad (va_A (tw_x cI cJ x ad st) sz)) (va_A (tw_x cI cJ x ad st) sz)) tw_XN 4 24 (va_A (tw_x cI cJ x ad st) sz) := by
  refine vx_ofWH (cc := cL_bring) (maxL := 5) (ret := some .int) (hh := [(0, 7, 10, 13), (0, 7, 14, 15)]) (by decide) rfl ?_
  intro p e s m args below meth cd s₁ B hml hv
  obtain ⟨rfl, hsz, Z, hnc9, hU⟩ := hv
  subst hsz
  have S : CallFix p m cd cL_bring 5 s ([.ref x, .int v, .int t, .int b] : List Value).toArray tw_wall RL := ⟨B.exec, B.bytes, hml, findClass_of_methodNamed B.named, fun w h => atoms_spec (ws := wsL_bring) B.pre w (List.mem_cons_of_mem _ h)⟩
  have htab : cd.exceptionTable.toList = tableOf [(0, 7, 10, 13), (0, 7, 14, 15)] := vx_table (x := yL_bring) B (atoms_spec (ws := wsL_bring) B.pre _ List.mem_cons_self)
  have hr := B.returns
  have hlk := B.notSynchronized
  have z : va_S (fun q => s.heap.size ≤ q) s.heap s.heap [] := va_S.rf
  have w := tw_X0 hU
  have hA : ∀ q : Nat, s.heap.size ≤ q → va_A (tw_x cI cJ x ad st) s.heap.size q := fun q h => Or.inr h
  generalize va_A (tw_x cI cJ x ad st) s.heap.size = A at w hA ⊢
  have hl := lv_entry ([.ref x, .int v, .int t, .int b]) (n := 5) (Nat.le_of_ble_eq_true rfl)
  rw [lg_entry_eq]
  generalize (lg_sl ([.ref x, .int v, .int t, .int b]) ++ List.replicate (5 - (lg_sl ([.ref x, .int v, .int t, .int b])).length) Slot.unset).toArray = ls at hl ⊢
  have hl : lv_has ls 5 [(0, .ref x), (1, .int v), (2, .int t), (3, .int b)] := hl
  refine lv_aload_n S.1 S.2.1 dL_bring_0 rfl (lv_at hl 0 rfl) ?_
  refine lv_iload_n S.1 S.2.1 dL_bring_1 rfl (lv_at hl 1 rfl) ?_
  refine lv_iload_n S.1 S.2.1 dL_bring_2 rfl (lv_at hl 2 rfl) ?_
  refine lv_iload_n S.1 S.2.1 dL_bring_3 rfl (lv_at hl 3 rfl) ?_
  refine tw_lcv (n := 3) S w hA Z z (kX0_bring l D cI cJ x ad st _ hlt hci hcc hnc hn4) (tw_gV wl_L_21 wn_X0_bring ws_X0_bring wi_X0 wy_X0_bring) rfl rfl (by decide +kernel) ⟨Nat.le_of_ble_eq_true rfl, Nat.le_of_ble_eq_true rfl⟩ rfl hl.1 rfl (Nat.le_of_ble_eq_true rfl) dL_bring_4 ⟨Nat.le_of_ble_eq_true rfl, Nat.le_of_ble_eq_true rfl⟩ (fun u q9 ce H locs hpx hce hcv hcl w => ?_) (fun u H locs hok w => ?_)
  · have hu12 : u = 1 ∨ u = 2 := hpx.elim (fun g => Or.inl g.1) (fun g => Or.inr g.1)
    rcases hu12 with rfl | rfl
    · refine vx_catch (E := "java/lang/IllegalArgumentException") (name := "java/lang/IllegalArgumentException") S.2.2.2.1 [] ⟨0, 7, 10, 13⟩ [⟨0, 7, 14, 15⟩] htab (fun _ h => absurd h List.not_mem_nil) (by decide) (by decide) (S.2.2.2.2 _ wc_L_13) (tw_cast (s := s) (Vm.Alike.refl s.vm) Z.2.2.1.1) hce hcv hcl ?_
      refine lv_astore S.1 S.2.1 dL_bring_10 hl (by decide) rfl (fun ls hl => ?_)
      refine lv_iconst (v := nI 1) S.1 S.2.1 dL_bring_12 (by decide) ?_
      refine vx_ret ?_
      exact W.iret S.1 S.2.1 hr (fun t ht hW => ⟨⟨_, st, rfl, Or.inr ⟨1, rfl, by omega, hpx, rfl⟩, by rw [ht]; exact w.2.1, va_K.moved hW.alike w.1, w.2.2.1⟩, w.2.2.2.F ht⟩) w.2.2.2.2.2 dL_bring_13 hlk
    · refine vx_catch (E := "java/lang/IllegalStateException") (name := "java/lang/IllegalStateException") S.2.2.2.1 [⟨0, 7, 10, 13⟩] ⟨0, 7, 14, 15⟩ [] htab (fun q9 h => Or.inr (by rw [List.mem_singleton.mp h]; exact ⟨by decide, _, S.2.2.2.2 _ wc_L_13, hnc9⟩)) (by decide) (by decide) (S.2.2.2.2 _ wc_L_15) (tw_cast (s := s) (Vm.Alike.refl s.vm) Z.2.2.1.2.1) hce hcv hcl ?_
      refine lv_astore S.1 S.2.1 dL_bring_14 hl (by decide) rfl (fun ls hl => ?_)
      refine lv_iconst (v := nI 2) S.1 S.2.1 dL_bring_16 (by decide) ?_
      refine vx_ret ?_
      exact W.iret S.1 S.2.1 hr (fun t ht hW => ⟨⟨_, st, rfl, Or.inr ⟨2, rfl, by omega, hpx, rfl⟩, by rw [ht]; exact w.2.1, va_K.moved hW.alike w.1, w.2.2.1⟩, w.2.2.2.F ht⟩) w.2.2.2.2.2 dL_bring_17 hlk
  · refine lv_goto (tgt := 18) S.1 S.2.1 dL_bring_7 (by decide) ?_
    refine lv_iconst (v := nI 0) S.1 S.2.1 dL_bring_18 (by decide) ?_
    refine vx_ret ?_
    exact W.iret S.1 S.2.1 hr (fun t ht hW => ⟨⟨_, u, rfl, Or.inl ⟨rfl, hok⟩, by rw [ht]; exact w.2.1, va_K.moved hW.alike w.1, w.2.2.1⟩, w.2.2.2.F ht⟩) w.2.2.2.2.2 dL_bring_19 hlk
