theorem tw_nm1 {k : Nat} (h : k < 2147483648) : nI k ≠ -1 := fun q => by
  have h1 := nI_toInt (n := k) h
  rw [q] at h1
  have h2 : (-1 : Int32).toInt = -1 := by decide
  omega
set_option maxHeartbeats 4000000 in
set_option maxRecDepth 100000 in
/-- length(c) -/
theorem kX0_length (l : Launch) (D : va_G) (cI cJ : ClassId) (x : Nat) (ad : Nat → Nat) (st : Nat → Nat → Nat) (sz : Nat) (hlt : l.stackTraces = false) {v : Int32} {md : Nat → Nat} (hci : tw_ci md st) (hcc : ∀ c, c < 4 → st (24 + c) c = md c) (hnc : st 9 0 ≤ 512) (hn4 : ∀ j, st 4 j < 2147483648) : vx_Met l yX0_length wsX0_length ({ frames := 9, cells := 4, slots := 24, locals := 150 }) (va_Pc [.ref x, .int v] (fun U => U.heap.size = sz ∧ tw_Z (fun q => sz ≤ q) U ∧ tw_XU D cI cJ x ad st U)) (va_Qi (fun r u => ∃ a, a < 4 ∧ v = nI a ∧ r = nI (st 8 a) ∧ u = st) (tw_XT D cI cJ x ad (va_A (tw_x cI cJ x ad st) sz)) (va_A (tw_x cI cJ x ad st) sz)) (tw_XC (fun u => u = 1 ∧ tw_nc v) sz) 4 24 (va_A (tw_x cI cJ x ad st) sz) := by
  refine vx_ofW (cc := cX0_length) (maxL := 2) (ret := (some .int)) (by decide) rfl ?_
  intro p e s m args below meth cd s₁ B hml ht hv
  obtain ⟨rfl, hsz, Z, hU⟩ := hv
  subst hsz
  have S : CallFix p m cd cX0_length 2 s ([.ref x, .int v] : List Value).toArray tw_wall RX0 := ⟨B.exec, B.bytes, hml, findClass_of_methodNamed B.named, fun w h => atoms_spec (ws := wsX0_length) B.pre w (List.mem_cons_of_mem _ h)⟩
  have hr := B.returns
  have hlk := B.notSynchronized
  have z : va_S (fun q => s.heap.size ≤ q) s.heap s.heap [] := va_S.rf
  have w := tw_X0 hU
  have hA : ∀ q : Nat, s.heap.size ≤ q → va_A (tw_x cI cJ x ad st) s.heap.size q := fun q h => Or.inr h
  generalize va_A (tw_x cI cJ x ad st) s.heap.size = A at w hA ⊢
  have hl := lv_entry ([.ref x, .int v]) (n := 2) (Nat.le_of_ble_eq_true rfl)
  rw [lg_entry_eq]
  generalize (lg_sl ([.ref x, .int v]) ++ List.replicate (2 - (lg_sl ([.ref x, .int v])).length) Slot.unset).toArray = ls at hl ⊢
  have hl : lv_has ls 2 [(0, .ref x), (1, .int v)] := hl
  obtain ⟨bl, bo, b5, bk, b8, bi, bw, bs⟩ := tw_bd_of hci hnc
  refine lv_iload_n S.1 S.2.1 dX0_length_0 rfl (lv_at hl 1 rfl) ?_
  refine tw_chk (n := 1) S ht hlk Z z hA (kX0_checkCopy l _ hlt (v := v)) (tw_gS wl_X0_55 wt_X0_checkCopy wi_X0 wy_X0_checkCopy) rfl rfl (by decide +kernel) ⟨Nat.le_of_ble_eq_true rfl, Nat.le_of_ble_eq_true rfl⟩ rfl hl.1 rfl (Nat.le_of_ble_eq_true rfl) dX0_length_1 ⟨Nat.le_of_ble_eq_true rfl, Nat.le_of_ble_eq_true rfl⟩ (Nat.le_of_ble_eq_true rfl) (Nat.le_of_ble_eq_true rfl) (fun u h => h) (fun H locs hp hk z => ?_)
  have w := w.kept hk (tw_mono z hA)
  obtain ⟨a, ha, rfl⟩ := tw_copy hp
  refine lv_aload_n S.1 S.2.1 dX0_length_4 rfl (lv_at hl 0 rfl) ?_
  refine xxg_lengths S w dX0_length_5 ?_
  refine lv_iload_n S.1 S.2.1 dX0_length_8 rfl (lv_at hl 1 rfl) ?_
  refine xxl_8 S w (by omega) dX0_length_9 ?_
  refine vx_ret ?_
  refine W.widen (k := 4) (n := 24) (by omega) (by omega) ?_
  exact tw_iret S hr hlk w ⟨a, ha, rfl, rfl, rfl⟩ dX0_length_10
set_option maxHeartbeats 4000000 in
set_option maxRecDepth 100000 in
/-- has(c, of) -/
theorem kX0_has (l : Launch) (D : va_G) (cI cJ : ClassId) (x : Nat) (ad : Nat → Nat) (st : Nat → Nat → Nat) (sz : Nat) (hlt : l.stackTraces = false) {v t : Int32} {md : Nat → Nat} (hci : tw_ci md st) (hcc : ∀ c, c < 4 → st (24 + c) c = md c) (hnc : st 9 0 ≤ 512) (hn4 : ∀ j, st 4 j < 2147483648) : vx_Met l yX0_has wsX0_has ({ frames := 9, cells := 4, slots := 24, locals := 150 }) (va_Pc [.ref x, .int v, .int t] (fun U => U.heap.size = sz ∧ tw_Z (fun q => sz ≤ q) U ∧ tw_XU D cI cJ x ad st U)) (va_Qi (fun r u => ∃ a b, a < 4 ∧ v = nI a ∧ b < 4 ∧ t = nI b ∧ r = nI (st (24 + a) b) ∧ u = st) (tw_XT D cI cJ x ad (va_A (tw_x cI cJ x ad st) sz)) (va_A (tw_x cI cJ x ad st) sz)) (tw_XC (fun u => u = 1 ∧ (tw_nc v ∨ tw_nc t)) sz) 4 24 (va_A (tw_x cI cJ x ad st) sz) := by
  refine vx_ofW (cc := cX0_has) (maxL := 3) (ret := (some .int)) (by decide) rfl ?_
  intro p e s m args below meth cd s₁ B hml ht hv
  obtain ⟨rfl, hsz, Z, hU⟩ := hv
  subst hsz
  have S : CallFix p m cd cX0_has 3 s ([.ref x, .int v, .int t] : List Value).toArray tw_wall RX0 := ⟨B.exec, B.bytes, hml, findClass_of_methodNamed B.named, fun w h => atoms_spec (ws := wsX0_has) B.pre w (List.mem_cons_of_mem _ h)⟩
  have hr := B.returns
  have hlk := B.notSynchronized
  have z : va_S (fun q => s.heap.size ≤ q) s.heap s.heap [] := va_S.rf
  have w := tw_X0 hU
  have hA : ∀ q : Nat, s.heap.size ≤ q → va_A (tw_x cI cJ x ad st) s.heap.size q := fun q h => Or.inr h
  generalize va_A (tw_x cI cJ x ad st) s.heap.size = A at w hA ⊢
  have hl := lv_entry ([.ref x, .int v, .int t]) (n := 3) (Nat.le_of_ble_eq_true rfl)
  rw [lg_entry_eq]
  generalize (lg_sl ([.ref x, .int v, .int t]) ++ List.replicate (3 - (lg_sl ([.ref x, .int v, .int t])).length) Slot.unset).toArray = ls at hl ⊢
  have hl : lv_has ls 3 [(0, .ref x), (1, .int v), (2, .int t)] := hl
  obtain ⟨bl, bo, b5, bk, b8, bi, bw, bs⟩ := tw_bd_of hci hnc
  refine lv_iload_n S.1 S.2.1 dX0_has_0 rfl (lv_at hl 1 rfl) ?_
  refine tw_chk (n := 1) S ht hlk Z z hA (kX0_checkCopy l _ hlt (v := v)) (tw_gS wl_X0_55 wt_X0_checkCopy wi_X0 wy_X0_checkCopy) rfl rfl (by decide +kernel) ⟨Nat.le_of_ble_eq_true rfl, Nat.le_of_ble_eq_true rfl⟩ rfl hl.1 rfl (Nat.le_of_ble_eq_true rfl) dX0_has_1 ⟨Nat.le_of_ble_eq_true rfl, Nat.le_of_ble_eq_true rfl⟩ (Nat.le_of_ble_eq_true rfl) (Nat.le_of_ble_eq_true rfl) (fun u h => ⟨h.1, Or.inl h.2⟩) (fun H locs hp hk z => ?_)
  have w := w.kept hk (tw_mono z hA)
  obtain ⟨a, ha, rfl⟩ := tw_copy hp
  refine lv_iload_n S.1 S.2.1 dX0_has_4 rfl (lv_at hl 2 rfl) ?_
  refine tw_chk (n := 1) S ht hlk Z z hA (kX0_checkCopy l _ hlt (v := t)) (tw_gS wl_X0_55 wt_X0_checkCopy wi_X0 wy_X0_checkCopy) rfl rfl (by decide +kernel) ⟨Nat.le_of_ble_eq_true rfl, Nat.le_of_ble_eq_true rfl⟩ rfl hl.1 rfl (Nat.le_of_ble_eq_true rfl) dX0_has_5 ⟨Nat.le_of_ble_eq_true rfl, Nat.le_of_ble_eq_true rfl⟩ (Nat.le_of_ble_eq_true rfl) (Nat.le_of_ble_eq_true rfl) (fun u h => ⟨h.1, Or.inr h.2⟩) (fun H locs hp hk z => ?_)
  have w := w.kept hk (tw_mono z hA)
  obtain ⟨b, hb, rfl⟩ := tw_copy hp
  refine lv_aload_n S.1 S.2.1 dX0_has_8 rfl (lv_at hl 0 rfl) ?_
  refine xxg_known S w dX0_has_9 ?_
  refine lv_iload_n S.1 S.2.1 dX0_has_12 rfl (lv_at hl 1 rfl) ?_
  refine xxr_12 S w (by omega) dX0_has_13 ?_
  refine lv_iload_n S.1 S.2.1 dX0_has_14 rfl (lv_at hl 2 rfl) ?_
  refine xxl_24 S w (by omega) (by omega) dX0_has_15 ?_
  refine vx_ret ?_
  refine W.widen (k := 4) (n := 24) (by omega) (by omega) ?_
  exact tw_iret S hr hlk w ⟨a, b, ha, rfl, hb, rfl, rfl, rfl⟩ dX0_has_16
set_option maxHeartbeats 4000000 in
set_option maxRecDepth 100000 in
/-- the place to be read -/
theorem kX0_placeToRead (l : Launch) (D : va_G) (cI cJ : ClassId) (x : Nat) (ad : Nat → Nat) (st : Nat → Nat → Nat) (sz : Nat) (hlt : l.stackTraces = false) {v t : Int32} {md : Nat → Nat} (hci : tw_ci md st) (hcc : ∀ c, c < 4 → st (24 + c) c = md c) (hnc : st 9 0 ≤ 512) (hn4 : ∀ j, st 4 j < 2147483648) : vx_Met l yX0_placeToRead wsX0_placeToRead ({ frames := 8, cells := 2, slots := 12, locals := 123 }) (va_Pc [.ref x, .int v, .int t] (fun U => U.heap.size = sz ∧ tw_Z (fun q => sz ≤ q) U ∧ tw_XU D cI cJ x ad st U)) (va_Qi (fun r (_ : Unit) => ∃ a, a < 4 ∧ v = nI a ∧ ¬ t < 0 ∧ tw_pl st a t r (fun p => p)) (fun _ _ => True) (fun q => sz ≤ q)) (tw_XC (fun u => u = 1 ∧ (tw_nc v ∨ t < 0)) sz) 2 12 (fun q => sz ≤ q) := by
  refine vx_ofW (cc := cX0_placeToRead) (maxL := 3) (ret := (some .int)) (by decide) rfl ?_
  intro p e s m args below meth cd s₁ B hml ht hv
  obtain ⟨rfl, hsz, Z, hU⟩ := hv
  subst hsz
  have S : CallFix p m cd cX0_placeToRead 3 s ([.ref x, .int v, .int t] : List Value).toArray tw_wall RX0 := ⟨B.exec, B.bytes, hml, findClass_of_methodNamed B.named, fun w h => atoms_spec (ws := wsX0_placeToRead) B.pre w (List.mem_cons_of_mem _ h)⟩
  have hr := B.returns
  have hlk := B.notSynchronized
  have z : va_S (fun q => s.heap.size ≤ q) s.heap s.heap [] := va_S.rf
  have w := tw_X0 hU
  have hA : ∀ q : Nat, s.heap.size ≤ q → va_A (tw_x cI cJ x ad st) s.heap.size q := fun q h => Or.inr h
  generalize va_A (tw_x cI cJ x ad st) s.heap.size = A at w hA
  have hl := lv_entry ([.ref x, .int v, .int t]) (n := 3) (Nat.le_of_ble_eq_true rfl)
  rw [lg_entry_eq]
  generalize (lg_sl ([.ref x, .int v, .int t]) ++ List.replicate (3 - (lg_sl ([.ref x, .int v, .int t])).length) Slot.unset).toArray = ls at hl ⊢
  have hl : lv_has ls 3 [(0, .ref x), (1, .int v), (2, .int t)] := hl
  obtain ⟨bl, bo, b5, bk, b8, bi, bw, bs⟩ := tw_bd_of hci hnc
  refine lv_iload_n S.1 S.2.1 dX0_placeToRead_0 rfl (lv_at hl 1 rfl) ?_
  refine tw_chk (n := 1) S ht hlk Z z (fun q h => h) (kX0_checkCopy l _ hlt (v := v)) (tw_gS wl_X0_55 wt_X0_checkCopy wi_X0 wy_X0_checkCopy) rfl rfl (by decide +kernel) ⟨Nat.le_of_ble_eq_true rfl, Nat.le_of_ble_eq_true rfl⟩ rfl hl.1 rfl (Nat.le_of_ble_eq_true rfl) dX0_placeToRead_1 ⟨Nat.le_of_ble_eq_true rfl, Nat.le_of_ble_eq_true rfl⟩ (Nat.le_of_ble_eq_true rfl) (Nat.le_of_ble_eq_true rfl) (fun u h => ⟨h.1, Or.inl h.2⟩) (fun H locs hp hk z => ?_)
  have w := w.kept hk (tw_mono z hA)
  obtain ⟨a, ha, rfl⟩ := tw_copy hp
  refine lv_iload_n S.1 S.2.1 dX0_placeToRead_4 rfl (lv_at hl 2 rfl) ?_
  refine lv_ldc S.1 S.2.1 S.2.2.2.1 (S.2.2.2.2 _ wo_109) dX0_placeToRead_5 ?_
  refine tw_chk (n := 2) S ht hlk Z z (fun q h => h) (kX0_checkUpTo l _ hlt (v := t) (b := 2147483647)) (tw_gS wl_X0_59 wt_X0_checkUpTo wi_X0 wy_X0_checkUpTo) rfl rfl (by decide +kernel) ⟨Nat.le_of_ble_eq_true rfl, Nat.le_of_ble_eq_true rfl⟩ rfl hl.1 rfl (Nat.le_of_ble_eq_true rfl) dX0_placeToRead_7 ⟨Nat.le_of_ble_eq_true rfl, Nat.le_of_ble_eq_true rfl⟩ (Nat.le_of_ble_eq_true rfl) (Nat.le_of_ble_eq_true rfl) (fun u h => ⟨h.1, Or.inr (h.2.elim id (fun q => absurd q tw_max_i))⟩) (fun H locs hp hk z => ?_)
  have w := w.kept hk (tw_mono z hA)
  refine lv_aload_n S.1 S.2.1 dX0_placeToRead_10 rfl (lv_at hl 0 rfl) ?_
  refine lv_iload_n S.1 S.2.1 dX0_placeToRead_11 rfl (lv_at hl 1 rfl) ?_
  refine lv_iload_n S.1 S.2.1 dX0_placeToRead_12 rfl (lv_at hl 2 rfl) ?_
  have ht0 := hp.1
  refine tw_cro (n := 2) S w z (fun q h => h) hA (kX0_placeOf l D cI cJ x ad st _ (t := t) ha bl bo b5) (tw_gV wl_X0_66 wn_X0_placeOf ws_X0_placeOf wi_X0 wy_X0_placeOf) rfl rfl (by decide +kernel) ⟨Nat.le_of_ble_eq_true rfl, Nat.le_of_ble_eq_true rfl⟩ rfl hl.1 rfl (Nat.le_of_ble_eq_true rfl) dX0_placeToRead_13 ⟨Nat.le_of_ble_eq_true rfl, Nat.le_of_ble_eq_true rfl⟩ (fun r H locs hp w z => ?_)
  refine vx_ret ?_
  refine W.widen (k := 2) (n := 12) (by omega) (by omega) ?_
  exact tw_iro S hr rfl hlk z ⟨a, ha, rfl, ht0, hp⟩ dX0_placeToRead_16
set_option maxHeartbeats 4000000 in
set_option maxRecDepth 100000 in
/-- letter(c, at) -/
theorem kX0_letter (l : Launch) (D : va_G) (cI cJ : ClassId) (x : Nat) (ad : Nat → Nat) (st : Nat → Nat → Nat) (sz : Nat) (hlt : l.stackTraces = false) {v t : Int32} {md : Nat → Nat} (hci : tw_ci md st) (hcc : ∀ c, c < 4 → st (24 + c) c = md c) (hnc : st 9 0 ≤ 512) (hn4 : ∀ j, st 4 j < 2147483648) : vx_Met l yX0_letter wsX0_letter ({ frames := 9, cells := 4, slots := 24, locals := 150 }) (va_Pc [.ref x, .int v, .int t] (fun U => U.heap.size = sz ∧ tw_Z (fun q => sz ≤ q) U ∧ tw_XU D cI cJ x ad st U)) (va_Qi (fun r u => ∃ a, a < 4 ∧ v = nI a ∧ ¬ t < 0 ∧ tw_pl st a t r (fun p => st 3 (st 6 p)) ∧ u = st) (tw_XT D cI cJ x ad (va_A (tw_x cI cJ x ad st) sz)) (va_A (tw_x cI cJ x ad st) sz)) (tw_XC (fun u => u = 1 ∧ (tw_nc v ∨ t < 0)) sz) 4 24 (va_A (tw_x cI cJ x ad st) sz) := by
  refine vx_ofW (cc := cX0_letter) (maxL := 4) (ret := (some .int)) (by decide) rfl ?_
  intro p e s m args below meth cd s₁ B hml ht hv
  obtain ⟨rfl, hsz, Z, hU⟩ := hv
  subst hsz
  have S : CallFix p m cd cX0_letter 4 s ([.ref x, .int v, .int t] : List Value).toArray tw_wall RX0 := ⟨B.exec, B.bytes, hml, findClass_of_methodNamed B.named, fun w h => atoms_spec (ws := wsX0_letter) B.pre w (List.mem_cons_of_mem _ h)⟩
  have hr := B.returns
  have hlk := B.notSynchronized
  have z : va_S (fun q => s.heap.size ≤ q) s.heap s.heap [] := va_S.rf
  have w := tw_X0 hU
  have hA : ∀ q : Nat, s.heap.size ≤ q → va_A (tw_x cI cJ x ad st) s.heap.size q := fun q h => Or.inr h
  generalize va_A (tw_x cI cJ x ad st) s.heap.size = A at w hA ⊢
  have hl := lv_entry ([.ref x, .int v, .int t]) (n := 4) (Nat.le_of_ble_eq_true rfl)
  rw [lg_entry_eq]
  generalize (lg_sl ([.ref x, .int v, .int t]) ++ List.replicate (4 - (lg_sl ([.ref x, .int v, .int t])).length) Slot.unset).toArray = ls at hl ⊢
  have hl : lv_has ls 4 [(0, .ref x), (1, .int v), (2, .int t)] := hl
  obtain ⟨bl, bo, b5, bk, b8, bi, bw, bs⟩ := tw_bd_of hci hnc
  refine lv_aload_n S.1 S.2.1 dX0_letter_0 rfl (lv_at hl 0 rfl) ?_
  refine lv_iload_n S.1 S.2.1 dX0_letter_1 rfl (lv_at hl 1 rfl) ?_
  refine lv_iload_n S.1 S.2.1 dX0_letter_2 rfl (lv_at hl 2 rfl) ?_
  refine tw_chi (n := 2) (mc1 := 2) (ms1 := 12) S ht hlk w hA Z z hA (kX0_placeToRead l D cI cJ x ad st _ hlt hci hcc hnc hn4) (tw_gV wl_X0_100 wn_X0_placeToRead ws_X0_placeToRead wi_X0 wy_X0_placeToRead) rfl rfl (by decide +kernel) ⟨Nat.le_of_ble_eq_true rfl, Nat.le_of_ble_eq_true rfl⟩ rfl hl.1 rfl (Nat.le_of_ble_eq_true rfl) dX0_letter_3 ⟨Nat.le_of_ble_eq_true rfl, Nat.le_of_ble_eq_true rfl⟩ (Nat.le_of_ble_eq_true rfl) (Nat.le_of_ble_eq_true rfl) (fun u h => h) (fun r H locs hp w z => ?_)
  obtain ⟨a, ha, rfl, ht0, hp⟩ := hp
  refine lv_istore_n S.1 S.2.1 dX0_letter_6 rfl hl (by decide) rfl (fun ls hl => ?_)
  refine lv_iload_n S.1 S.2.1 dX0_letter_7 rfl (lv_at hl 0 rfl) ?_
  refine lv_iconst (v := -1) S.1 S.2.1 dX0_letter_8 (by decide) ?_
  refine lv_icmp_ne (tgt := 16) S.1 S.2.1 dX0_letter_9 (by decide) (fun h9 => ?_) (fun h9 => ?_)
  · rcases hp with ⟨q, q1, q2, q3, rfl⟩ | ⟨g, -⟩
    rotate_left
    · exact absurd g h9
    refine lv_aload_n S.1 S.2.1 dX0_letter_16 rfl (lv_at hl 1 rfl) ?_
    refine xxg_bytes S w dX0_letter_17 ?_
    refine lv_aload_n S.1 S.2.1 dX0_letter_20 rfl (lv_at hl 1 rfl) ?_
    refine xxg_order S w dX0_letter_21 ?_
    refine lv_iload_n S.1 S.2.1 dX0_letter_24 rfl (lv_at hl 0 rfl) ?_
    refine xxl_6 S w (by dsimp only; omega) dX0_letter_25 ?_
    refine xxl_3 S w (bo q q1) dX0_letter_26 ?_
    first
      | (refine vx_ret ?_; refine W.widen (k := 4) (n := 24) (by omega) (by omega) ?_; exact tw_iret S hr hlk w ⟨a, ha, rfl, ht0, Or.inl ⟨q, q1, q2, q3, rfl⟩, rfl⟩ dX0_letter_27)
      | (refine vx_ret ?_; refine W.widen (k := 4) (n := 24) (by omega) (by omega) ?_; exact tw_iret S hr hlk w ⟨a, ha, rfl, ht0, Or.inr ⟨rfl, g2⟩, rfl⟩ dX0_letter_27)
  · rcases hp with ⟨q, q1, q2, q3, rfl⟩ | ⟨g, g2⟩
    · exact absurd h9 (tw_nm1 (by dsimp only; omega))
    refine lv_iconst (v := -1) S.1 S.2.1 dX0_letter_12 (by decide) ?_
    refine lv_goto (tgt := 27) S.1 S.2.1 dX0_letter_13 (by decide) ?_
    first
      | (refine vx_ret ?_; refine W.widen (k := 4) (n := 24) (by omega) (by omega) ?_; exact tw_iret S hr hlk w ⟨a, ha, rfl, ht0, Or.inl ⟨q, q1, q2, q3, rfl⟩, rfl⟩ dX0_letter_27)
      | (refine vx_ret ?_; refine W.widen (k := 4) (n := 24) (by omega) (by omega) ?_; exact tw_iret S hr hlk w ⟨a, ha, rfl, ht0, Or.inr ⟨rfl, g2⟩, rfl⟩ dX0_letter_27)
set_option maxHeartbeats 4000000 in
set_option maxRecDepth 100000 in
/-- name(c, at) -/
theorem kX0_name (l : Launch) (D : va_G) (cI cJ : ClassId) (x : Nat) (ad : Nat → Nat) (st : Nat → Nat → Nat) (sz : Nat) (hlt : l.stackTraces = false) {v t : Int32} {md : Nat → Nat} (hci : tw_ci md st) (hcc : ∀ c, c < 4 → st (24 + c) c = md c) (hnc : st 9 0 ≤ 512) (hn4 : ∀ j, st 4 j < 2147483648) : vx_Met l yX0_name wsX0_name ({ frames := 9, cells := 4, slots := 24, locals := 150 }) (va_Pc [.ref x, .int v, .int t] (fun U => U.heap.size = sz ∧ tw_Z (fun q => sz ≤ q) U ∧ tw_XU D cI cJ x ad st U)) (va_Qi (fun r u => ∃ a, a < 4 ∧ v = nI a ∧ ¬ t < 0 ∧ tw_pl st a t r (fun p => st 4 (st 6 p)) ∧ u = st) (tw_XT D cI cJ x ad (va_A (tw_x cI cJ x ad st) sz)) (va_A (tw_x cI cJ x ad st) sz)) (tw_XC (fun u => u = 1 ∧ (tw_nc v ∨ t < 0)) sz) 4 24 (va_A (tw_x cI cJ x ad st) sz) := by
  refine vx_ofW (cc := cX0_name) (maxL := 4) (ret := (some .int)) (by decide) rfl ?_
  intro p e s m args below meth cd s₁ B hml ht hv
  obtain ⟨rfl, hsz, Z, hU⟩ := hv
  subst hsz
  have S : CallFix p m cd cX0_name 4 s ([.ref x, .int v, .int t] : List Value).toArray tw_wall RX0 := ⟨B.exec, B.bytes, hml, findClass_of_methodNamed B.named, fun w h => atoms_spec (ws := wsX0_name) B.pre w (List.mem_cons_of_mem _ h)⟩
  have hr := B.returns
  have hlk := B.notSynchronized
  have z : va_S (fun q => s.heap.size ≤ q) s.heap s.heap [] := va_S.rf
  have w := tw_X0 hU
  have hA : ∀ q : Nat, s.heap.size ≤ q → va_A (tw_x cI cJ x ad st) s.heap.size q := fun q h => Or.inr h
  generalize va_A (tw_x cI cJ x ad st) s.heap.size = A at w hA ⊢
  have hl := lv_entry ([.ref x, .int v, .int t]) (n := 4) (Nat.le_of_ble_eq_true rfl)
  rw [lg_entry_eq]
  generalize (lg_sl ([.ref x, .int v, .int t]) ++ List.replicate (4 - (lg_sl ([.ref x, .int v, .int t])).length) Slot.unset).toArray = ls at hl ⊢
  have hl : lv_has ls 4 [(0, .ref x), (1, .int v), (2, .int t)] := hl
  obtain ⟨bl, bo, b5, bk, b8, bi, bw, bs⟩ := tw_bd_of hci hnc
  refine lv_aload_n S.1 S.2.1 dX0_name_0 rfl (lv_at hl 0 rfl) ?_
  refine lv_iload_n S.1 S.2.1 dX0_name_1 rfl (lv_at hl 1 rfl) ?_
  refine lv_iload_n S.1 S.2.1 dX0_name_2 rfl (lv_at hl 2 rfl) ?_
  refine tw_chi (n := 2) (mc1 := 2) (ms1 := 12) S ht hlk w hA Z z hA (kX0_placeToRead l D cI cJ x ad st _ hlt hci hcc hnc hn4) (tw_gV wl_X0_100 wn_X0_placeToRead ws_X0_placeToRead wi_X0 wy_X0_placeToRead) rfl rfl (by decide +kernel) ⟨Nat.le_of_ble_eq_true rfl, Nat.le_of_ble_eq_true rfl⟩ rfl hl.1 rfl (Nat.le_of_ble_eq_true rfl) dX0_name_3 ⟨Nat.le_of_ble_eq_true rfl, Nat.le_of_ble_eq_true rfl⟩ (Nat.le_of_ble_eq_true rfl) (Nat.le_of_ble_eq_true rfl) (fun u h => h) (fun r H locs hp w z => ?_)
  obtain ⟨a, ha, rfl, ht0, hp⟩ := hp
  refine lv_istore_n S.1 S.2.1 dX0_name_6 rfl hl (by decide) rfl (fun ls hl => ?_)
  refine lv_iload_n S.1 S.2.1 dX0_name_7 rfl (lv_at hl 0 rfl) ?_
  refine lv_iconst (v := -1) S.1 S.2.1 dX0_name_8 (by decide) ?_
  refine lv_icmp_ne (tgt := 16) S.1 S.2.1 dX0_name_9 (by decide) (fun h9 => ?_) (fun h9 => ?_)
  · rcases hp with ⟨q, q1, q2, q3, rfl⟩ | ⟨g, -⟩
    rotate_left
    · exact absurd g h9
    refine lv_aload_n S.1 S.2.1 dX0_name_16 rfl (lv_at hl 1 rfl) ?_
    refine xxg_names S w dX0_name_17 ?_
    refine lv_aload_n S.1 S.2.1 dX0_name_20 rfl (lv_at hl 1 rfl) ?_
    refine xxg_order S w dX0_name_21 ?_
    refine lv_iload_n S.1 S.2.1 dX0_name_24 rfl (lv_at hl 0 rfl) ?_
    refine xxl_6 S w (by dsimp only; omega) dX0_name_25 ?_
    refine xxl_4 S w (bo q q1) dX0_name_26 ?_
    first
      | (refine vx_ret ?_; refine W.widen (k := 4) (n := 24) (by omega) (by omega) ?_; exact tw_iret S hr hlk w ⟨a, ha, rfl, ht0, Or.inl ⟨q, q1, q2, q3, rfl⟩, rfl⟩ dX0_name_27)
      | (refine vx_ret ?_; refine W.widen (k := 4) (n := 24) (by omega) (by omega) ?_; exact tw_iret S hr hlk w ⟨a, ha, rfl, ht0, Or.inr ⟨rfl, g2⟩, rfl⟩ dX0_name_27)
  · rcases hp with ⟨q, q1, q2, q3, rfl⟩ | ⟨g, g2⟩
    · exact absurd h9 (tw_nm1 (by dsimp only; omega))
    refine lv_iconst (v := -1) S.1 S.2.1 dX0_name_12 (by decide) ?_
    refine lv_goto (tgt := 27) S.1 S.2.1 dX0_name_13 (by decide) ?_
    first
      | (refine vx_ret ?_; refine W.widen (k := 4) (n := 24) (by omega) (by omega) ?_; exact tw_iret S hr hlk w ⟨a, ha, rfl, ht0, Or.inl ⟨q, q1, q2, q3, rfl⟩, rfl⟩ dX0_name_27)
      | (refine vx_ret ?_; refine W.widen (k := 4) (n := 24) (by omega) (by omega) ?_; exact tw_iret S hr hlk w ⟨a, ha, rfl, ht0, Or.inr ⟨rfl, g2⟩, rfl⟩ dX0_name_27)
