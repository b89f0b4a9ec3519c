set_option maxHeartbeats 4000000 in
set_option maxRecDepth 100000 in
/-- the law, from its entry -/
theorem whole_start {p : Program} {e : Env} {s : State} {m : MethodId} {below : List Frame} {meth : Method} {c : Code} (l : Launch) (hlt : l.stackTraces = false) {b L : Nat} {xs : Nat → Int32} (hL : L ≤ 2048) (C0 : lw_At p s m meth c b L xs) : W p l e room_1 s m #[Value.ref b] below meth c s.heap [] 0 0 (lw_Z below #[Value.ref b] s) (entryFrame m ([Value.ref b] : List Value).toArray 7) := by
  obtain ⟨hx, hb, hr, hml, hown, hts, hX, hbl, hlocks, hgv⟩ := id C0
  have hs := flat_of_before _ hgv
  have S : CallFix p m c cL_law 7 s #[Value.ref b] tw_wall RL := ⟨hx, hb, hml, hown, fun w h => hts w (List.mem_filter.mp h).1⟩
  have Z := tw_Z_start hts hs
  have hN := tw_Nc_start hs
  have hov := tw_ov_start hts
  have hA : ∀ q : Nat, s.heap.size ≤ q → (fun q : Nat => s.heap.size ≤ q) q := fun _ h => h
  obtain ⟨c0, iS0, hKn0⟩ := u_known (C := RX0) (T := TX0) (N := 14) (n := 14) S.2.2.2.2 inX0 (S.2.2.2.2 _ wk_X0)
  obtain ⟨c1, iS1, hKn1⟩ := u_known (C := RX1) (T := TX1) (N := 17) (n := 17) S.2.2.2.2 inX1 (S.2.2.2.2 _ wk_X1)
  obtain ⟨cI, aI, nmI⟩ := tw_arr (S.2.2.2.2 _ wa_int)
  obtain ⟨cZ, aZ, nmZ⟩ := tw_arr (S.2.2.2.2 _ wa_boolean)
  obtain ⟨cL, aL, nmL⟩ := tw_arr (S.2.2.2.2 _ wa_long)
  obtain ⟨cJ, aJ, nmJ⟩ := tw_arr2 hov
  obtain ⟨D, hKc⟩ : ∃ D : va_G, ∀ (k : Nat) (q : vw_C), twCl[k]? = some q → u_Kn s q.1 q.2.1 q.2.2 (D.1 k) (D.2 k) := by
    refine ⟨(fun k => if k = 0 then c0 else c1, fun k => if k = 0 then iS0 else iS1), ?_⟩
    intro k q hq
    match k, hq with
    | 0, hq => cases hq; exact hKn0
    | 1, hq => cases hq; exact hKn1
    | k + 2, hq => simp at hq
  have hK : va_K D twCl (tw_tys cI cJ cL cZ) s := ⟨hKc, fun k q hq => by
    match k, hq with
    | 0, hq => cases hq; exact ⟨aI, nmI⟩
    | 1, hq => cases hq; exact ⟨aJ, nmJ⟩
    | 2, hq => cases hq; exact ⟨aL, nmL⟩
    | 3, hq => cases hq; exact ⟨aZ, nmZ⟩
    | k + 4, hq => simp [tw_tys] at hq⟩
  have hS : va_S (fun q : Nat => s.heap.size ≤ q) s.heap s.heap [] := va_S.rf
  have hP : va_P D twCl [] s.heap := fun k q h => by simp at h
  have hD : va_D (fun q : Nat => s.heap.size ≤ q) [] := ⟨fun i j p q h => by simp at h, fun k q h => by simp at h⟩
  have hl := lv_entry ([.ref b]) (n := 7) (Nat.le_of_ble_eq_true rfl)
  rw [lg_entry_eq]
  generalize (lg_sl ([.ref b]) ++ List.replicate (7 - (lg_sl ([.ref b])).length) Slot.unset).toArray = ls at hl ⊢
  have hl : lv_has ls 7 [(0, .ref b)] := hl
  refine va_new (ci := 0) (fs := [.null, .null, .null, .null, .int 0, .null, .null, .null, .null, .int 0, .null, .null, .null, .null]) (C := RX0) (T := TX0) (N := 14) hx hb S.2.2.2.2 inX0 tyX0 tyX0_ok S.2.2.2.1 (S.2.2.2.2 _ wc_L_8) (S.2.2.2.2 _ wk_X0) (S.2.2.2.2 _ wi_X0) hK hP hD hS hA rfl (fun j hj => by rcases (show j = 0 ∨ j = 1 ∨ j = 2 ∨ j = 3 ∨ j = 4 ∨ j = 5 ∨ j = 6 ∨ j = 7 ∨ j = 8 ∨ j = 9 ∨ j = 10 ∨ j = 11 ∨ j = 12 ∨ j = 13 by omega) with rfl | rfl | rfl | rfl | rfl | rfl | rfl | rfl | rfl | rfl | rfl | rfl | rfl | rfl <;> rfl) (Nat.le_of_ble_eq_true rfl) (Nat.le_of_ble_eq_true rfl) dL_law_0 (fun x H hP hD hS => ?_)
  have hP : va_P D twCl [(x, .inr (0, [.null, .null, .null, .null, .int 0, .null, .null, .null, .null, .int 0, .null, .null, .null, .null]))] H := hP
  have hD : va_D (fun q : Nat => s.heap.size ≤ q) [(x, .inr (0, [.null, .null, .null, .null, .int 0, .null, .null, .null, .null, .int 0, .null, .null, .null, .null]))] := hD
  refine lv_dup hx hb dL_law_3 rfl ?_
  have hKx : va_K D twCl [(cI, .int), (cJ, .array .int)] s := hK.sub [0, 1] rfl
  have hF := va_free (wc := [(x, .inr (0, [.null, .null, .null, .null, .int 0, .null, .null, .null, .null, .int 0, .null, .null, .null, .null]))]) hD hS hA [0] rfl
  refine va_callv (va_runI (As := []) (rest := [.ref x]) S (kX0_init l D cI cJ x H.size) (cwI 0 S.2.2.2.2 (tw_gI wy_X0_init) rfl rfl rfl (S.2.2.2.2 _ wi_X0) (S.2.2.2.2 _ wl_L_41) (S.2.2.2.2 _ wn_X0_init) rfl (by decide +kernel) ⟨Nat.le_of_ble_eq_true rfl, Nat.le_of_ble_eq_true rfl⟩) ⟨fun a U g mk q => by obtain ⟨q0, q1, qo, qP, qK, qD⟩ := q; exact ⟨q0, q1, tw_ov (s := U) (U := U.calling g mk a) (Vm.Alike.refl U.vm) qo, qP, va_K.moved (u := U) (U := U.calling g mk a) (Vm.Alike.refl U.vm) qK, qD⟩, fun U hU hW => ⟨rfl, by rw [hU], tw_ov hW.alike hov, by rw [hU]; exact hP, va_K.moved hW.alike hKx, hD.weaken (fun _ _ _ _ => trivial)⟩⟩ rfl rfl hl.1 rfl (lv_room (Nat.le_of_ble_eq_true rfl)) dL_law_4 ⟨Nat.le_of_ble_eq_true rfl, Nat.le_of_ble_eq_true rfl⟩) hS (fun q _ h => hF q h) hF (fun ad t H1 locs ht hvm hw hB hz1 hk1 hS => ?_)
  obtain ⟨b1, b2, b3⟩ := hB
  rw [ht] at b1
  obtain ⟨hP, hD⟩ := va_join (wr := []) (w1 := tw_x cI cJ x ad tw_s0) hP hD [0] [] rfl rfl (by decide) (by decide) hk1 hF b1 b3
  have hP : va_P D twCl (tw_x cI cJ x ad tw_s0) H1 := hP
  have hD : va_D (fun q : Nat => s.heap.size ≤ q) (tw_x cI cJ x ad tw_s0) := hD
  generalize H1 = H at hP hS ⊢
  refine lv_astore_n (lv' := [(1, .ref x), (0, .ref b)]) hx hb dL_law_7 rfl hl (by decide) rfl (fun ls hl => ?_)
  refine va_new (ci := 1) (fs := [.int 0, .null, .null, .null, .null, .null, .null, .null, .int 0, .null, .null, .null, .null, .null, .null, .int 0, .int 0]) (C := RX1) (T := TX1) (N := 17) hx hb S.2.2.2.2 inX1 tyX1 tyX1_ok S.2.2.2.1 (S.2.2.2.2 _ wc_L_42) (S.2.2.2.2 _ wk_X1) (S.2.2.2.2 _ wi_X1) hK hP hD hS hA rfl (fun j hj => by rcases (show j = 0 ∨ j = 1 ∨ j = 2 ∨ j = 3 ∨ j = 4 ∨ j = 5 ∨ j = 6 ∨ j = 7 ∨ j = 8 ∨ j = 9 ∨ j = 10 ∨ j = 11 ∨ j = 12 ∨ j = 13 ∨ j = 14 ∨ j = 15 ∨ j = 16 by omega) with rfl | rfl | rfl | rfl | rfl | rfl | rfl | rfl | rfl | rfl | rfl | rfl | rfl | rfl | rfl | rfl | rfl <;> rfl) (Nat.le_of_ble_eq_true rfl) (Nat.le_of_ble_eq_true rfl) dL_law_8 (fun y H hP hD hS => ?_)
  refine lv_dup hx hb dL_law_11 rfl ?_
  have hPc : va_P D twCl [(y, .inr (1, [.int 0, .null, .null, .null, .null, .null, .null, .null, .int 0, .null, .null, .null, .null, .null, .null, .int 0, .int 0]))] H := hP.sub [25] rfl
  have hDc : va_D (fun q : Nat => s.heap.size ≤ q) [(y, .inr (1, [.int 0, .null, .null, .null, .null, .null, .null, .null, .int 0, .null, .null, .null, .null, .null, .null, .int 0, .int 0]))] := hD.sub [25] (by decide) rfl
  have hKy : va_K D twCl [(cI, .int), (cZ, .boolean)] s := hK.sub [0, 3] rfl
  have hF := va_free (wc := [(y, .inr (1, [.int 0, .null, .null, .null, .null, .null, .null, .null, .int 0, .null, .null, .null, .null, .null, .null, .int 0, .int 0]))]) hD hS hA [25] rfl
  refine va_callv (va_runI (As := []) (rest := [.ref y]) S (kX1_init l D cI cZ y H.size) (cwI 0 S.2.2.2.2 (tw_gI wy_X1_init) rfl rfl rfl (S.2.2.2.2 _ wi_X1) (S.2.2.2.2 _ wl_L_44) (S.2.2.2.2 _ wn_X1_init) rfl (by decide +kernel) ⟨Nat.le_of_ble_eq_true rfl, Nat.le_of_ble_eq_true rfl⟩) ⟨fun a U g mk q => by obtain ⟨q0, q1, qP, qK, qD⟩ := q; exact ⟨q0, q1, qP, va_K.moved (u := U) (U := U.calling g mk a) (Vm.Alike.refl U.vm) qK, qD⟩, fun U hU hW => ⟨rfl, by rw [hU], by rw [hU]; exact hPc, va_K.moved hW.alike hKy, hDc.weaken (fun _ _ _ _ => trivial)⟩⟩ rfl rfl hl.1 rfl (lv_room (Nat.le_of_ble_eq_true rfl)) dL_law_12 ⟨Nat.le_of_ble_eq_true rfl, Nat.le_of_ble_eq_true rfl⟩) hS (fun q _ h => hF q h) hF (fun bd t H1 locs ht hvm hw hB hz1 hk1 hS => ?_)
  obtain ⟨b1, b2, b3⟩ := hB
  rw [ht] at b1
  obtain ⟨hP, hD⟩ := va_join (wr := tw_x cI cJ x ad tw_s0) (w1 := tw_y cI cZ y bd tw_t0) hP hD [25] (List.range' 0 25) rfl rfl (by decide) (by decide) hk1 hF b1 b3
  generalize H1 = H at hP hS ⊢
  refine lv_astore_n (lv' := [(2, .ref y), (1, .ref x), (0, .ref b)]) hx hb dL_law_15 rfl hl (by decide) rfl (fun ls hl => ?_)
  refine lv_iconst (v := nI 1) hx hb dL_law_16 (by decide) ?_
  refine va_newa (atype := .long) (ty := .long) (N' := 1) (a0 := (1, .inr (.inl (fun _ => 0)))) hx hb (S.2.2.2.2 _ wa_long) rfl hK hP hD hS hA (fun cA => rfl) (nI_pos (by omega)) (nI_clamp (by omega)) (Nat.le_of_ble_eq_true rfl) (Nat.le_of_ble_eq_true rfl) (Nat.le_of_ble_eq_true rfl) dL_law_17 (fun o cA H hK1 hP hD hS => ?_)
  have e3 : cA = cL := tw_same (ty := .long) (fun C h => by cases h) 2 4 hK1 rfl rfl
  subst e3
  refine lv_astore_n (lv' := [(3, .ref o), (2, .ref y), (1, .ref x), (0, .ref b)]) hx hb dL_law_19 rfl hl (by decide) rfl (fun ls hl => ?_)
  refine lv_iconst (v := nI 0) hx hb dL_law_20 (by decide) ?_
  refine lv_istore (lv' := [(4, .int (nI 0)), (3, .ref o), (2, .ref y), (1, .ref x), (0, .ref b)]) hx hb dL_law_21 hl (by decide) rfl (fun ls hl => ?_)
  exact tw_loop (D := D) (cI := cI) (cJ := cJ) (cL := cA) (cZ := cZ) (ad := ad) (bd := bd) S hr hlocks hX hbl hlt Z hN hL (L + 1) 0 tw_s0 (fun _ => 0) tw_t0 H _ ls _ _ (by omega) (by omega) ⟨hK, hP.sub (39 :: List.range' 0 39) rfl, hD.sub (39 :: List.range' 0 39) (by decide) rfl, hS⟩ tw_inv_0 (lv_sub hl [4, 3, 2, 1, 0] rfl) (Nat.le_of_ble_eq_true rfl) (Nat.le_of_ble_eq_true rfl)
