/-- what the top of the stack is, said otherwise -/
theorem tw_t {p : Program} {l : Launch} {e : Env} {R : Room} {s : State} {m : MethodId} {args : Array Value} {below : List Frame} {meth : Method} {c : Code} {H : Heap} {locs : List Loc} {cells slots : Nat} {Q : State → Prop} {pc : Nat} {ls : Array Slot} {rest : List Value} {a b : Int32} (h : a = b) (kk : W p l e R s m args below meth c H locs cells slots Q (F0 m pc ls (.int b :: rest))) : W p l e R s m args below meth c H locs cells slots Q (F0 m pc ls (.int a :: rest)) := by rw [h]; exact kk
theorem tw_aald {p : Program} {l : Launch} {e : Env} {R : Room} {s : State} {m : MethodId} {args : Array Value} {below : List Frame} {meth : Method} {c : Code} {H : Heap} {locs : List Loc} {cells slots : Nat} {Q : State → Prop} {cc : ByteArray} {pc : Nat} {ls : Array Slot} {rest : List Value} {D : va_G} {cl : List vw_C} {a : Nat} {tys : List (ClassId × FieldType)} {ws : va_W} (hexec : p.tables.exec = Jvm.exec) (hb : c.code = cc) (hK : va_K D cl tys s) (hP : va_P D cl ws H) (q0 t0 : Nat) {cA : ClassId} {t : FieldType} {n : Nat} {f : Nat → Option Nat} (ha : ws[q0]? = some (a, .inl (cA, n, .inr (.inr (.inr (.inr f)))))) (ht : tys[t0]? = some (cA, .array t)) {i : Int32} (hin : vp_in i n) (hdg : decode cc pc = .ok (.aaload, 1))
    (kk : W p l e R s m args below meth c H locs cells slots Q (F0 m (pc + 1) ls (va_rf (f i.toNatClampNeg) :: rest))) : W p l e R s m args below meth c H locs cells slots Q (F0 m pc ls (.int i :: .ref a :: rest)) := by
  have hlt : i.toNatClampNeg < n := Nat.not_le.mp fun q => hin (Or.inr q)
  exact W.aald (v := va_rf (f i.toNatClampNeg)) (ty := .array t) hexec hb (hP q0 _ ha) ((hK.2 t0 _ ht).1 n (fun j => va_rf (f j))) rfl (fun q => by cases q) (by show ¬ (i < 0 ∨ (arrV _ _ _).slots.size ≤ _); rw [arrV_size]; exact hin) (by show (arrV _ _ _).slots[_]? = _; rw [arrV_read _ _ hlt]) rfl rfl hdg kk
/-- the cells of the class: the object at x, its arrays at the addresses ad, what they hold -/
def tw_x (cI cJ : ClassId) (x : Nat) (ad : Nat → Nat) (st : Nat → Nat → Nat) : va_W :=
  [(x, .inr (0, [.ref (ad 0), .ref (ad 1), .ref (ad 2), .ref (ad 10), .int (nI (st 9 0)), .ref (ad 3), .ref (ad 4), .ref (ad 5), .ref (ad 6), .int (nI (st 9 1)), .ref (ad 11), .ref (ad 12), .ref (ad 7), .ref (ad 8)])),
   (ad 0, .inl (cI, 512, .inl (fun i => nI (st 0 i)))),
   (ad 1, .inl (cI, 512, .inl (fun i => nI (st 1 i)))),
   (ad 2, .inl (cI, 512, .inl (fun i => nI (st 2 i) - 1))),
   (ad 3, .inl (cI, 512, .inl (fun i => nI (st 3 i)))),
   (ad 4, .inl (cI, 512, .inl (fun i => nI (st 4 i)))),
   (ad 5, .inl (cI, 512, .inl (fun i => nI (st 5 i)))),
   (ad 6, .inl (cI, 512, .inl (fun i => nI (st 6 i)))),
   (ad 7, .inl (cI, 4, .inl (fun i => nI (st 7 i)))),
   (ad 8, .inl (cI, 4, .inl (fun i => nI (st 8 i)))),
   (ad 10, .inl (cJ, 4, .inr (.inr (.inr (.inr (fun i => if i < 4 then some (ad (16 + i)) else none)))))),
   (ad 11, .inl (cJ, 4, .inr (.inr (.inr (.inr (fun i => if i < 4 then some (ad (20 + i)) else none)))))),
   (ad 12, .inl (cJ, 4, .inr (.inr (.inr (.inr (fun i => if i < 4 then some (ad (24 + i)) else none)))))),
   (ad 16, .inl (cI, 512, .inl (fun i => nI (st 16 i)))),
   (ad 17, .inl (cI, 512, .inl (fun i => nI (st 17 i)))),
   (ad 18, .inl (cI, 512, .inl (fun i => nI (st 18 i)))),
   (ad 19, .inl (cI, 512, .inl (fun i => nI (st 19 i)))),
   (ad 20, .inl (cI, 400, .inl (fun i => nI (st 20 i)))),
   (ad 21, .inl (cI, 400, .inl (fun i => nI (st 21 i)))),
   (ad 22, .inl (cI, 400, .inl (fun i => nI (st 22 i)))),
   (ad 23, .inl (cI, 400, .inl (fun i => nI (st 23 i)))),
   (ad 24, .inl (cI, 4, .inl (fun i => nI (st 24 i)))),
   (ad 25, .inl (cI, 4, .inl (fun i => nI (st 25 i)))),
   (ad 26, .inl (cI, 4, .inl (fun i => nI (st 26 i)))),
   (ad 27, .inl (cI, 4, .inl (fun i => nI (st 27 i))))]
def TWX (D : va_G) (cI cJ : ClassId) (x : Nat) (ad : Nat → Nat) (st : Nat → Nat → Nat) (A : Nat → Prop) (H0 H : Heap) (locs : List Loc) (s : State) : Prop :=
  va_K D twCl [(cI, .int), (cJ, .array .int)] s ∧ va_P D twCl (tw_x cI cJ x ad st) H ∧ va_D A (tw_x cI cJ x ad st) ∧ va_S A H0 H locs
section TWXR
variable {p : Program} {l : Launch} {e : Env} {R : Room} {s : State} {m : MethodId} {args : Array Value} {below : List Frame} {meth : Method} {c : Code} {H : Heap} {locs : List Loc} {cells slots : Nat} {Q : State → Prop}
variable {cc : ByteArray} {pc nL : Nat} {ls : Array Slot} {rest : List Value} {D : va_G} {A : Nat → Prop} {H0 : Heap} {x : Nat} {ad : Nat → Nat} {st : Nat → Nat → Nat} {cI cJ : ClassId}
theorem xxg_maker (S : CallFix p m c cc nL s args tw_wall RX0) (w : TWX D cI cJ x ad st A H0 H locs s) (hdg : decode cc pc = .ok (.getfield 9, 3)) (kk : W p l e R s m args below meth c H locs cells slots Q (F0 m (pc + 3) ls (.ref (ad 0) :: rest))) : W p l e R s m args below meth c H locs cells slots Q (F0 m pc ls (.ref x :: rest)) :=
  va_get (D := D) (ci := 0) (C := RX0) (T := TX0) (N := 14) S.1 S.2.1 S.2.2.2.2 inX0 S.2.2.2.1 w.1 w.2.1 0 rfl rfl 0 (by decide) (S.2.2.2.2 _ wf_X0_maker) (fun _ h => h) rfl hdg kk
theorem xxg_number (S : CallFix p m c cc nL s args tw_wall RX0) (w : TWX D cI cJ x ad st A H0 H locs s) (hdg : decode cc pc = .ok (.getfield 13, 3)) (kk : W p l e R s m args below meth c H locs cells slots Q (F0 m (pc + 3) ls (.ref (ad 1) :: rest))) : W p l e R s m args below meth c H locs cells slots Q (F0 m pc ls (.ref x :: rest)) :=
  va_get (D := D) (ci := 0) (C := RX0) (T := TX0) (N := 14) S.1 S.2.1 S.2.2.2.2 inX0 S.2.2.2.1 w.1 w.2.1 0 rfl rfl 1 (by decide) (S.2.2.2.2 _ wf_X0_number) (fun _ h => h) rfl hdg kk
theorem xxg_taken (S : CallFix p m c cc nL s args tw_wall RX0) (w : TWX D cI cJ x ad st A H0 H locs s) (hdg : decode cc pc = .ok (.getfield 16, 3)) (kk : W p l e R s m args below meth c H locs cells slots Q (F0 m (pc + 3) ls (.ref (ad 2) :: rest))) : W p l e R s m args below meth c H locs cells slots Q (F0 m pc ls (.ref x :: rest)) :=
  va_get (D := D) (ci := 0) (C := RX0) (T := TX0) (N := 14) S.1 S.2.1 S.2.2.2.2 inX0 S.2.2.2.1 w.1 w.2.1 0 rfl rfl 2 (by decide) (S.2.2.2.2 _ wf_X0_taken) (fun _ h => h) rfl hdg kk
theorem xxg_had (S : CallFix p m c cc nL s args tw_wall RX0) (w : TWX D cI cJ x ad st A H0 H locs s) (hdg : decode cc pc = .ok (.getfield 21, 3)) (kk : W p l e R s m args below meth c H locs cells slots Q (F0 m (pc + 3) ls (.ref (ad 10) :: rest))) : W p l e R s m args below meth c H locs cells slots Q (F0 m pc ls (.ref x :: rest)) :=
  va_get (D := D) (ci := 0) (C := RX0) (T := TX0) (N := 14) S.1 S.2.1 S.2.2.2.2 inX0 S.2.2.2.1 w.1 w.2.1 0 rfl rfl 3 (by decide) (S.2.2.2.2 _ wf_X0_had) (fun _ h => h) rfl hdg kk
theorem xxg_changes (S : CallFix p m c cc nL s args tw_wall RX0) (w : TWX D cI cJ x ad st A H0 H locs s) (hdg : decode cc pc = .ok (.getfield 24, 3)) (kk : W p l e R s m args below meth c H locs cells slots Q (F0 m (pc + 3) ls (.int (nI (st 9 0)) :: rest))) : W p l e R s m args below meth c H locs cells slots Q (F0 m pc ls (.ref x :: rest)) :=
  va_get (D := D) (ci := 0) (C := RX0) (T := TX0) (N := 14) S.1 S.2.1 S.2.2.2.2 inX0 S.2.2.2.1 w.1 w.2.1 0 rfl rfl 4 (by decide) (S.2.2.2.2 _ wf_X0_changes) (fun _ h => h) rfl hdg kk
theorem xxg_bytes (S : CallFix p m c cc nL s args tw_wall RX0) (w : TWX D cI cJ x ad st A H0 H locs s) (hdg : decode cc pc = .ok (.getfield 28, 3)) (kk : W p l e R s m args below meth c H locs cells slots Q (F0 m (pc + 3) ls (.ref (ad 3) :: rest))) : W p l e R s m args below meth c H locs cells slots Q (F0 m pc ls (.ref x :: rest)) :=
  va_get (D := D) (ci := 0) (C := RX0) (T := TX0) (N := 14) S.1 S.2.1 S.2.2.2.2 inX0 S.2.2.2.1 w.1 w.2.1 0 rfl rfl 5 (by decide) (S.2.2.2.2 _ wf_X0_bytes) (fun _ h => h) rfl hdg kk
theorem xxg_names (S : CallFix p m c cc nL s args tw_wall RX0) (w : TWX D cI cJ x ad st A H0 H locs s) (hdg : decode cc pc = .ok (.getfield 31, 3)) (kk : W p l e R s m args below meth c H locs cells slots Q (F0 m (pc + 3) ls (.ref (ad 4) :: rest))) : W p l e R s m args below meth c H locs cells slots Q (F0 m pc ls (.ref x :: rest)) :=
  va_get (D := D) (ci := 0) (C := RX0) (T := TX0) (N := 14) S.1 S.2.1 S.2.2.2.2 inX0 S.2.2.2.1 w.1 w.2.1 0 rfl rfl 6 (by decide) (S.2.2.2.2 _ wf_X0_names) (fun _ h => h) rfl hdg kk
theorem xxg_shownIn (S : CallFix p m c cc nL s args tw_wall RX0) (w : TWX D cI cJ x ad st A H0 H locs s) (hdg : decode cc pc = .ok (.getfield 34, 3)) (kk : W p l e R s m args below meth c H locs cells slots Q (F0 m (pc + 3) ls (.ref (ad 5) :: rest))) : W p l e R s m args below meth c H locs cells slots Q (F0 m pc ls (.ref x :: rest)) :=
  va_get (D := D) (ci := 0) (C := RX0) (T := TX0) (N := 14) S.1 S.2.1 S.2.2.2.2 inX0 S.2.2.2.1 w.1 w.2.1 0 rfl rfl 7 (by decide) (S.2.2.2.2 _ wf_X0_shownIn) (fun _ h => h) rfl hdg kk
theorem xxg_order (S : CallFix p m c cc nL s args tw_wall RX0) (w : TWX D cI cJ x ad st A H0 H locs s) (hdg : decode cc pc = .ok (.getfield 37, 3)) (kk : W p l e R s m args below meth c H locs cells slots Q (F0 m (pc + 3) ls (.ref (ad 6) :: rest))) : W p l e R s m args below meth c H locs cells slots Q (F0 m pc ls (.ref x :: rest)) :=
  va_get (D := D) (ci := 0) (C := RX0) (T := TX0) (N := 14) S.1 S.2.1 S.2.2.2.2 inX0 S.2.2.2.1 w.1 w.2.1 0 rfl rfl 8 (by decide) (S.2.2.2.2 _ wf_X0_order) (fun _ h => h) rfl hdg kk
theorem xxg_letters (S : CallFix p m c cc nL s args tw_wall RX0) (w : TWX D cI cJ x ad st A H0 H locs s) (hdg : decode cc pc = .ok (.getfield 40, 3)) (kk : W p l e R s m args below meth c H locs cells slots Q (F0 m (pc + 3) ls (.int (nI (st 9 1)) :: rest))) : W p l e R s m args below meth c H locs cells slots Q (F0 m pc ls (.ref x :: rest)) :=
  va_get (D := D) (ci := 0) (C := RX0) (T := TX0) (N := 14) S.1 S.2.1 S.2.2.2.2 inX0 S.2.2.2.1 w.1 w.2.1 0 rfl rfl 9 (by decide) (S.2.2.2.2 _ wf_X0_letters) (fun _ h => h) rfl hdg kk
theorem xxg_own (S : CallFix p m c cc nL s args tw_wall RX0) (w : TWX D cI cJ x ad st A H0 H locs s) (hdg : decode cc pc = .ok (.getfield 43, 3)) (kk : W p l e R s m args below meth c H locs cells slots Q (F0 m (pc + 3) ls (.ref (ad 11) :: rest))) : W p l e R s m args below meth c H locs cells slots Q (F0 m pc ls (.ref x :: rest)) :=
  va_get (D := D) (ci := 0) (C := RX0) (T := TX0) (N := 14) S.1 S.2.1 S.2.2.2.2 inX0 S.2.2.2.1 w.1 w.2.1 0 rfl rfl 10 (by decide) (S.2.2.2.2 _ wf_X0_own) (fun _ h => h) rfl hdg kk
theorem xxg_known (S : CallFix p m c cc nL s args tw_wall RX0) (w : TWX D cI cJ x ad st A H0 H locs s) (hdg : decode cc pc = .ok (.getfield 46, 3)) (kk : W p l e R s m args below meth c H locs cells slots Q (F0 m (pc + 3) ls (.ref (ad 12) :: rest))) : W p l e R s m args below meth c H locs cells slots Q (F0 m pc ls (.ref x :: rest)) :=
  va_get (D := D) (ci := 0) (C := RX0) (T := TX0) (N := 14) S.1 S.2.1 S.2.2.2.2 inX0 S.2.2.2.1 w.1 w.2.1 0 rfl rfl 11 (by decide) (S.2.2.2.2 _ wf_X0_known) (fun _ h => h) rfl hdg kk
theorem xxg_greatest (S : CallFix p m c cc nL s args tw_wall RX0) (w : TWX D cI cJ x ad st A H0 H locs s) (hdg : decode cc pc = .ok (.getfield 49, 3)) (kk : W p l e R s m args below meth c H locs cells slots Q (F0 m (pc + 3) ls (.ref (ad 7) :: rest))) : W p l e R s m args below meth c H locs cells slots Q (F0 m pc ls (.ref x :: rest)) :=
  va_get (D := D) (ci := 0) (C := RX0) (T := TX0) (N := 14) S.1 S.2.1 S.2.2.2.2 inX0 S.2.2.2.1 w.1 w.2.1 0 rfl rfl 12 (by decide) (S.2.2.2.2 _ wf_X0_greatest) (fun _ h => h) rfl hdg kk
theorem xxg_lengths (S : CallFix p m c cc nL s args tw_wall RX0) (w : TWX D cI cJ x ad st A H0 H locs s) (hdg : decode cc pc = .ok (.getfield 52, 3)) (kk : W p l e R s m args below meth c H locs cells slots Q (F0 m (pc + 3) ls (.ref (ad 8) :: rest))) : W p l e R s m args below meth c H locs cells slots Q (F0 m pc ls (.ref x :: rest)) :=
  va_get (D := D) (ci := 0) (C := RX0) (T := TX0) (N := 14) S.1 S.2.1 S.2.2.2.2 inX0 S.2.2.2.1 w.1 w.2.1 0 rfl rfl 13 (by decide) (S.2.2.2.2 _ wf_X0_lengths) (fun _ h => h) rfl hdg kk
theorem xxp_changes (S : CallFix p m c cc nL s args tw_wall RX0) (w : TWX D cI cJ x ad st A H0 H locs s) {v : Nat} (hdg : decode cc pc = .ok (.putfield 24, 3)) (kk : ∀ (H1 : Heap) (locs1 : List Loc), TWX D cI cJ x ad (tw_up st 9 0 v) A H0 H1 locs1 s → W p l e R s m args below meth c H1 locs1 cells slots Q (F0 m (pc + 3) ls rest)) : W p l e R s m args below meth c H locs cells slots Q (F0 m pc ls (.int (nI (v)) :: .ref x :: rest)) :=
  va_put (D := D) (ci := 0) (ty := .int) (C := RX0) (T := TX0) (N := 14) S.1 S.2.1 S.2.2.2.2 inX0 tyX0 tyX0_ok nmX0 S.2.2.2.1 w.1 w.2.1 w.2.2.1 w.2.2.2 0 rfl rfl 4 (by decide) (S.2.2.2.2 _ wf_X0_changes) (fun _ h => h) rfl (by decide +kernel) rfl rfl (Nat.le_of_ble_eq_true rfl) hdg (fun H1 l1 hP hD hS => kk H1 l1 ⟨w.1, hP, hD, hS⟩)
theorem xxp_letters (S : CallFix p m c cc nL s args tw_wall RX0) (w : TWX D cI cJ x ad st A H0 H locs s) {v : Nat} (hdg : decode cc pc = .ok (.putfield 40, 3)) (kk : ∀ (H1 : Heap) (locs1 : List Loc), TWX D cI cJ x ad (tw_up st 9 1 v) A H0 H1 locs1 s → W p l e R s m args below meth c H1 locs1 cells slots Q (F0 m (pc + 3) ls rest)) : W p l e R s m args below meth c H locs cells slots Q (F0 m pc ls (.int (nI (v)) :: .ref x :: rest)) :=
  va_put (D := D) (ci := 0) (ty := .int) (C := RX0) (T := TX0) (N := 14) S.1 S.2.1 S.2.2.2.2 inX0 tyX0 tyX0_ok nmX0 S.2.2.2.1 w.1 w.2.1 w.2.2.1 w.2.2.2 0 rfl rfl 9 (by decide) (S.2.2.2.2 _ wf_X0_letters) (fun _ h => h) rfl (by decide +kernel) rfl rfl (Nat.le_of_ble_eq_true rfl) hdg (fun H1 l1 hP hD hS => kk H1 l1 ⟨w.1, hP, hD, hS⟩)
theorem xxl_0 (S : CallFix p m c cc nL s args tw_wall RX0) (w : TWX D cI cJ x ad st A H0 H locs s) {i : Nat} (hi : i < 512) (hdg : decode cc pc = .ok (.iaload, 1)) (kk : W p l e R s m args below meth c H locs cells slots Q (F0 m (pc + 1) ls (.int (nI (st 0 i)) :: rest))) : W p l e R s m args below meth c H locs cells slots Q (F0 m pc ls (.int (nI i) :: .ref (ad 0) :: rest)) := by
  refine va_iald S.1 S.2.1 w.1 w.2.1 1 0 rfl rfl (vp_in_nI hi (by decide)) hdg ?_
  rw [nI_clamp (by omega)]
  exact kk
theorem xxe_0 {i v : Nat} (hi : i < 512) : (tw_x cI cJ x ad st).set 1 (ad 0, .inl (cI, 512, .inl (upd (fun i => nI (st 0 i)) (nI i).toNatClampNeg (nI (v))))) = tw_x cI cJ x ad (tw_up st 0 i v) := by
  have h : upd (fun i => nI (st 0 i)) (nI i).toNatClampNeg (nI (v)) = (fun j => nI (tw_up st 0 i v 0 j)) := by
    rw [nI_clamp (by omega)]
    funext j
    by_cases g : j = i
    · rw [g, tw_up_e]; simp [upd]
    · rw [tw_up_i g]; simp [upd, g]
  rw [h]
  rfl
theorem xxs_0 (S : CallFix p m c cc nL s args tw_wall RX0) (w : TWX D cI cJ x ad st A H0 H locs s) {i v : Nat} (hi : i < 512) (hdg : decode cc pc = .ok (.iastore, 1)) (kk : ∀ (H1 : Heap) (locs1 : List Loc), TWX D cI cJ x ad (tw_up st 0 i v) A H0 H1 locs1 s → W p l e R s m args below meth c H1 locs1 cells slots Q (F0 m (pc + 1) ls rest)) : W p l e R s m args below meth c H locs cells slots Q (F0 m pc ls (.int (nI (v)) :: .int (nI i) :: .ref (ad 0) :: rest)) := by
  refine va_iast S.1 S.2.1 w.1 w.2.1 w.2.2.1 w.2.2.2 1 0 rfl rfl (vp_in_nI hi (by decide)) hdg (fun H1 l1 hP hD hS => ?_)
  rw [xxe_0 hi] at hP hD
  exact kk H1 l1 ⟨w.1, hP, hD, hS⟩
theorem xxl_1 (S : CallFix p m c cc nL s args tw_wall RX0) (w : TWX D cI cJ x ad st A H0 H locs s) {i : Nat} (hi : i < 512) (hdg : decode cc pc = .ok (.iaload, 1)) (kk : W p l e R s m args below meth c H locs cells slots Q (F0 m (pc + 1) ls (.int (nI (st 1 i)) :: rest))) : W p l e R s m args below meth c H locs cells slots Q (F0 m pc ls (.int (nI i) :: .ref (ad 1) :: rest)) := by
  refine va_iald S.1 S.2.1 w.1 w.2.1 2 0 rfl rfl (vp_in_nI hi (by decide)) hdg ?_
  rw [nI_clamp (by omega)]
  exact kk
theorem xxe_1 {i v : Nat} (hi : i < 512) : (tw_x cI cJ x ad st).set 2 (ad 1, .inl (cI, 512, .inl (upd (fun i => nI (st 1 i)) (nI i).toNatClampNeg (nI (v))))) = tw_x cI cJ x ad (tw_up st 1 i v) := by
  have h : upd (fun i => nI (st 1 i)) (nI i).toNatClampNeg (nI (v)) = (fun j => nI (tw_up st 1 i v 1 j)) := by
    rw [nI_clamp (by omega)]
    funext j
    by_cases g : j = i
    · rw [g, tw_up_e]; simp [upd]
    · rw [tw_up_i g]; simp [upd, g]
  rw [h]
  rfl
theorem xxs_1 (S : CallFix p m c cc nL s args tw_wall RX0) (w : TWX D cI cJ x ad st A H0 H locs s) {i v : Nat} (hi : i < 512) (hdg : decode cc pc = .ok (.iastore, 1)) (kk : ∀ (H1 : Heap) (locs1 : List Loc), TWX D cI cJ x ad (tw_up st 1 i v) A H0 H1 locs1 s → W p l e R s m args below meth c H1 locs1 cells slots Q (F0 m (pc + 1) ls rest)) : W p l e R s m args below meth c H locs cells slots Q (F0 m pc ls (.int (nI (v)) :: .int (nI i) :: .ref (ad 1) :: rest)) := by
  refine va_iast S.1 S.2.1 w.1 w.2.1 w.2.2.1 w.2.2.2 2 0 rfl rfl (vp_in_nI hi (by decide)) hdg (fun H1 l1 hP hD hS => ?_)
  rw [xxe_1 hi] at hP hD
  exact kk H1 l1 ⟨w.1, hP, hD, hS⟩
theorem xxl_2 (S : CallFix p m c cc nL s args tw_wall RX0) (w : TWX D cI cJ x ad st A H0 H locs s) {i : Nat} (hi : i < 512) (hdg : decode cc pc = .ok (.iaload, 1)) (kk : W p l e R s m args below meth c H locs cells slots Q (F0 m (pc + 1) ls (.int (nI (st 2 i) - 1) :: rest))) : W p l e R s m args below meth c H locs cells slots Q (F0 m pc ls (.int (nI i) :: .ref (ad 2) :: rest)) := by
  refine va_iald S.1 S.2.1 w.1 w.2.1 3 0 rfl rfl (vp_in_nI hi (by decide)) hdg ?_
  rw [nI_clamp (by omega)]
  exact kk
theorem xxe_2 {i v : Nat} (hi : i < 512) : (tw_x cI cJ x ad st).set 3 (ad 2, .inl (cI, 512, .inl (upd (fun i => nI (st 2 i) - 1) (nI i).toNatClampNeg (nI (v) - 1)))) = tw_x cI cJ x ad (tw_up st 2 i v) := by
  have h : upd (fun i => nI (st 2 i) - 1) (nI i).toNatClampNeg (nI (v) - 1) = (fun j => nI (tw_up st 2 i v 2 j) - 1) := by
    rw [nI_clamp (by omega)]
    funext j
    by_cases g : j = i
    · rw [g, tw_up_e]; simp [upd]
    · rw [tw_up_i g]; simp [upd, g]
  rw [h]
  rfl
theorem xxs_2 (S : CallFix p m c cc nL s args tw_wall RX0) (w : TWX D cI cJ x ad st A H0 H locs s) {i v : Nat} (hi : i < 512) (hdg : decode cc pc = .ok (.iastore, 1)) (kk : ∀ (H1 : Heap) (locs1 : List Loc), TWX D cI cJ x ad (tw_up st 2 i v) A H0 H1 locs1 s → W p l e R s m args below meth c H1 locs1 cells slots Q (F0 m (pc + 1) ls rest)) : W p l e R s m args below meth c H locs cells slots Q (F0 m pc ls (.int (nI (v) - 1) :: .int (nI i) :: .ref (ad 2) :: rest)) := by
  refine va_iast S.1 S.2.1 w.1 w.2.1 w.2.2.1 w.2.2.2 3 0 rfl rfl (vp_in_nI hi (by decide)) hdg (fun H1 l1 hP hD hS => ?_)
  rw [xxe_2 hi] at hP hD
  exact kk H1 l1 ⟨w.1, hP, hD, hS⟩
theorem xxl_3 (S : CallFix p m c cc nL s args tw_wall RX0) (w : TWX D cI cJ x ad st A H0 H locs s) {i : Nat} (hi : i < 512) (hdg : decode cc pc = .ok (.iaload, 1)) (kk : W p l e R s m args below meth c H locs cells slots Q (F0 m (pc + 1) ls (.int (nI (st 3 i)) :: rest))) : W p l e R s m args below meth c H locs cells slots Q (F0 m pc ls (.int (nI i) :: .ref (ad 3) :: rest)) := by
  refine va_iald S.1 S.2.1 w.1 w.2.1 4 0 rfl rfl (vp_in_nI hi (by decide)) hdg ?_
  rw [nI_clamp (by omega)]
  exact kk
theorem xxe_3 {i v : Nat} (hi : i < 512) : (tw_x cI cJ x ad st).set 4 (ad 3, .inl (cI, 512, .inl (upd (fun i => nI (st 3 i)) (nI i).toNatClampNeg (nI (v))))) = tw_x cI cJ x ad (tw_up st 3 i v) := by
  have h : upd (fun i => nI (st 3 i)) (nI i).toNatClampNeg (nI (v)) = (fun j => nI (tw_up st 3 i v 3 j)) := by
    rw [nI_clamp (by omega)]
    funext j
    by_cases g : j = i
    · rw [g, tw_up_e]; simp [upd]
    · rw [tw_up_i g]; simp [upd, g]
  rw [h]
  rfl
theorem xxs_3 (S : CallFix p m c cc nL s args tw_wall RX0) (w : TWX D cI cJ x ad st A H0 H locs s) {i v : Nat} (hi : i < 512) (hdg : decode cc pc = .ok (.iastore, 1)) (kk : ∀ (H1 : Heap) (locs1 : List Loc), TWX D cI cJ x ad (tw_up st 3 i v) A H0 H1 locs1 s → W p l e R s m args below meth c H1 locs1 cells slots Q (F0 m (pc + 1) ls rest)) : W p l e R s m args below meth c H locs cells slots Q (F0 m pc ls (.int (nI (v)) :: .int (nI i) :: .ref (ad 3) :: rest)) := by
  refine va_iast S.1 S.2.1 w.1 w.2.1 w.2.2.1 w.2.2.2 4 0 rfl rfl (vp_in_nI hi (by decide)) hdg (fun H1 l1 hP hD hS => ?_)
  rw [xxe_3 hi] at hP hD
  exact kk H1 l1 ⟨w.1, hP, hD, hS⟩
theorem xxl_4 (S : CallFix p m c cc nL s args tw_wall RX0) (w : TWX D cI cJ x ad st A H0 H locs s) {i : Nat} (hi : i < 512) (hdg : decode cc pc = .ok (.iaload, 1)) (kk : W p l e R s m args below meth c H locs cells slots Q (F0 m (pc + 1) ls (.int (nI (st 4 i)) :: rest))) : W p l e R s m args below meth c H locs cells slots Q (F0 m pc ls (.int (nI i) :: .ref (ad 4) :: rest)) := by
  refine va_iald S.1 S.2.1 w.1 w.2.1 5 0 rfl rfl (vp_in_nI hi (by decide)) hdg ?_
  rw [nI_clamp (by omega)]
  exact kk
theorem xxe_4 {i v : Nat} (hi : i < 512) : (tw_x cI cJ x ad st).set 5 (ad 4, .inl (cI, 512, .inl (upd (fun i => nI (st 4 i)) (nI i).toNatClampNeg (nI (v))))) = tw_x cI cJ x ad (tw_up st 4 i v) := by
  have h : upd (fun i => nI (st 4 i)) (nI i).toNatClampNeg (nI (v)) = (fun j => nI (tw_up st 4 i v 4 j)) := by
    rw [nI_clamp (by omega)]
    funext j
    by_cases g : j = i
    · rw [g, tw_up_e]; simp [upd]
    · rw [tw_up_i g]; simp [upd, g]
  rw [h]
  rfl
theorem xxs_4 (S : CallFix p m c cc nL s args tw_wall RX0) (w : TWX D cI cJ x ad st A H0 H locs s) {i v : Nat} (hi : i < 512) (hdg : decode cc pc = .ok (.iastore, 1)) (kk : ∀ (H1 : Heap) (locs1 : List Loc), TWX D cI cJ x ad (tw_up st 4 i v) A H0 H1 locs1 s → W p l e R s m args below meth c H1 locs1 cells slots Q (F0 m (pc + 1) ls rest)) : W p l e R s m args below meth c H locs cells slots Q (F0 m pc ls (.int (nI (v)) :: .int (nI i) :: .ref (ad 4) :: rest)) := by
  refine va_iast S.1 S.2.1 w.1 w.2.1 w.2.2.1 w.2.2.2 5 0 rfl rfl (vp_in_nI hi (by decide)) hdg (fun H1 l1 hP hD hS => ?_)
  rw [xxe_4 hi] at hP hD
  exact kk H1 l1 ⟨w.1, hP, hD, hS⟩
theorem xxl_5 (S : CallFix p m c cc nL s args tw_wall RX0) (w : TWX D cI cJ x ad st A H0 H locs s) {i : Nat} (hi : i < 512) (hdg : decode cc pc = .ok (.iaload, 1)) (kk : W p l e R s m args below meth c H locs cells slots Q (F0 m (pc + 1) ls (.int (nI (st 5 i)) :: rest))) : W p l e R s m args below meth c H locs cells slots Q (F0 m pc ls (.int (nI i) :: .ref (ad 5) :: rest)) := by
  refine va_iald S.1 S.2.1 w.1 w.2.1 6 0 rfl rfl (vp_in_nI hi (by decide)) hdg ?_
  rw [nI_clamp (by omega)]
  exact kk
theorem xxe_5 {i v : Nat} (hi : i < 512) : (tw_x cI cJ x ad st).set 6 (ad 5, .inl (cI, 512, .inl (upd (fun i => nI (st 5 i)) (nI i).toNatClampNeg (nI (v))))) = tw_x cI cJ x ad (tw_up st 5 i v) := by
  have h : upd (fun i => nI (st 5 i)) (nI i).toNatClampNeg (nI (v)) = (fun j => nI (tw_up st 5 i v 5 j)) := by
    rw [nI_clamp (by omega)]
    funext j
    by_cases g : j = i
    · rw [g, tw_up_e]; simp [upd]
    · rw [tw_up_i g]; simp [upd, g]
  rw [h]
  rfl
theorem xxs_5 (S : CallFix p m c cc nL s args tw_wall RX0) (w : TWX D cI cJ x ad st A H0 H locs s) {i v : Nat} (hi : i < 512) (hdg : decode cc pc = .ok (.iastore, 1)) (kk : ∀ (H1 : Heap) (locs1 : List Loc), TWX D cI cJ x ad (tw_up st 5 i v) A H0 H1 locs1 s → W p l e R s m args below meth c H1 locs1 cells slots Q (F0 m (pc + 1) ls rest)) : W p l e R s m args below meth c H locs cells slots Q (F0 m pc ls (.int (nI (v)) :: .int (nI i) :: .ref (ad 5) :: rest)) := by
  refine va_iast S.1 S.2.1 w.1 w.2.1 w.2.2.1 w.2.2.2 6 0 rfl rfl (vp_in_nI hi (by decide)) hdg (fun H1 l1 hP hD hS => ?_)
  rw [xxe_5 hi] at hP hD
  exact kk H1 l1 ⟨w.1, hP, hD, hS⟩
theorem xxl_6 (S : CallFix p m c cc nL s args tw_wall RX0) (w : TWX D cI cJ x ad st A H0 H locs s) {i : Nat} (hi : i < 512) (hdg : decode cc pc = .ok (.iaload, 1)) (kk : W p l e R s m args below meth c H locs cells slots Q (F0 m (pc + 1) ls (.int (nI (st 6 i)) :: rest))) : W p l e R s m args below meth c H locs cells slots Q (F0 m pc ls (.int (nI i) :: .ref (ad 6) :: rest)) := by
  refine va_iald S.1 S.2.1 w.1 w.2.1 7 0 rfl rfl (vp_in_nI hi (by decide)) hdg ?_
  rw [nI_clamp (by omega)]
  exact kk
theorem xxe_6 {i v : Nat} (hi : i < 512) : (tw_x cI cJ x ad st).set 7 (ad 6, .inl (cI, 512, .inl (upd (fun i => nI (st 6 i)) (nI i).toNatClampNeg (nI (v))))) = tw_x cI cJ x ad (tw_up st 6 i v) := by
  have h : upd (fun i => nI (st 6 i)) (nI i).toNatClampNeg (nI (v)) = (fun j => nI (tw_up st 6 i v 6 j)) := by
    rw [nI_clamp (by omega)]
    funext j
    by_cases g : j = i
    · rw [g, tw_up_e]; simp [upd]
    · rw [tw_up_i g]; simp [upd, g]
  rw [h]
  rfl
theorem xxs_6 (S : CallFix p m c cc nL s args tw_wall RX0) (w : TWX D cI cJ x ad st A H0 H locs s) {i v : Nat} (hi : i < 512) (hdg : decode cc pc = .ok (.iastore, 1)) (kk : ∀ (H1 : Heap) (locs1 : List Loc), TWX D cI cJ x ad (tw_up st 6 i v) A H0 H1 locs1 s → W p l e R s m args below meth c H1 locs1 cells slots Q (F0 m (pc + 1) ls rest)) : W p l e R s m args below meth c H locs cells slots Q (F0 m pc ls (.int (nI (v)) :: .int (nI i) :: .ref (ad 6) :: rest)) := by
  refine va_iast S.1 S.2.1 w.1 w.2.1 w.2.2.1 w.2.2.2 7 0 rfl rfl (vp_in_nI hi (by decide)) hdg (fun H1 l1 hP hD hS => ?_)
  rw [xxe_6 hi] at hP hD
  exact kk H1 l1 ⟨w.1, hP, hD, hS⟩
theorem xxl_7 (S : CallFix p m c cc nL s args tw_wall RX0) (w : TWX D cI cJ x ad st A H0 H locs s) {i : Nat} (hi : i < 4) (hdg : decode cc pc = .ok (.iaload, 1)) (kk : W p l e R s m args below meth c H locs cells slots Q (F0 m (pc + 1) ls (.int (nI (st 7 i)) :: rest))) : W p l e R s m args below meth c H locs cells slots Q (F0 m pc ls (.int (nI i) :: .ref (ad 7) :: rest)) := by
  refine va_iald S.1 S.2.1 w.1 w.2.1 8 0 rfl rfl (vp_in_nI hi (by decide)) hdg ?_
  rw [nI_clamp (by omega)]
  exact kk
theorem xxe_7 {i v : Nat} (hi : i < 4) : (tw_x cI cJ x ad st).set 8 (ad 7, .inl (cI, 4, .inl (upd (fun i => nI (st 7 i)) (nI i).toNatClampNeg (nI (v))))) = tw_x cI cJ x ad (tw_up st 7 i v) := by
  have h : upd (fun i => nI (st 7 i)) (nI i).toNatClampNeg (nI (v)) = (fun j => nI (tw_up st 7 i v 7 j)) := by
    rw [nI_clamp (by omega)]
    funext j
    by_cases g : j = i
    · rw [g, tw_up_e]; simp [upd]
    · rw [tw_up_i g]; simp [upd, g]
  rw [h]
  rfl
theorem xxs_7 (S : CallFix p m c cc nL s args tw_wall RX0) (w : TWX D cI cJ x ad st A H0 H locs s) {i v : Nat} (hi : i < 4) (hdg : decode cc pc = .ok (.iastore, 1)) (kk : ∀ (H1 : Heap) (locs1 : List Loc), TWX D cI cJ x ad (tw_up st 7 i v) A H0 H1 locs1 s → W p l e R s m args below meth c H1 locs1 cells slots Q (F0 m (pc + 1) ls rest)) : W p l e R s m args below meth c H locs cells slots Q (F0 m pc ls (.int (nI (v)) :: .int (nI i) :: .ref (ad 7) :: rest)) := by
  refine va_iast S.1 S.2.1 w.1 w.2.1 w.2.2.1 w.2.2.2 8 0 rfl rfl (vp_in_nI hi (by decide)) hdg (fun H1 l1 hP hD hS => ?_)
  rw [xxe_7 hi] at hP hD
  exact kk H1 l1 ⟨w.1, hP, hD, hS⟩
theorem xxl_8 (S : CallFix p m c cc nL s args tw_wall RX0) (w : TWX D cI cJ x ad st A H0 H locs s) {i : Nat} (hi : i < 4) (hdg : decode cc pc = .ok (.iaload, 1)) (kk : W p l e R s m args below meth c H locs cells slots Q (F0 m (pc + 1) ls (.int (nI (st 8 i)) :: rest))) : W p l e R s m args below meth c H locs cells slots Q (F0 m pc ls (.int (nI i) :: .ref (ad 8) :: rest)) := by
  refine va_iald S.1 S.2.1 w.1 w.2.1 9 0 rfl rfl (vp_in_nI hi (by decide)) hdg ?_
  rw [nI_clamp (by omega)]
  exact kk
theorem xxe_8 {i v : Nat} (hi : i < 4) : (tw_x cI cJ x ad st).set 9 (ad 8, .inl (cI, 4, .inl (upd (fun i => nI (st 8 i)) (nI i).toNatClampNeg (nI (v))))) = tw_x cI cJ x ad (tw_up st 8 i v) := by
  have h : upd (fun i => nI (st 8 i)) (nI i).toNatClampNeg (nI (v)) = (fun j => nI (tw_up st 8 i v 8 j)) := by
    rw [nI_clamp (by omega)]
    funext j
    by_cases g : j = i
    · rw [g, tw_up_e]; simp [upd]
    · rw [tw_up_i g]; simp [upd, g]
  rw [h]
  rfl
theorem xxs_8 (S : CallFix p m c cc nL s args tw_wall RX0) (w : TWX D cI cJ x ad st A H0 H locs s) {i v : Nat} (hi : i < 4) (hdg : decode cc pc = .ok (.iastore, 1)) (kk : ∀ (H1 : Heap) (locs1 : List Loc), TWX D cI cJ x ad (tw_up st 8 i v) A H0 H1 locs1 s → W p l e R s m args below meth c H1 locs1 cells slots Q (F0 m (pc + 1) ls rest)) : W p l e R s m args below meth c H locs cells slots Q (F0 m pc ls (.int (nI (v)) :: .int (nI i) :: .ref (ad 8) :: rest)) := by
  refine va_iast S.1 S.2.1 w.1 w.2.1 w.2.2.1 w.2.2.2 9 0 rfl rfl (vp_in_nI hi (by decide)) hdg (fun H1 l1 hP hD hS => ?_)
  rw [xxe_8 hi] at hP hD
  exact kk H1 l1 ⟨w.1, hP, hD, hS⟩
theorem xxr_10 (S : CallFix p m c cc nL s args tw_wall RX0) (w : TWX D cI cJ x ad st A H0 H locs s) {d : Nat} (hd : d < 4) (hdg : decode cc pc = .ok (.aaload, 1)) (kk : W p l e R s m args below meth c H locs cells slots Q (F0 m (pc + 1) ls (.ref (ad (16 + d)) :: rest))) : W p l e R s m args below meth c H locs cells slots Q (F0 m pc ls (.int (nI d) :: .ref (ad 10) :: rest)) := by
  refine tw_aald S.1 S.2.1 w.1 w.2.1 10 1 rfl rfl (vp_in_nI hd (by decide)) hdg ?_
  rw [nI_clamp (by omega), if_pos hd]
  exact kk
theorem xxr_11 (S : CallFix p m c cc nL s args tw_wall RX0) (w : TWX D cI cJ x ad st A H0 H locs s) {d : Nat} (hd : d < 4) (hdg : decode cc pc = .ok (.aaload, 1)) (kk : W p l e R s m args below meth c H locs cells slots Q (F0 m (pc + 1) ls (.ref (ad (20 + d)) :: rest))) : W p l e R s m args below meth c H locs cells slots Q (F0 m pc ls (.int (nI d) :: .ref (ad 11) :: rest)) := by
  refine tw_aald S.1 S.2.1 w.1 w.2.1 11 1 rfl rfl (vp_in_nI hd (by decide)) hdg ?_
  rw [nI_clamp (by omega), if_pos hd]
  exact kk
theorem xxr_12 (S : CallFix p m c cc nL s args tw_wall RX0) (w : TWX D cI cJ x ad st A H0 H locs s) {d : Nat} (hd : d < 4) (hdg : decode cc pc = .ok (.aaload, 1)) (kk : W p l e R s m args below meth c H locs cells slots Q (F0 m (pc + 1) ls (.ref (ad (24 + d)) :: rest))) : W p l e R s m args below meth c H locs cells slots Q (F0 m pc ls (.int (nI d) :: .ref (ad 12) :: rest)) := by
  refine tw_aald S.1 S.2.1 w.1 w.2.1 12 1 rfl rfl (vp_in_nI hd (by decide)) hdg ?_
  rw [nI_clamp (by omega), if_pos hd]
  exact kk
theorem xxa_16 {d : Nat} (hd : d < 4) : (tw_x cI cJ x ad st)[13 + d]? = some (ad (16 + d), .inl (cI, 512, .inl (fun i => nI (st (16 + d) i)))) := by
  rcases (show d = 0 ∨ d = 1 ∨ d = 2 ∨ d = 3 by omega) with rfl | rfl | rfl | rfl <;> rfl
theorem xxl_16 (S : CallFix p m c cc nL s args tw_wall RX0) (w : TWX D cI cJ x ad st A H0 H locs s) {d i : Nat} (hd : d < 4) (hi : i < 512) (hdg : decode cc pc = .ok (.iaload, 1)) (kk : W p l e R s m args below meth c H locs cells slots Q (F0 m (pc + 1) ls (.int (nI (st (16 + d) i)) :: rest))) : W p l e R s m args below meth c H locs cells slots Q (F0 m pc ls (.int (nI i) :: .ref (ad (16 + d)) :: rest)) := by
  refine va_iald S.1 S.2.1 w.1 w.2.1 (13 + d) 0 (xxa_16 hd) rfl (vp_in_nI hi (by decide)) hdg ?_
  rw [nI_clamp (by omega)]
  exact kk
theorem xxe_16 {d i v : Nat} (hd : d < 4) (hi : i < 512) : (tw_x cI cJ x ad st).set (13 + d) (ad (16 + d), .inl (cI, 512, .inl (upd (fun i => nI (st (16 + d) i)) (nI i).toNatClampNeg (nI v)))) = tw_x cI cJ x ad (tw_up st (16 + d) i v) := by
  have h : upd (fun i => nI (st (16 + d) i)) (nI i).toNatClampNeg (nI v) = (fun j => nI (tw_up st (16 + d) i v (16 + d) j)) := by
    rw [nI_clamp (by omega)]
    funext j
    by_cases g : j = i
    · rw [g, tw_up_e]; simp [upd]
    · rw [tw_up_i g]; simp [upd, g]
  rw [h]
  rcases (show d = 0 ∨ d = 1 ∨ d = 2 ∨ d = 3 by omega) with rfl | rfl | rfl | rfl <;> rfl
theorem xxs_16 (S : CallFix p m c cc nL s args tw_wall RX0) (w : TWX D cI cJ x ad st A H0 H locs s) {d i v : Nat} (hd : d < 4) (hi : i < 512) (hdg : decode cc pc = .ok (.iastore, 1)) (kk : ∀ (H1 : Heap) (locs1 : List Loc), TWX D cI cJ x ad (tw_up st (16 + d) i v) A H0 H1 locs1 s → W p l e R s m args below meth c H1 locs1 cells slots Q (F0 m (pc + 1) ls rest)) : W p l e R s m args below meth c H locs cells slots Q (F0 m pc ls (.int (nI v) :: .int (nI i) :: .ref (ad (16 + d)) :: rest)) := by
  refine va_iast S.1 S.2.1 w.1 w.2.1 w.2.2.1 w.2.2.2 (13 + d) 0 (xxa_16 hd) rfl (vp_in_nI hi (by decide)) hdg (fun H1 l1 hP hD hS => ?_)
  rw [xxe_16 hd hi] at hP hD
  exact kk H1 l1 ⟨w.1, hP, hD, hS⟩
theorem xxa_20 {d : Nat} (hd : d < 4) : (tw_x cI cJ x ad st)[17 + d]? = some (ad (20 + d), .inl (cI, 400, .inl (fun i => nI (st (20 + d) i)))) := by
  rcases (show d = 0 ∨ d = 1 ∨ d = 2 ∨ d = 3 by omega) with rfl | rfl | rfl | rfl <;> rfl
theorem xxl_20 (S : CallFix p m c cc nL s args tw_wall RX0) (w : TWX D cI cJ x ad st A H0 H locs s) {d i : Nat} (hd : d < 4) (hi : i < 400) (hdg : decode cc pc = .ok (.iaload, 1)) (kk : W p l e R s m args below meth c H locs cells slots Q (F0 m (pc + 1) ls (.int (nI (st (20 + d) i)) :: rest))) : W p l e R s m args below meth c H locs cells slots Q (F0 m pc ls (.int (nI i) :: .ref (ad (20 + d)) :: rest)) := by
  refine va_iald S.1 S.2.1 w.1 w.2.1 (17 + d) 0 (xxa_20 hd) rfl (vp_in_nI hi (by decide)) hdg ?_
  rw [nI_clamp (by omega)]
  exact kk
theorem xxe_20 {d i v : Nat} (hd : d < 4) (hi : i < 400) : (tw_x cI cJ x ad st).set (17 + d) (ad (20 + d), .inl (cI, 400, .inl (upd (fun i => nI (st (20 + d) i)) (nI i).toNatClampNeg (nI v)))) = tw_x cI cJ x ad (tw_up st (20 + d) i v) := by
  have h : upd (fun i => nI (st (20 + d) i)) (nI i).toNatClampNeg (nI v) = (fun j => nI (tw_up st (20 + d) i v (20 + d) j)) := by
    rw [nI_clamp (by omega)]
    funext j
    by_cases g : j = i
    · rw [g, tw_up_e]; simp [upd]
    · rw [tw_up_i g]; simp [upd, g]
  rw [h]
  rcases (show d = 0 ∨ d = 1 ∨ d = 2 ∨ d = 3 by omega) with rfl | rfl | rfl | rfl <;> rfl
theorem xxs_20 (S : CallFix p m c cc nL s args tw_wall RX0) (w : TWX D cI cJ x ad st A H0 H locs s) {d i v : Nat} (hd : d < 4) (hi : i < 400) (hdg : decode cc pc = .ok (.iastore, 1)) (kk : ∀ (H1 : Heap) (locs1 : List Loc), TWX D cI cJ x ad (tw_up st (20 + d) i v) A H0 H1 locs1 s → W p l e R s m args below meth c H1 locs1 cells slots Q (F0 m (pc + 1) ls rest)) : W p l e R s m args below meth c H locs cells slots Q (F0 m pc ls (.int (nI v) :: .int (nI i) :: .ref (ad (20 + d)) :: rest)) := by
  refine va_iast S.1 S.2.1 w.1 w.2.1 w.2.2.1 w.2.2.2 (17 + d) 0 (xxa_20 hd) rfl (vp_in_nI hi (by decide)) hdg (fun H1 l1 hP hD hS => ?_)
  rw [xxe_20 hd hi] at hP hD
  exact kk H1 l1 ⟨w.1, hP, hD, hS⟩
theorem xxa_24 {d : Nat} (hd : d < 4) : (tw_x cI cJ x ad st)[21 + d]? = some (ad (24 + d), .inl (cI, 4, .inl (fun i => nI (st (24 + d) i)))) := by
  rcases (show d = 0 ∨ d = 1 ∨ d = 2 ∨ d = 3 by omega) with rfl | rfl | rfl | rfl <;> rfl
theorem xxl_24 (S : CallFix p m c cc nL s args tw_wall RX0) (w : TWX D cI cJ x ad st A H0 H locs s) {d i : Nat} (hd : d < 4) (hi : i < 4) (hdg : decode cc pc = .ok (.iaload, 1)) (kk : W p l e R s m args below meth c H locs cells slots Q (F0 m (pc + 1) ls (.int (nI (st (24 + d) i)) :: rest))) : W p l e R s m args below meth c H locs cells slots Q (F0 m pc ls (.int (nI i) :: .ref (ad (24 + d)) :: rest)) := by
  refine va_iald S.1 S.2.1 w.1 w.2.1 (21 + d) 0 (xxa_24 hd) rfl (vp_in_nI hi (by decide)) hdg ?_
  rw [nI_clamp (by omega)]
  exact kk
theorem xxe_24 {d i v : Nat} (hd : d < 4) (hi : i < 4) : (tw_x cI cJ x ad st).set (21 + d) (ad (24 + d), .inl (cI, 4, .inl (upd (fun i => nI (st (24 + d) i)) (nI i).toNatClampNeg (nI v)))) = tw_x cI cJ x ad (tw_up st (24 + d) i v) := by
  have h : upd (fun i => nI (st (24 + d) i)) (nI i).toNatClampNeg (nI v) = (fun j => nI (tw_up st (24 + d) i v (24 + d) j)) := by
    rw [nI_clamp (by omega)]
    funext j
    by_cases g : j = i
    · rw [g, tw_up_e]; simp [upd]
    · rw [tw_up_i g]; simp [upd, g]
  rw [h]
  rcases (show d = 0 ∨ d = 1 ∨ d = 2 ∨ d = 3 by omega) with rfl | rfl | rfl | rfl <;> rfl
theorem xxs_24 (S : CallFix p m c cc nL s args tw_wall RX0) (w : TWX D cI cJ x ad st A H0 H locs s) {d i v : Nat} (hd : d < 4) (hi : i < 4) (hdg : decode cc pc = .ok (.iastore, 1)) (kk : ∀ (H1 : Heap) (locs1 : List Loc), TWX D cI cJ x ad (tw_up st (24 + d) i v) A H0 H1 locs1 s → W p l e R s m args below meth c H1 locs1 cells slots Q (F0 m (pc + 1) ls rest)) : W p l e R s m args below meth c H locs cells slots Q (F0 m pc ls (.int (nI v) :: .int (nI i) :: .ref (ad (24 + d)) :: rest)) := by
  refine va_iast S.1 S.2.1 w.1 w.2.1 w.2.2.1 w.2.2.2 (21 + d) 0 (xxa_24 hd) rfl (vp_in_nI hi (by decide)) hdg (fun H1 l1 hP hD hS => ?_)
  rw [xxe_24 hd hi] at hP hD
  exact kk H1 l1 ⟨w.1, hP, hD, hS⟩
/-- nothing old has changed -/
theorem TWX.kept {H1 : Heap} {l1 : List Loc} (w : TWX D cI cJ x ad st A H0 H locs s) (hk : ∀ q : Nat, q < H.size → H1[q]? = H[q]?) (hS : va_S A H0 H1 l1) : TWX D cI cJ x ad st A H0 H1 l1 s :=
  ⟨w.1, w.2.1.kept (fun k q hq => hk q.1 ((w.2.1 k q hq).lt)), w.2.2.1, hS⟩
theorem TWX.set {st' : Nat → Nat → Nat} (w : TWX D cI cJ x ad st A H0 H locs s) (h : tw_x cI cJ x ad st = tw_x cI cJ x ad st') : TWX D cI cJ x ad st' A H0 H locs s := by
  obtain ⟨h1, h2, h3, h4⟩ := w
  rw [h] at h2 h3
  exact ⟨h1, h2, h3, h4⟩
end TWXR
