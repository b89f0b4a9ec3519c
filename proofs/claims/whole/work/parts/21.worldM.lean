/-- what a change is, as the reference keeps it -/
def tw_wh (k : Nat) : Int32 := if k % 2 = 0 then nI (k / 2) else -nI (k / 2)
/-- the cells of the reference: the object at x, its arrays at the addresses ad, what they hold -/
def tw_y (cI cZ : ClassId) (x : Nat) (ad : Nat → Nat) (st : Nat → Nat → Nat) : va_W :=
  [(x, .inr (1, [.int (nI (st 13 0)), .ref (ad 0), .ref (ad 1), .ref (ad 2), .ref (ad 3), .ref (ad 4), .ref (ad 5), .ref (ad 6), .int (nI (st 13 1)), .ref (ad 7), .ref (ad 8), .ref (ad 9), .ref (ad 10), .ref (ad 11), .ref (ad 12), .int (nI (st 13 2) - 1), .int (nI (st 13 3))])),
   (ad 0, .inl (cI, 1601, .inl (fun i => nI (st 0 i)))),
   (ad 1, .inl (cI, 1601, .inl (fun i => nI (st 1 i)))),
   (ad 2, .inl (cI, 1601, .inl (fun i => nI (st 2 i)))),
   (ad 3, .inl (cI, 1601, .inl (fun i => nI (st 3 i)))),
   (ad 4, .inl (cI, 1601, .inl (fun i => nI (st 4 i)))),
   (ad 5, .inl (cI, 1601, .inl (fun i => nI (st 5 i)))),
   (ad 6, .inl (cI, 1601, .inl (fun i => nI (st 6 i)))),
   (ad 7, .inl (cI, 1600, .inl (fun i => tw_wh (st 7 i)))),
   (ad 8, .inl (cI, 6400, .inl (fun i => nI (st 8 i)))),
   (ad 9, .inl (cI, 4, .inl (fun i => nI (st 9 i)))),
   (ad 10, .inl (cI, 16, .inl (fun i => nI (st 10 i)))),
   (ad 11, .inl (cI, 1601, .inl (fun i => nI (st 11 i)))),
   (ad 12, .inl (cZ, 1601, .inl (fun i => nI (st 12 i))))]
def TWY (D : va_G) (cI cZ : ClassId) (x : Nat) (ad : Nat → Nat) (st : Nat → Nat → Nat) (A : Nat → Prop) (H0 H : Heap) (locs : List Loc) (s : State) : Prop :=
  va_K D twCl [(cI, .int), (cZ, .boolean)] s ∧ va_P D twCl (tw_y cI cZ x ad st) H ∧ va_D A (tw_y cI cZ x ad st) ∧ va_S A H0 H locs
section TWYR
variable {p : Program} {l : Launch} {e : Env} {R : Room} {s : State} {m : MethodId} {args : Array Value} {below : List Frame} {meth : Method} {c : Code} {H : Heap} {locs : List Loc} {cells slots : Nat} {Q : State → Prop}
variable {cc : ByteArray} {pc nL : Nat} {ls : Array Slot} {rest : List Value} {D : va_G} {A : Nat → Prop} {H0 : Heap} {x : Nat} {ad : Nat → Nat} {st : Nat → Nat → Nat} {cI cZ : ClassId}
theorem yyg_thrown (S : CallFix p m c cc nL s args tw_wall RX1) (w : TWY D cI cZ x ad st A H0 H locs s) (hdg : decode cc pc = .ok (.getfield 57, 3)) (kk : W p l e R s m args below meth c H locs cells slots Q (F0 m (pc + 3) ls (.int (nI (st 13 0)) :: rest))) : W p l e R s m args below meth c H locs cells slots Q (F0 m pc ls (.ref x :: rest)) :=
  va_get (D := D) (ci := 1) (C := RX1) (T := TX1) (N := 17) S.1 S.2.1 S.2.2.2.2 inX1 S.2.2.2.1 w.1 w.2.1 0 rfl rfl 0 (by decide) (S.2.2.2.2 _ wf_X1_thrown) (fun _ h => h) rfl hdg kk
theorem yyg_number (S : CallFix p m c cc nL s args tw_wall RX1) (w : TWY D cI cZ x ad st A H0 H locs s) (hdg : decode cc pc = .ok (.getfield 9, 3)) (kk : W p l e R s m args below meth c H locs cells slots Q (F0 m (pc + 3) ls (.ref (ad 0) :: rest))) : W p l e R s m args below meth c H locs cells slots Q (F0 m pc ls (.ref x :: rest)) :=
  va_get (D := D) (ci := 1) (C := RX1) (T := TX1) (N := 17) S.1 S.2.1 S.2.2.2.2 inX1 S.2.2.2.1 w.1 w.2.1 0 rfl rfl 1 (by decide) (S.2.2.2.2 _ wf_X1_number) (fun _ h => h) rfl hdg kk
theorem yyg_maker (S : CallFix p m c cc nL s args tw_wall RX1) (w : TWY D cI cZ x ad st A H0 H locs s) (hdg : decode cc pc = .ok (.getfield 13, 3)) (kk : W p l e R s m args below meth c H locs cells slots Q (F0 m (pc + 3) ls (.ref (ad 1) :: rest))) : W p l e R s m args below meth c H locs cells slots Q (F0 m pc ls (.ref x :: rest)) :=
  va_get (D := D) (ci := 1) (C := RX1) (T := TX1) (N := 17) S.1 S.2.1 S.2.2.2.2 inX1 S.2.2.2.1 w.1 w.2.1 0 rfl rfl 2 (by decide) (S.2.2.2.2 _ wf_X1_maker) (fun _ h => h) rfl hdg kk
theorem yyg_change (S : CallFix p m c cc nL s args tw_wall RX1) (w : TWY D cI cZ x ad st A H0 H locs s) (hdg : decode cc pc = .ok (.getfield 16, 3)) (kk : W p l e R s m args below meth c H locs cells slots Q (F0 m (pc + 3) ls (.ref (ad 2) :: rest))) : W p l e R s m args below meth c H locs cells slots Q (F0 m pc ls (.ref x :: rest)) :=
  va_get (D := D) (ci := 1) (C := RX1) (T := TX1) (N := 17) S.1 S.2.1 S.2.2.2.2 inX1 S.2.2.2.1 w.1 w.2.1 0 rfl rfl 3 (by decide) (S.2.2.2.2 _ wf_X1_change) (fun _ h => h) rfl hdg kk
theorem yyg_value (S : CallFix p m c cc nL s args tw_wall RX1) (w : TWY D cI cZ x ad st A H0 H locs s) (hdg : decode cc pc = .ok (.getfield 19, 3)) (kk : W p l e R s m args below meth c H locs cells slots Q (F0 m (pc + 3) ls (.ref (ad 3) :: rest))) : W p l e R s m args below meth c H locs cells slots Q (F0 m pc ls (.ref x :: rest)) :=
  va_get (D := D) (ci := 1) (C := RX1) (T := TX1) (N := 17) S.1 S.2.1 S.2.2.2.2 inX1 S.2.2.2.1 w.1 w.2.1 0 rfl rfl 4 (by decide) (S.2.2.2.2 _ wf_X1_value) (fun _ h => h) rfl hdg kk
theorem yyg_first (S : CallFix p m c cc nL s args tw_wall RX1) (w : TWY D cI cZ x ad st A H0 H locs s) (hdg : decode cc pc = .ok (.getfield 22, 3)) (kk : W p l e R s m args below meth c H locs cells slots Q (F0 m (pc + 3) ls (.ref (ad 4) :: rest))) : W p l e R s m args below meth c H locs cells slots Q (F0 m pc ls (.ref x :: rest)) :=
  va_get (D := D) (ci := 1) (C := RX1) (T := TX1) (N := 17) S.1 S.2.1 S.2.2.2.2 inX1 S.2.2.2.1 w.1 w.2.1 0 rfl rfl 5 (by decide) (S.2.2.2.2 _ wf_X1_first) (fun _ h => h) rfl hdg kk
theorem yyg_sibling (S : CallFix p m c cc nL s args tw_wall RX1) (w : TWY D cI cZ x ad st A H0 H locs s) (hdg : decode cc pc = .ok (.getfield 25, 3)) (kk : W p l e R s m args below meth c H locs cells slots Q (F0 m (pc + 3) ls (.ref (ad 5) :: rest))) : W p l e R s m args below meth c H locs cells slots Q (F0 m pc ls (.ref x :: rest)) :=
  va_get (D := D) (ci := 1) (C := RX1) (T := TX1) (N := 17) S.1 S.2.1 S.2.2.2.2 inX1 S.2.2.2.1 w.1 w.2.1 0 rfl rfl 6 (by decide) (S.2.2.2.2 _ wf_X1_sibling) (fun _ h => h) rfl hdg kk
theorem yyg_up (S : CallFix p m c cc nL s args tw_wall RX1) (w : TWY D cI cZ x ad st A H0 H locs s) (hdg : decode cc pc = .ok (.getfield 28, 3)) (kk : W p l e R s m args below meth c H locs cells slots Q (F0 m (pc + 3) ls (.ref (ad 6) :: rest))) : W p l e R s m args below meth c H locs cells slots Q (F0 m pc ls (.ref x :: rest)) :=
  va_get (D := D) (ci := 1) (C := RX1) (T := TX1) (N := 17) S.1 S.2.1 S.2.2.2.2 inX1 S.2.2.2.1 w.1 w.2.1 0 rfl rfl 7 (by decide) (S.2.2.2.2 _ wf_X1_up) (fun _ h => h) rfl hdg kk
theorem yyg_letters (S : CallFix p m c cc nL s args tw_wall RX1) (w : TWY D cI cZ x ad st A H0 H locs s) (hdg : decode cc pc = .ok (.getfield 31, 3)) (kk : W p l e R s m args below meth c H locs cells slots Q (F0 m (pc + 3) ls (.int (nI (st 13 1)) :: rest))) : W p l e R s m args below meth c H locs cells slots Q (F0 m pc ls (.ref x :: rest)) :=
  va_get (D := D) (ci := 1) (C := RX1) (T := TX1) (N := 17) S.1 S.2.1 S.2.2.2.2 inX1 S.2.2.2.1 w.1 w.2.1 0 rfl rfl 8 (by decide) (S.2.2.2.2 _ wf_X1_letters) (fun _ h => h) rfl hdg kk
theorem yyg_what (S : CallFix p m c cc nL s args tw_wall RX1) (w : TWY D cI cZ x ad st A H0 H locs s) (hdg : decode cc pc = .ok (.getfield 35, 3)) (kk : W p l e R s m args below meth c H locs cells slots Q (F0 m (pc + 3) ls (.ref (ad 7) :: rest))) : W p l e R s m args below meth c H locs cells slots Q (F0 m pc ls (.ref x :: rest)) :=
  va_get (D := D) (ci := 1) (C := RX1) (T := TX1) (N := 17) S.1 S.2.1 S.2.2.2.2 inX1 S.2.2.2.1 w.1 w.2.1 0 rfl rfl 9 (by decide) (S.2.2.2.2 _ wf_X1_what) (fun _ h => h) rfl hdg kk
theorem yyg_had (S : CallFix p m c cc nL s args tw_wall RX1) (w : TWY D cI cZ x ad st A H0 H locs s) (hdg : decode cc pc = .ok (.getfield 38, 3)) (kk : W p l e R s m args below meth c H locs cells slots Q (F0 m (pc + 3) ls (.ref (ad 8) :: rest))) : W p l e R s m args below meth c H locs cells slots Q (F0 m pc ls (.ref x :: rest)) :=
  va_get (D := D) (ci := 1) (C := RX1) (T := TX1) (N := 17) S.1 S.2.1 S.2.2.2.2 inX1 S.2.2.2.1 w.1 w.2.1 0 rfl rfl 10 (by decide) (S.2.2.2.2 _ wf_X1_had) (fun _ h => h) rfl hdg kk
theorem yyg_made (S : CallFix p m c cc nL s args tw_wall RX1) (w : TWY D cI cZ x ad st A H0 H locs s) (hdg : decode cc pc = .ok (.getfield 41, 3)) (kk : W p l e R s m args below meth c H locs cells slots Q (F0 m (pc + 3) ls (.ref (ad 9) :: rest))) : W p l e R s m args below meth c H locs cells slots Q (F0 m pc ls (.ref x :: rest)) :=
  va_get (D := D) (ci := 1) (C := RX1) (T := TX1) (N := 17) S.1 S.2.1 S.2.2.2.2 inX1 S.2.2.2.1 w.1 w.2.1 0 rfl rfl 11 (by decide) (S.2.2.2.2 _ wf_X1_made) (fun _ h => h) rfl hdg kk
theorem yyg_has (S : CallFix p m c cc nL s args tw_wall RX1) (w : TWY D cI cZ x ad st A H0 H locs s) (hdg : decode cc pc = .ok (.getfield 44, 3)) (kk : W p l e R s m args below meth c H locs cells slots Q (F0 m (pc + 3) ls (.ref (ad 10) :: rest))) : W p l e R s m args below meth c H locs cells slots Q (F0 m pc ls (.ref x :: rest)) :=
  va_get (D := D) (ci := 1) (C := RX1) (T := TX1) (N := 17) S.1 S.2.1 S.2.2.2.2 inX1 S.2.2.2.1 w.1 w.2.1 0 rfl rfl 12 (by decide) (S.2.2.2.2 _ wf_X1_has) (fun _ h => h) rfl hdg kk
theorem yyg_order (S : CallFix p m c cc nL s args tw_wall RX1) (w : TWY D cI cZ x ad st A H0 H locs s) (hdg : decode cc pc = .ok (.getfield 47, 3)) (kk : W p l e R s m args below meth c H locs cells slots Q (F0 m (pc + 3) ls (.ref (ad 11) :: rest))) : W p l e R s m args below meth c H locs cells slots Q (F0 m pc ls (.ref x :: rest)) :=
  va_get (D := D) (ci := 1) (C := RX1) (T := TX1) (N := 17) S.1 S.2.1 S.2.2.2.2 inX1 S.2.2.2.1 w.1 w.2.1 0 rfl rfl 13 (by decide) (S.2.2.2.2 _ wf_X1_order) (fun _ h => h) rfl hdg kk
theorem yyg_gone (S : CallFix p m c cc nL s args tw_wall RX1) (w : TWY D cI cZ x ad st A H0 H locs s) (hdg : decode cc pc = .ok (.getfield 50, 3)) (kk : W p l e R s m args below meth c H locs cells slots Q (F0 m (pc + 3) ls (.ref (ad 12) :: rest))) : W p l e R s m args below meth c H locs cells slots Q (F0 m pc ls (.ref x :: rest)) :=
  va_get (D := D) (ci := 1) (C := RX1) (T := TX1) (N := 17) S.1 S.2.1 S.2.2.2.2 inX1 S.2.2.2.1 w.1 w.2.1 0 rfl rfl 14 (by decide) (S.2.2.2.2 _ wf_X1_gone) (fun _ h => h) rfl hdg kk
theorem yyg_orderOf (S : CallFix p m c cc nL s args tw_wall RX1) (w : TWY D cI cZ x ad st A H0 H locs s) (hdg : decode cc pc = .ok (.getfield 54, 3)) (kk : W p l e R s m args below meth c H locs cells slots Q (F0 m (pc + 3) ls (.int (nI (st 13 2) - 1) :: rest))) : W p l e R s m args below meth c H locs cells slots Q (F0 m pc ls (.ref x :: rest)) :=
  va_get (D := D) (ci := 1) (C := RX1) (T := TX1) (N := 17) S.1 S.2.1 S.2.2.2.2 inX1 S.2.2.2.1 w.1 w.2.1 0 rfl rfl 15 (by decide) (S.2.2.2.2 _ wf_X1_orderOf) (fun _ h => h) rfl hdg kk
theorem yyg_long_ (S : CallFix p m c cc nL s args tw_wall RX1) (w : TWY D cI cZ x ad st A H0 H locs s) (hdg : decode cc pc = .ok (.getfield 60, 3)) (kk : W p l e R s m args below meth c H locs cells slots Q (F0 m (pc + 3) ls (.int (nI (st 13 3)) :: rest))) : W p l e R s m args below meth c H locs cells slots Q (F0 m pc ls (.ref x :: rest)) :=
  va_get (D := D) (ci := 1) (C := RX1) (T := TX1) (N := 17) S.1 S.2.1 S.2.2.2.2 inX1 S.2.2.2.1 w.1 w.2.1 0 rfl rfl 16 (by decide) (S.2.2.2.2 _ wf_X1_long_) (fun _ h => h) rfl hdg kk
theorem yyp_thrown (S : CallFix p m c cc nL s args tw_wall RX1) (w : TWY D cI cZ x ad st A H0 H locs s) {v : Nat} (hdg : decode cc pc = .ok (.putfield 57, 3)) (kk : ∀ (H1 : Heap) (locs1 : List Loc), TWY D cI cZ x ad (tw_up st 13 0 v) A H0 H1 locs1 s → W p l e R s m args below meth c H1 locs1 cells slots Q (F0 m (pc + 3) ls rest)) : W p l e R s m args below meth c H locs cells slots Q (F0 m pc ls (.int (nI (v)) :: .ref x :: rest)) :=
  va_put (D := D) (ci := 1) (ty := .int) (C := RX1) (T := TX1) (N := 17) S.1 S.2.1 S.2.2.2.2 inX1 tyX1 tyX1_ok nmX1 S.2.2.2.1 w.1 w.2.1 w.2.2.1 w.2.2.2 0 rfl rfl 0 (by decide) (S.2.2.2.2 _ wf_X1_thrown) (fun _ h => h) rfl (by decide +kernel) rfl rfl (Nat.le_of_ble_eq_true rfl) hdg (fun H1 l1 hP hD hS => kk H1 l1 ⟨w.1, hP, hD, hS⟩)
theorem yyp_letters (S : CallFix p m c cc nL s args tw_wall RX1) (w : TWY D cI cZ x ad st A H0 H locs s) {v : Nat} (hdg : decode cc pc = .ok (.putfield 31, 3)) (kk : ∀ (H1 : Heap) (locs1 : List Loc), TWY D cI cZ x ad (tw_up st 13 1 v) A H0 H1 locs1 s → W p l e R s m args below meth c H1 locs1 cells slots Q (F0 m (pc + 3) ls rest)) : W p l e R s m args below meth c H locs cells slots Q (F0 m pc ls (.int (nI (v)) :: .ref x :: rest)) :=
  va_put (D := D) (ci := 1) (ty := .int) (C := RX1) (T := TX1) (N := 17) S.1 S.2.1 S.2.2.2.2 inX1 tyX1 tyX1_ok nmX1 S.2.2.2.1 w.1 w.2.1 w.2.2.1 w.2.2.2 0 rfl rfl 8 (by decide) (S.2.2.2.2 _ wf_X1_letters) (fun _ h => h) rfl (by decide +kernel) rfl rfl (Nat.le_of_ble_eq_true rfl) hdg (fun H1 l1 hP hD hS => kk H1 l1 ⟨w.1, hP, hD, hS⟩)
theorem yyp_orderOf (S : CallFix p m c cc nL s args tw_wall RX1) (w : TWY D cI cZ x ad st A H0 H locs s) {v : Nat} (hdg : decode cc pc = .ok (.putfield 54, 3)) (kk : ∀ (H1 : Heap) (locs1 : List Loc), TWY D cI cZ x ad (tw_up st 13 2 v) A H0 H1 locs1 s → W p l e R s m args below meth c H1 locs1 cells slots Q (F0 m (pc + 3) ls rest)) : W p l e R s m args below meth c H locs cells slots Q (F0 m pc ls (.int (nI (v) - 1) :: .ref x :: rest)) :=
  va_put (D := D) (ci := 1) (ty := .int) (C := RX1) (T := TX1) (N := 17) S.1 S.2.1 S.2.2.2.2 inX1 tyX1 tyX1_ok nmX1 S.2.2.2.1 w.1 w.2.1 w.2.2.1 w.2.2.2 0 rfl rfl 15 (by decide) (S.2.2.2.2 _ wf_X1_orderOf) (fun _ h => h) rfl (by decide +kernel) rfl rfl (Nat.le_of_ble_eq_true rfl) hdg (fun H1 l1 hP hD hS => kk H1 l1 ⟨w.1, hP, hD, hS⟩)
theorem yyp_long_ (S : CallFix p m c cc nL s args tw_wall RX1) (w : TWY D cI cZ x ad st A H0 H locs s) {v : Nat} (hdg : decode cc pc = .ok (.putfield 60, 3)) (kk : ∀ (H1 : Heap) (locs1 : List Loc), TWY D cI cZ x ad (tw_up st 13 3 v) A H0 H1 locs1 s → W p l e R s m args below meth c H1 locs1 cells slots Q (F0 m (pc + 3) ls rest)) : W p l e R s m args below meth c H locs cells slots Q (F0 m pc ls (.int (nI (v)) :: .ref x :: rest)) :=
  va_put (D := D) (ci := 1) (ty := .int) (C := RX1) (T := TX1) (N := 17) S.1 S.2.1 S.2.2.2.2 inX1 tyX1 tyX1_ok nmX1 S.2.2.2.1 w.1 w.2.1 w.2.2.1 w.2.2.2 0 rfl rfl 16 (by decide) (S.2.2.2.2 _ wf_X1_long_) (fun _ h => h) rfl (by decide +kernel) rfl rfl (Nat.le_of_ble_eq_true rfl) hdg (fun H1 l1 hP hD hS => kk H1 l1 ⟨w.1, hP, hD, hS⟩)
theorem yyl_0 (S : CallFix p m c cc nL s args tw_wall RX1) (w : TWY D cI cZ x ad st A H0 H locs s) {i : Nat} (hi : i < 1601) (hdg : decode cc pc = .ok (.iaload, 1)) (kk : W p l e R s m args below meth c H locs cells slots Q (F0 m (pc + 1) ls (.int (nI (st 0 i)) :: rest))) : W p l e R s m args below meth c H locs cells slots Q (F0 m pc ls (.int (nI i) :: .ref (ad 0) :: rest)) := by
  refine va_iald S.1 S.2.1 w.1 w.2.1 1 0 rfl rfl (vp_in_nI hi (by decide)) hdg ?_
  rw [nI_clamp (by omega)]
  exact kk
theorem yye_0 {i v : Nat} (hi : i < 1601) : (tw_y cI cZ x ad st).set 1 (ad 0, .inl (cI, 1601, .inl (upd (fun i => nI (st 0 i)) (nI i).toNatClampNeg (nI (v))))) = tw_y cI cZ x ad (tw_up st 0 i v) := by
  have h : upd (fun i => nI (st 0 i)) (nI i).toNatClampNeg (nI (v)) = (fun j => nI (tw_up st 0 i v 0 j)) := by
    rw [nI_clamp (by omega)]
    funext j
    by_cases g : j = i
    · rw [g, tw_up_e]; simp [upd]
    · rw [tw_up_i g]; simp [upd, g]
  rw [h]
  rfl
theorem yys_0 (S : CallFix p m c cc nL s args tw_wall RX1) (w : TWY D cI cZ x ad st A H0 H locs s) {i v : Nat} (hi : i < 1601) (hdg : decode cc pc = .ok (.iastore, 1)) (kk : ∀ (H1 : Heap) (locs1 : List Loc), TWY D cI cZ x ad (tw_up st 0 i v) A H0 H1 locs1 s → W p l e R s m args below meth c H1 locs1 cells slots Q (F0 m (pc + 1) ls rest)) : W p l e R s m args below meth c H locs cells slots Q (F0 m pc ls (.int (nI (v)) :: .int (nI i) :: .ref (ad 0) :: rest)) := by
  refine va_iast S.1 S.2.1 w.1 w.2.1 w.2.2.1 w.2.2.2 1 0 rfl rfl (vp_in_nI hi (by decide)) hdg (fun H1 l1 hP hD hS => ?_)
  rw [yye_0 hi] at hP hD
  exact kk H1 l1 ⟨w.1, hP, hD, hS⟩
theorem yyl_1 (S : CallFix p m c cc nL s args tw_wall RX1) (w : TWY D cI cZ x ad st A H0 H locs s) {i : Nat} (hi : i < 1601) (hdg : decode cc pc = .ok (.iaload, 1)) (kk : W p l e R s m args below meth c H locs cells slots Q (F0 m (pc + 1) ls (.int (nI (st 1 i)) :: rest))) : W p l e R s m args below meth c H locs cells slots Q (F0 m pc ls (.int (nI i) :: .ref (ad 1) :: rest)) := by
  refine va_iald S.1 S.2.1 w.1 w.2.1 2 0 rfl rfl (vp_in_nI hi (by decide)) hdg ?_
  rw [nI_clamp (by omega)]
  exact kk
theorem yye_1 {i v : Nat} (hi : i < 1601) : (tw_y cI cZ x ad st).set 2 (ad 1, .inl (cI, 1601, .inl (upd (fun i => nI (st 1 i)) (nI i).toNatClampNeg (nI (v))))) = tw_y cI cZ x ad (tw_up st 1 i v) := by
  have h : upd (fun i => nI (st 1 i)) (nI i).toNatClampNeg (nI (v)) = (fun j => nI (tw_up st 1 i v 1 j)) := by
    rw [nI_clamp (by omega)]
    funext j
    by_cases g : j = i
    · rw [g, tw_up_e]; simp [upd]
    · rw [tw_up_i g]; simp [upd, g]
  rw [h]
  rfl
theorem yys_1 (S : CallFix p m c cc nL s args tw_wall RX1) (w : TWY D cI cZ x ad st A H0 H locs s) {i v : Nat} (hi : i < 1601) (hdg : decode cc pc = .ok (.iastore, 1)) (kk : ∀ (H1 : Heap) (locs1 : List Loc), TWY D cI cZ x ad (tw_up st 1 i v) A H0 H1 locs1 s → W p l e R s m args below meth c H1 locs1 cells slots Q (F0 m (pc + 1) ls rest)) : W p l e R s m args below meth c H locs cells slots Q (F0 m pc ls (.int (nI (v)) :: .int (nI i) :: .ref (ad 1) :: rest)) := by
  refine va_iast S.1 S.2.1 w.1 w.2.1 w.2.2.1 w.2.2.2 2 0 rfl rfl (vp_in_nI hi (by decide)) hdg (fun H1 l1 hP hD hS => ?_)
  rw [yye_1 hi] at hP hD
  exact kk H1 l1 ⟨w.1, hP, hD, hS⟩
theorem yyl_2 (S : CallFix p m c cc nL s args tw_wall RX1) (w : TWY D cI cZ x ad st A H0 H locs s) {i : Nat} (hi : i < 1601) (hdg : decode cc pc = .ok (.iaload, 1)) (kk : W p l e R s m args below meth c H locs cells slots Q (F0 m (pc + 1) ls (.int (nI (st 2 i)) :: rest))) : W p l e R s m args below meth c H locs cells slots Q (F0 m pc ls (.int (nI i) :: .ref (ad 2) :: rest)) := by
  refine va_iald S.1 S.2.1 w.1 w.2.1 3 0 rfl rfl (vp_in_nI hi (by decide)) hdg ?_
  rw [nI_clamp (by omega)]
  exact kk
theorem yye_2 {i v : Nat} (hi : i < 1601) : (tw_y cI cZ x ad st).set 3 (ad 2, .inl (cI, 1601, .inl (upd (fun i => nI (st 2 i)) (nI i).toNatClampNeg (nI (v))))) = tw_y cI cZ x ad (tw_up st 2 i v) := by
  have h : upd (fun i => nI (st 2 i)) (nI i).toNatClampNeg (nI (v)) = (fun j => nI (tw_up st 2 i v 2 j)) := by
    rw [nI_clamp (by omega)]
    funext j
    by_cases g : j = i
    · rw [g, tw_up_e]; simp [upd]
    · rw [tw_up_i g]; simp [upd, g]
  rw [h]
  rfl
theorem yys_2 (S : CallFix p m c cc nL s args tw_wall RX1) (w : TWY D cI cZ x ad st A H0 H locs s) {i v : Nat} (hi : i < 1601) (hdg : decode cc pc = .ok (.iastore, 1)) (kk : ∀ (H1 : Heap) (locs1 : List Loc), TWY D cI cZ x ad (tw_up st 2 i v) A H0 H1 locs1 s → W p l e R s m args below meth c H1 locs1 cells slots Q (F0 m (pc + 1) ls rest)) : W p l e R s m args below meth c H locs cells slots Q (F0 m pc ls (.int (nI (v)) :: .int (nI i) :: .ref (ad 2) :: rest)) := by
  refine va_iast S.1 S.2.1 w.1 w.2.1 w.2.2.1 w.2.2.2 3 0 rfl rfl (vp_in_nI hi (by decide)) hdg (fun H1 l1 hP hD hS => ?_)
  rw [yye_2 hi] at hP hD
  exact kk H1 l1 ⟨w.1, hP, hD, hS⟩
theorem yyl_3 (S : CallFix p m c cc nL s args tw_wall RX1) (w : TWY D cI cZ x ad st A H0 H locs s) {i : Nat} (hi : i < 1601) (hdg : decode cc pc = .ok (.iaload, 1)) (kk : W p l e R s m args below meth c H locs cells slots Q (F0 m (pc + 1) ls (.int (nI (st 3 i)) :: rest))) : W p l e R s m args below meth c H locs cells slots Q (F0 m pc ls (.int (nI i) :: .ref (ad 3) :: rest)) := by
  refine va_iald S.1 S.2.1 w.1 w.2.1 4 0 rfl rfl (vp_in_nI hi (by decide)) hdg ?_
  rw [nI_clamp (by omega)]
  exact kk
theorem yye_3 {i v : Nat} (hi : i < 1601) : (tw_y cI cZ x ad st).set 4 (ad 3, .inl (cI, 1601, .inl (upd (fun i => nI (st 3 i)) (nI i).toNatClampNeg (nI (v))))) = tw_y cI cZ x ad (tw_up st 3 i v) := by
  have h : upd (fun i => nI (st 3 i)) (nI i).toNatClampNeg (nI (v)) = (fun j => nI (tw_up st 3 i v 3 j)) := by
    rw [nI_clamp (by omega)]
    funext j
    by_cases g : j = i
    · rw [g, tw_up_e]; simp [upd]
    · rw [tw_up_i g]; simp [upd, g]
  rw [h]
  rfl
theorem yys_3 (S : CallFix p m c cc nL s args tw_wall RX1) (w : TWY D cI cZ x ad st A H0 H locs s) {i v : Nat} (hi : i < 1601) (hdg : decode cc pc = .ok (.iastore, 1)) (kk : ∀ (H1 : Heap) (locs1 : List Loc), TWY D cI cZ x ad (tw_up st 3 i v) A H0 H1 locs1 s → W p l e R s m args below meth c H1 locs1 cells slots Q (F0 m (pc + 1) ls rest)) : W p l e R s m args below meth c H locs cells slots Q (F0 m pc ls (.int (nI (v)) :: .int (nI i) :: .ref (ad 3) :: rest)) := by
  refine va_iast S.1 S.2.1 w.1 w.2.1 w.2.2.1 w.2.2.2 4 0 rfl rfl (vp_in_nI hi (by decide)) hdg (fun H1 l1 hP hD hS => ?_)
  rw [yye_3 hi] at hP hD
  exact kk H1 l1 ⟨w.1, hP, hD, hS⟩
theorem yyl_4 (S : CallFix p m c cc nL s args tw_wall RX1) (w : TWY D cI cZ x ad st A H0 H locs s) {i : Nat} (hi : i < 1601) (hdg : decode cc pc = .ok (.iaload, 1)) (kk : W p l e R s m args below meth c H locs cells slots Q (F0 m (pc + 1) ls (.int (nI (st 4 i)) :: rest))) : W p l e R s m args below meth c H locs cells slots Q (F0 m pc ls (.int (nI i) :: .ref (ad 4) :: rest)) := by
  refine va_iald S.1 S.2.1 w.1 w.2.1 5 0 rfl rfl (vp_in_nI hi (by decide)) hdg ?_
  rw [nI_clamp (by omega)]
  exact kk
theorem yye_4 {i v : Nat} (hi : i < 1601) : (tw_y cI cZ x ad st).set 5 (ad 4, .inl (cI, 1601, .inl (upd (fun i => nI (st 4 i)) (nI i).toNatClampNeg (nI (v))))) = tw_y cI cZ x ad (tw_up st 4 i v) := by
  have h : upd (fun i => nI (st 4 i)) (nI i).toNatClampNeg (nI (v)) = (fun j => nI (tw_up st 4 i v 4 j)) := by
    rw [nI_clamp (by omega)]
    funext j
    by_cases g : j = i
    · rw [g, tw_up_e]; simp [upd]
    · rw [tw_up_i g]; simp [upd, g]
  rw [h]
  rfl
theorem yys_4 (S : CallFix p m c cc nL s args tw_wall RX1) (w : TWY D cI cZ x ad st A H0 H locs s) {i v : Nat} (hi : i < 1601) (hdg : decode cc pc = .ok (.iastore, 1)) (kk : ∀ (H1 : Heap) (locs1 : List Loc), TWY D cI cZ x ad (tw_up st 4 i v) A H0 H1 locs1 s → W p l e R s m args below meth c H1 locs1 cells slots Q (F0 m (pc + 1) ls rest)) : W p l e R s m args below meth c H locs cells slots Q (F0 m pc ls (.int (nI (v)) :: .int (nI i) :: .ref (ad 4) :: rest)) := by
  refine va_iast S.1 S.2.1 w.1 w.2.1 w.2.2.1 w.2.2.2 5 0 rfl rfl (vp_in_nI hi (by decide)) hdg (fun H1 l1 hP hD hS => ?_)
  rw [yye_4 hi] at hP hD
  exact kk H1 l1 ⟨w.1, hP, hD, hS⟩
theorem yyl_5 (S : CallFix p m c cc nL s args tw_wall RX1) (w : TWY D cI cZ x ad st A H0 H locs s) {i : Nat} (hi : i < 1601) (hdg : decode cc pc = .ok (.iaload, 1)) (kk : W p l e R s m args below meth c H locs cells slots Q (F0 m (pc + 1) ls (.int (nI (st 5 i)) :: rest))) : W p l e R s m args below meth c H locs cells slots Q (F0 m pc ls (.int (nI i) :: .ref (ad 5) :: rest)) := by
  refine va_iald S.1 S.2.1 w.1 w.2.1 6 0 rfl rfl (vp_in_nI hi (by decide)) hdg ?_
  rw [nI_clamp (by omega)]
  exact kk
theorem yye_5 {i v : Nat} (hi : i < 1601) : (tw_y cI cZ x ad st).set 6 (ad 5, .inl (cI, 1601, .inl (upd (fun i => nI (st 5 i)) (nI i).toNatClampNeg (nI (v))))) = tw_y cI cZ x ad (tw_up st 5 i v) := by
  have h : upd (fun i => nI (st 5 i)) (nI i).toNatClampNeg (nI (v)) = (fun j => nI (tw_up st 5 i v 5 j)) := by
    rw [nI_clamp (by omega)]
    funext j
    by_cases g : j = i
    · rw [g, tw_up_e]; simp [upd]
    · rw [tw_up_i g]; simp [upd, g]
  rw [h]
  rfl
theorem yys_5 (S : CallFix p m c cc nL s args tw_wall RX1) (w : TWY D cI cZ x ad st A H0 H locs s) {i v : Nat} (hi : i < 1601) (hdg : decode cc pc = .ok (.iastore, 1)) (kk : ∀ (H1 : Heap) (locs1 : List Loc), TWY D cI cZ x ad (tw_up st 5 i v) A H0 H1 locs1 s → W p l e R s m args below meth c H1 locs1 cells slots Q (F0 m (pc + 1) ls rest)) : W p l e R s m args below meth c H locs cells slots Q (F0 m pc ls (.int (nI (v)) :: .int (nI i) :: .ref (ad 5) :: rest)) := by
  refine va_iast S.1 S.2.1 w.1 w.2.1 w.2.2.1 w.2.2.2 6 0 rfl rfl (vp_in_nI hi (by decide)) hdg (fun H1 l1 hP hD hS => ?_)
  rw [yye_5 hi] at hP hD
  exact kk H1 l1 ⟨w.1, hP, hD, hS⟩
theorem yyl_6 (S : CallFix p m c cc nL s args tw_wall RX1) (w : TWY D cI cZ x ad st A H0 H locs s) {i : Nat} (hi : i < 1601) (hdg : decode cc pc = .ok (.iaload, 1)) (kk : W p l e R s m args below meth c H locs cells slots Q (F0 m (pc + 1) ls (.int (nI (st 6 i)) :: rest))) : W p l e R s m args below meth c H locs cells slots Q (F0 m pc ls (.int (nI i) :: .ref (ad 6) :: rest)) := by
  refine va_iald S.1 S.2.1 w.1 w.2.1 7 0 rfl rfl (vp_in_nI hi (by decide)) hdg ?_
  rw [nI_clamp (by omega)]
  exact kk
theorem yye_6 {i v : Nat} (hi : i < 1601) : (tw_y cI cZ x ad st).set 7 (ad 6, .inl (cI, 1601, .inl (upd (fun i => nI (st 6 i)) (nI i).toNatClampNeg (nI (v))))) = tw_y cI cZ x ad (tw_up st 6 i v) := by
  have h : upd (fun i => nI (st 6 i)) (nI i).toNatClampNeg (nI (v)) = (fun j => nI (tw_up st 6 i v 6 j)) := by
    rw [nI_clamp (by omega)]
    funext j
    by_cases g : j = i
    · rw [g, tw_up_e]; simp [upd]
    · rw [tw_up_i g]; simp [upd, g]
  rw [h]
  rfl
theorem yys_6 (S : CallFix p m c cc nL s args tw_wall RX1) (w : TWY D cI cZ x ad st A H0 H locs s) {i v : Nat} (hi : i < 1601) (hdg : decode cc pc = .ok (.iastore, 1)) (kk : ∀ (H1 : Heap) (locs1 : List Loc), TWY D cI cZ x ad (tw_up st 6 i v) A H0 H1 locs1 s → W p l e R s m args below meth c H1 locs1 cells slots Q (F0 m (pc + 1) ls rest)) : W p l e R s m args below meth c H locs cells slots Q (F0 m pc ls (.int (nI (v)) :: .int (nI i) :: .ref (ad 6) :: rest)) := by
  refine va_iast S.1 S.2.1 w.1 w.2.1 w.2.2.1 w.2.2.2 7 0 rfl rfl (vp_in_nI hi (by decide)) hdg (fun H1 l1 hP hD hS => ?_)
  rw [yye_6 hi] at hP hD
  exact kk H1 l1 ⟨w.1, hP, hD, hS⟩
theorem yyl_7 (S : CallFix p m c cc nL s args tw_wall RX1) (w : TWY D cI cZ x ad st A H0 H locs s) {i : Nat} (hi : i < 1600) (hdg : decode cc pc = .ok (.iaload, 1)) (kk : W p l e R s m args below meth c H locs cells slots Q (F0 m (pc + 1) ls (.int (tw_wh (st 7 i)) :: rest))) : W p l e R s m args below meth c H locs cells slots Q (F0 m pc ls (.int (nI i) :: .ref (ad 7) :: rest)) := by
  refine va_iald S.1 S.2.1 w.1 w.2.1 8 0 rfl rfl (vp_in_nI hi (by decide)) hdg ?_
  rw [nI_clamp (by omega)]
  exact kk
theorem yye_7 {i v : Nat} (hi : i < 1600) : (tw_y cI cZ x ad st).set 8 (ad 7, .inl (cI, 1600, .inl (upd (fun i => tw_wh (st 7 i)) (nI i).toNatClampNeg (tw_wh (v))))) = tw_y cI cZ x ad (tw_up st 7 i v) := by
  have h : upd (fun i => tw_wh (st 7 i)) (nI i).toNatClampNeg (tw_wh (v)) = (fun j => tw_wh (tw_up st 7 i v 7 j)) := by
    rw [nI_clamp (by omega)]
    funext j
    by_cases g : j = i
    · rw [g, tw_up_e]; simp [upd]
    · rw [tw_up_i g]; simp [upd, g]
  rw [h]
  rfl
theorem yys_7 (S : CallFix p m c cc nL s args tw_wall RX1) (w : TWY D cI cZ x ad st A H0 H locs s) {i v : Nat} (hi : i < 1600) (hdg : decode cc pc = .ok (.iastore, 1)) (kk : ∀ (H1 : Heap) (locs1 : List Loc), TWY D cI cZ x ad (tw_up st 7 i v) A H0 H1 locs1 s → W p l e R s m args below meth c H1 locs1 cells slots Q (F0 m (pc + 1) ls rest)) : W p l e R s m args below meth c H locs cells slots Q (F0 m pc ls (.int (tw_wh (v)) :: .int (nI i) :: .ref (ad 7) :: rest)) := by
  refine va_iast S.1 S.2.1 w.1 w.2.1 w.2.2.1 w.2.2.2 8 0 rfl rfl (vp_in_nI hi (by decide)) hdg (fun H1 l1 hP hD hS => ?_)
  rw [yye_7 hi] at hP hD
  exact kk H1 l1 ⟨w.1, hP, hD, hS⟩
theorem yyl_8 (S : CallFix p m c cc nL s args tw_wall RX1) (w : TWY D cI cZ x ad st A H0 H locs s) {i : Nat} (hi : i < 6400) (hdg : decode cc pc = .ok (.iaload, 1)) (kk : W p l e R s m args below meth c H locs cells slots Q (F0 m (pc + 1) ls (.int (nI (st 8 i)) :: rest))) : W p l e R s m args below meth c H locs cells slots Q (F0 m pc ls (.int (nI i) :: .ref (ad 8) :: rest)) := by
  refine va_iald S.1 S.2.1 w.1 w.2.1 9 0 rfl rfl (vp_in_nI hi (by decide)) hdg ?_
  rw [nI_clamp (by omega)]
  exact kk
theorem yye_8 {i v : Nat} (hi : i < 6400) : (tw_y cI cZ x ad st).set 9 (ad 8, .inl (cI, 6400, .inl (upd (fun i => nI (st 8 i)) (nI i).toNatClampNeg (nI (v))))) = tw_y cI cZ x ad (tw_up st 8 i v) := by
  have h : upd (fun i => nI (st 8 i)) (nI i).toNatClampNeg (nI (v)) = (fun j => nI (tw_up st 8 i v 8 j)) := by
    rw [nI_clamp (by omega)]
    funext j
    by_cases g : j = i
    · rw [g, tw_up_e]; simp [upd]
    · rw [tw_up_i g]; simp [upd, g]
  rw [h]
  rfl
theorem yys_8 (S : CallFix p m c cc nL s args tw_wall RX1) (w : TWY D cI cZ x ad st A H0 H locs s) {i v : Nat} (hi : i < 6400) (hdg : decode cc pc = .ok (.iastore, 1)) (kk : ∀ (H1 : Heap) (locs1 : List Loc), TWY D cI cZ x ad (tw_up st 8 i v) A H0 H1 locs1 s → W p l e R s m args below meth c H1 locs1 cells slots Q (F0 m (pc + 1) ls rest)) : W p l e R s m args below meth c H locs cells slots Q (F0 m pc ls (.int (nI (v)) :: .int (nI i) :: .ref (ad 8) :: rest)) := by
  refine va_iast S.1 S.2.1 w.1 w.2.1 w.2.2.1 w.2.2.2 9 0 rfl rfl (vp_in_nI hi (by decide)) hdg (fun H1 l1 hP hD hS => ?_)
  rw [yye_8 hi] at hP hD
  exact kk H1 l1 ⟨w.1, hP, hD, hS⟩
theorem yyl_9 (S : CallFix p m c cc nL s args tw_wall RX1) (w : TWY D cI cZ x ad st A H0 H locs s) {i : Nat} (hi : i < 4) (hdg : decode cc pc = .ok (.iaload, 1)) (kk : W p l e R s m args below meth c H locs cells slots Q (F0 m (pc + 1) ls (.int (nI (st 9 i)) :: rest))) : W p l e R s m args below meth c H locs cells slots Q (F0 m pc ls (.int (nI i) :: .ref (ad 9) :: rest)) := by
  refine va_iald S.1 S.2.1 w.1 w.2.1 10 0 rfl rfl (vp_in_nI hi (by decide)) hdg ?_
  rw [nI_clamp (by omega)]
  exact kk
theorem yye_9 {i v : Nat} (hi : i < 4) : (tw_y cI cZ x ad st).set 10 (ad 9, .inl (cI, 4, .inl (upd (fun i => nI (st 9 i)) (nI i).toNatClampNeg (nI (v))))) = tw_y cI cZ x ad (tw_up st 9 i v) := by
  have h : upd (fun i => nI (st 9 i)) (nI i).toNatClampNeg (nI (v)) = (fun j => nI (tw_up st 9 i v 9 j)) := by
    rw [nI_clamp (by omega)]
    funext j
    by_cases g : j = i
    · rw [g, tw_up_e]; simp [upd]
    · rw [tw_up_i g]; simp [upd, g]
  rw [h]
  rfl
theorem yys_9 (S : CallFix p m c cc nL s args tw_wall RX1) (w : TWY D cI cZ x ad st A H0 H locs s) {i v : Nat} (hi : i < 4) (hdg : decode cc pc = .ok (.iastore, 1)) (kk : ∀ (H1 : Heap) (locs1 : List Loc), TWY D cI cZ x ad (tw_up st 9 i v) A H0 H1 locs1 s → W p l e R s m args below meth c H1 locs1 cells slots Q (F0 m (pc + 1) ls rest)) : W p l e R s m args below meth c H locs cells slots Q (F0 m pc ls (.int (nI (v)) :: .int (nI i) :: .ref (ad 9) :: rest)) := by
  refine va_iast S.1 S.2.1 w.1 w.2.1 w.2.2.1 w.2.2.2 10 0 rfl rfl (vp_in_nI hi (by decide)) hdg (fun H1 l1 hP hD hS => ?_)
  rw [yye_9 hi] at hP hD
  exact kk H1 l1 ⟨w.1, hP, hD, hS⟩
theorem yyl_10 (S : CallFix p m c cc nL s args tw_wall RX1) (w : TWY D cI cZ x ad st A H0 H locs s) {i : Nat} (hi : i < 16) (hdg : decode cc pc = .ok (.iaload, 1)) (kk : W p l e R s m args below meth c H locs cells slots Q (F0 m (pc + 1) ls (.int (nI (st 10 i)) :: rest))) : W p l e R s m args below meth c H locs cells slots Q (F0 m pc ls (.int (nI i) :: .ref (ad 10) :: rest)) := by
  refine va_iald S.1 S.2.1 w.1 w.2.1 11 0 rfl rfl (vp_in_nI hi (by decide)) hdg ?_
  rw [nI_clamp (by omega)]
  exact kk
theorem yye_10 {i v : Nat} (hi : i < 16) : (tw_y cI cZ x ad st).set 11 (ad 10, .inl (cI, 16, .inl (upd (fun i => nI (st 10 i)) (nI i).toNatClampNeg (nI (v))))) = tw_y cI cZ x ad (tw_up st 10 i v) := by
  have h : upd (fun i => nI (st 10 i)) (nI i).toNatClampNeg (nI (v)) = (fun j => nI (tw_up st 10 i v 10 j)) := by
    rw [nI_clamp (by omega)]
    funext j
    by_cases g : j = i
    · rw [g, tw_up_e]; simp [upd]
    · rw [tw_up_i g]; simp [upd, g]
  rw [h]
  rfl
theorem yys_10 (S : CallFix p m c cc nL s args tw_wall RX1) (w : TWY D cI cZ x ad st A H0 H locs s) {i v : Nat} (hi : i < 16) (hdg : decode cc pc = .ok (.iastore, 1)) (kk : ∀ (H1 : Heap) (locs1 : List Loc), TWY D cI cZ x ad (tw_up st 10 i v) A H0 H1 locs1 s → W p l e R s m args below meth c H1 locs1 cells slots Q (F0 m (pc + 1) ls rest)) : W p l e R s m args below meth c H locs cells slots Q (F0 m pc ls (.int (nI (v)) :: .int (nI i) :: .ref (ad 10) :: rest)) := by
  refine va_iast S.1 S.2.1 w.1 w.2.1 w.2.2.1 w.2.2.2 11 0 rfl rfl (vp_in_nI hi (by decide)) hdg (fun H1 l1 hP hD hS => ?_)
  rw [yye_10 hi] at hP hD
  exact kk H1 l1 ⟨w.1, hP, hD, hS⟩
theorem yyl_11 (S : CallFix p m c cc nL s args tw_wall RX1) (w : TWY D cI cZ x ad st A H0 H locs s) {i : Nat} (hi : i < 1601) (hdg : decode cc pc = .ok (.iaload, 1)) (kk : W p l e R s m args below meth c H locs cells slots Q (F0 m (pc + 1) ls (.int (nI (st 11 i)) :: rest))) : W p l e R s m args below meth c H locs cells slots Q (F0 m pc ls (.int (nI i) :: .ref (ad 11) :: rest)) := by
  refine va_iald S.1 S.2.1 w.1 w.2.1 12 0 rfl rfl (vp_in_nI hi (by decide)) hdg ?_
  rw [nI_clamp (by omega)]
  exact kk
theorem yye_11 {i v : Nat} (hi : i < 1601) : (tw_y cI cZ x ad st).set 12 (ad 11, .inl (cI, 1601, .inl (upd (fun i => nI (st 11 i)) (nI i).toNatClampNeg (nI (v))))) = tw_y cI cZ x ad (tw_up st 11 i v) := by
  have h : upd (fun i => nI (st 11 i)) (nI i).toNatClampNeg (nI (v)) = (fun j => nI (tw_up st 11 i v 11 j)) := by
    rw [nI_clamp (by omega)]
    funext j
    by_cases g : j = i
    · rw [g, tw_up_e]; simp [upd]
    · rw [tw_up_i g]; simp [upd, g]
  rw [h]
  rfl
theorem yys_11 (S : CallFix p m c cc nL s args tw_wall RX1) (w : TWY D cI cZ x ad st A H0 H locs s) {i v : Nat} (hi : i < 1601) (hdg : decode cc pc = .ok (.iastore, 1)) (kk : ∀ (H1 : Heap) (locs1 : List Loc), TWY D cI cZ x ad (tw_up st 11 i v) A H0 H1 locs1 s → W p l e R s m args below meth c H1 locs1 cells slots Q (F0 m (pc + 1) ls rest)) : W p l e R s m args below meth c H locs cells slots Q (F0 m pc ls (.int (nI (v)) :: .int (nI i) :: .ref (ad 11) :: rest)) := by
  refine va_iast S.1 S.2.1 w.1 w.2.1 w.2.2.1 w.2.2.2 12 0 rfl rfl (vp_in_nI hi (by decide)) hdg (fun H1 l1 hP hD hS => ?_)
  rw [yye_11 hi] at hP hD
  exact kk H1 l1 ⟨w.1, hP, hD, hS⟩
theorem yyl_12 (S : CallFix p m c cc nL s args tw_wall RX1) (w : TWY D cI cZ x ad st A H0 H locs s) {i : Nat} (hi : i < 1601) (hdg : decode cc pc = .ok (.baload, 1)) (kk : W p l e R s m args below meth c H locs cells slots Q (F0 m (pc + 1) ls (.int (nI (st 12 i)) :: rest))) : W p l e R s m args below meth c H locs cells slots Q (F0 m pc ls (.int (nI i) :: .ref (ad 12) :: rest)) := by
  refine va_zald S.1 S.2.1 w.1 w.2.1 13 1 rfl rfl (vp_in_nI hi (by decide)) hdg ?_
  rw [nI_clamp (by omega)]
  exact kk
theorem yye_12 {i v : Nat} (hi : i < 1601) (hv : v < 2) : (tw_y cI cZ x ad st).set 13 (ad 12, .inl (cZ, 1601, .inl (upd (fun i => nI (st 12 i)) (nI i).toNatClampNeg (vp_nar .boolean (nI (v)))))) = tw_y cI cZ x ad (tw_up st 12 i v) := by
  have h : upd (fun i => nI (st 12 i)) (nI i).toNatClampNeg (vp_nar .boolean (nI (v))) = (fun j => nI (tw_up st 12 i v 12 j)) := by
    have hb : vp_nar .boolean (nI (v)) = nI (v) := by
      rcases (show v = 0 ∨ v = 1 by omega) with rfl | rfl <;> decide +kernel
    rw [nI_clamp (by omega), hb]
    funext j
    by_cases g : j = i
    · rw [g, tw_up_e]; simp [upd]
    · rw [tw_up_i g]; simp [upd, g]
  rw [h]
  rfl
theorem yys_12 (S : CallFix p m c cc nL s args tw_wall RX1) (w : TWY D cI cZ x ad st A H0 H locs s) {i v : Nat} (hi : i < 1601) (hv : v < 2) (hdg : decode cc pc = .ok (.bastore, 1)) (kk : ∀ (H1 : Heap) (locs1 : List Loc), TWY D cI cZ x ad (tw_up st 12 i v) A H0 H1 locs1 s → W p l e R s m args below meth c H1 locs1 cells slots Q (F0 m (pc + 1) ls rest)) : W p l e R s m args below meth c H locs cells slots Q (F0 m pc ls (.int (nI (v)) :: .int (nI i) :: .ref (ad 12) :: rest)) := by
  refine va_zast S.1 S.2.1 w.1 w.2.1 w.2.2.1 w.2.2.2 13 1 rfl rfl (vp_in_nI hi (by decide)) hdg (fun H1 l1 hP hD hS => ?_)
  rw [yye_12 hi hv] at hP hD
  exact kk H1 l1 ⟨w.1, hP, hD, hS⟩
/-- nothing old has changed -/
theorem TWY.kept {H1 : Heap} {l1 : List Loc} (w : TWY D cI cZ x ad st A H0 H locs s) (hk : ∀ q : Nat, q < H.size → H1[q]? = H[q]?) (hS : va_S A H0 H1 l1) : TWY D cI cZ x ad st A H0 H1 l1 s :=
  ⟨w.1, w.2.1.kept (fun k q hq => hk q.1 ((w.2.1 k q hq).lt)), w.2.2.1, hS⟩
theorem TWY.set {st' : Nat → Nat → Nat} (w : TWY D cI cZ x ad st A H0 H locs s) (h : tw_y cI cZ x ad st = tw_y cI cZ x ad st') : TWY D cI cZ x ad st' A H0 H locs s := by
  obtain ⟨h1, h2, h3, h4⟩ := w
  rw [h] at h2 h3
  exact ⟨h1, h2, h3, h4⟩
end TWYR
