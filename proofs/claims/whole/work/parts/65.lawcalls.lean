/-! The law's world, and the calls in it. -/
def tw_w (cI cJ cL cZ : ClassId) (x : Nat) (ad : Nat → Nat) (st : Nat → Nat → Nat) (o : Nat) (fo : Nat → Int64) (y : Nat) (bd : Nat → Nat) (mt : Nat → Nat → Nat) : va_W := tw_xo cI cJ cL x ad st o fo ++ tw_y cI cZ y bd mt
def tw_tys (cI cJ cL cZ : ClassId) : List (ClassId × FieldType) := [(cI, .int), (cJ, .array .int), (cL, .long), (cZ, .boolean)]
def TWL (D : va_G) (cI cJ cL cZ : ClassId) (x : Nat) (ad : Nat → Nat) (st : Nat → Nat → Nat) (o : Nat) (fo : Nat → Int64) (y : Nat) (bd : Nat → Nat) (mt : Nat → Nat → Nat) (H : Heap) (locs : List Loc) (s : State) : Prop :=
  va_K D twCl (tw_tys cI cJ cL cZ) s ∧ va_P D twCl (tw_w cI cJ cL cZ x ad st o fo y bd mt) H ∧ va_D (fun q => s.heap.size ≤ q) (tw_w cI cJ cL cZ x ad st o fo y bd mt) ∧ va_S (fun q => s.heap.size ≤ q) s.heap H locs
section TWLC
variable {p : Program} {l : Launch} {e : Env} {R : Room} {s : State} {m : MethodId} {args : Array Value} {below : List Frame} {meth : Method} {c : Code} {H : Heap} {locs : List Loc} {cells slots : Nat} {Q : State → Prop}
variable {cc bytes : ByteArray} {pc nL maxL n index : Nat} {ls : Array Slot} {rest st0 As : List Value} {D : va_G} {x o y : Nat} {ad bd : Nat → Nat} {st mt : Nat → Nat → Nat} {fo : Nat → Int64} {cI cJ cL cZ : ClassId} {yy : MethodName} {ret : Option FieldType} {hh : List (Nat × Nat × Nat × Nat)} {rm : Room}
/-- a wrapper of the law is called -/
theorem tw_wci (S : CallFix p m c cc nL s args tw_wall RL) (w : TWL D cI cJ cL cZ x ad st o fo y bd mt H locs s) (Z : tw_Z (fun q => s.heap.size ≤ q) s) (hN : va_Nc "java/lang/IllegalStateException" "java/lang/IllegalArgumentException" s) {OK : Int32 → (Nat → Nat → Nat) × (Nat → Int64) → Prop}
    (hM : vx_Met l yy (Cond.codeWith yy bytes maxL ret hh :: tw_wall) rm (va_Pc As (fun U => U.heap.size = H.size ∧ tw_Z (fun q => H.size ≤ q) U ∧ va_Nc "java/lang/IllegalStateException" "java/lang/IllegalArgumentException" U ∧ tw_OU D cI cJ cL x ad st o fo U)) (va_Qi OK (tw_OT D cI cJ cL x ad o (va_A (tw_xo cI cJ cL x ad st o fo) H.size)) (va_A (tw_xo cI cJ cL x ad st o fo) H.size)) tw_XN 4 24 (va_A (tw_xo cI cJ cL x ad st o fo) H.size))
    (g : GoodIn tw_wall (va_wsS RL index yy (Cond.codeWith yy bytes maxL ret hh :: tw_wall))) (hrc : rm.cells = 4) (hrs : rm.slots = 24) (hd : yy.cls ≠ "java/lang/invoke/MethodHandle" ∧ yy.cls ≠ "java/lang/invoke/VarHandle" ∧ (parseMethodDescriptor yy.desc).map (fun d => d.parameters.length) = some n) (hR : rm.frames + 1 ≤ R.frames ∧ 8 + (maxL + 11) + rm.locals ≤ R.locals) (hn : As.length = n) (hsize : ls.size = nL) (hst : st0 = As.reverse ++ rest) (hW : (rest.map fun v => v.category).sum ≤ 8) (hdg : decode cc pc = .ok (.invokestatic index, 3)) (hf : cells + 4 ≤ R.cells ∧ slots + 24 ≤ R.slots)
    (kk : ∀ (r : Int32) (u : (Nat → Nat → Nat) × (Nat → Int64)) (H1 : Heap) (locs1 : List Loc), OK r u → TWL D cI cJ cL cZ x ad u.1 o u.2 y bd mt H1 locs1 s → W p l e R s m args below meth c H1 locs1 (cells + 4) (slots + 24) Q (F0 m (pc + 3) ls (.int r :: rest))) : W p l e R s m args below meth c H locs cells slots Q (F0 m pc ls st0) := by
  obtain ⟨hK, hP, hD, hS⟩ := w
  have hPc : va_P D twCl (tw_xo cI cJ cL x ad st o fo) H := hP.sub (List.range' 0 26) rfl
  have hDc : va_D (fun q => s.heap.size ≤ q) (tw_xo cI cJ cL x ad st o fo) := hD.sub (List.range' 0 26) (by decide) rfl
  have hKc : va_K D twCl [(cI, .int), (cJ, .array .int), (cL, .long)] s := hK.sub [0, 1, 2] rfl
  have hF := va_free (wc := tw_xo cI cJ cL x ad st o fo) hD hS (fun _ h => h) (List.range' 0 26) rfl
  refine vx_calli (A0 := fun q => s.heap.size ≤ q) (vx_runSX (As := As) (rest := rest) S hM (vx_cwSW n S.2.2.2.2 g rfl hrc hrs hd hR) ⟨fun a U g9 mk q => ⟨q.1, q.2.1, q.2.2.1.blind, va_Nc.moved (u := U) (U := U.calling g9 mk a) (Vm.Alike.refl U.vm) q.2.2.2.1, q.2.2.2.2.blind⟩, fun U hU hW => ⟨rfl, by rw [hU], Z.at hS hU hW (fun q h => Nat.le_trans hS.1 h), va_Nc.moved hW.alike hN, by rw [hU]; exact hPc, va_K.moved hW.alike hKc, hDc.weaken (fun _ _ _ _ => trivial)⟩⟩ rfl hn hsize hst (lv_room hW) hdg hf) hS (fun q _ h => hF q h) hF (fun q _ h => h.elim) (fun E ce q9 u t H1 l1 h1 hvm hp _ _ _ _ _ _ _ => hp.elim) (fun r u t H1 l1 h1 hvm hp hB hz1 hk1 hS1 => ?_)
  obtain ⟨b1, b2, b3⟩ := hB
  rw [h1] at b1
  obtain ⟨j1, j2⟩ := va_join (wr := tw_y cI cZ y bd mt) (w1 := tw_xo cI cJ cL x ad u.1 o u.2) hP hD (List.range' 0 26) (List.range' 26 14) rfl rfl (by decide) (by decide) hk1 hF b1 b3
  exact kk r u H1 l1 hp ⟨hK, j1.sub (List.range' 14 26 ++ List.range' 0 14) rfl, j2.sub (List.range' 14 26 ++ List.range' 0 14) (by decide) rfl, hS1⟩
/-- .. bring's, which has no array -/
theorem tw_wbi (S : CallFix p m c cc nL s args tw_wall RL) (w : TWL D cI cJ cL cZ x ad st o fo y bd mt H locs s) (Z : tw_Z (fun q => s.heap.size ≤ q) s) (hN : va_Nc "java/lang/IllegalStateException" "java/lang/IllegalArgumentException" s) {OK : Int32 → (Nat → Nat → Nat) → Prop}
    (hM : vx_Met l yy (Cond.codeWith yy bytes maxL ret hh :: tw_wall) rm (va_Pc As (fun U => U.heap.size = H.size ∧ tw_Z (fun q => H.size ≤ q) U ∧ va_Nc "java/lang/IllegalStateException" "java/lang/IllegalArgumentException" U ∧ tw_XU D cI cJ x ad st U)) (va_Qi OK (tw_XT D cI cJ x ad (va_A (tw_x cI cJ x ad st) H.size)) (va_A (tw_x cI cJ x ad st) H.size)) tw_XN 4 24 (va_A (tw_x cI cJ x ad st) H.size))
    (g : GoodIn tw_wall (va_wsS RL index yy (Cond.codeWith yy bytes maxL ret hh :: tw_wall))) (hrc : rm.cells = 4) (hrs : rm.slots = 24) (hd : yy.cls ≠ "java/lang/invoke/MethodHandle" ∧ yy.cls ≠ "java/lang/invoke/VarHandle" ∧ (parseMethodDescriptor yy.desc).map (fun d => d.parameters.length) = some n) (hR : rm.frames + 1 ≤ R.frames ∧ 8 + (maxL + 11) + rm.locals ≤ R.locals) (hn : As.length = n) (hsize : ls.size = nL) (hst : st0 = As.reverse ++ rest) (hW : (rest.map fun v => v.category).sum ≤ 8) (hdg : decode cc pc = .ok (.invokestatic index, 3)) (hf : cells + 4 ≤ R.cells ∧ slots + 24 ≤ R.slots)
    (kk : ∀ (r : Int32) (u : Nat → Nat → Nat) (H1 : Heap) (locs1 : List Loc), OK r u → TWL D cI cJ cL cZ x ad u o fo y bd mt H1 locs1 s → W p l e R s m args below meth c H1 locs1 (cells + 4) (slots + 24) Q (F0 m (pc + 3) ls (.int r :: rest))) : W p l e R s m args below meth c H locs cells slots Q (F0 m pc ls st0) := by
  obtain ⟨hK, hP, hD, hS⟩ := w
  have hPc : va_P D twCl (tw_x cI cJ x ad st) H := hP.sub (List.range' 1 25) rfl
  have hDc : va_D (fun q => s.heap.size ≤ q) (tw_x cI cJ x ad st) := hD.sub (List.range' 1 25) (by decide) rfl
  have hKc : va_K D twCl [(cI, .int), (cJ, .array .int)] s := hK.sub [0, 1] rfl
  have hF := va_free (wc := tw_x cI cJ x ad st) hD hS (fun _ h => h) (List.range' 1 25) rfl
  refine vx_calli (A0 := fun q => s.heap.size ≤ q) (vx_runSX (As := As) (rest := rest) S hM (vx_cwSW n S.2.2.2.2 g rfl hrc hrs hd hR) ⟨fun a U g9 mk q => ⟨q.1, q.2.1, q.2.2.1.blind, va_Nc.moved (u := U) (U := U.calling g9 mk a) (Vm.Alike.refl U.vm) q.2.2.2.1, q.2.2.2.2.blind⟩, fun U hU hW => ⟨rfl, by rw [hU], Z.at hS hU hW (fun q h => Nat.le_trans hS.1 h), va_Nc.moved hW.alike hN, by rw [hU]; exact hPc, va_K.moved hW.alike hKc, hDc.weaken (fun _ _ _ _ => trivial)⟩⟩ rfl hn hsize hst (lv_room hW) hdg hf) hS (fun q _ h => hF q h) hF (fun q _ h => h.elim) (fun E ce q9 u t H1 l1 h1 hvm hp _ _ _ _ _ _ _ => hp.elim) (fun r u t H1 l1 h1 hvm hp hB hz1 hk1 hS1 => ?_)
  obtain ⟨b1, b2, b3⟩ := hB
  rw [h1] at b1
  obtain ⟨j1, j2⟩ := va_join (wr := (o, .inl (cL, 1, .inr (.inl fo))) :: tw_y cI cZ y bd mt) (w1 := tw_x cI cJ x ad u) hP hD (List.range' 1 25) (0 :: List.range' 26 14) rfl rfl (by decide) (by decide) hk1 hF b1 b3
  exact kk r u H1 l1 hp ⟨hK, j1.sub (0 :: (List.range' 15 25 ++ List.range' 1 14)) rfl, j2.sub (0 :: (List.range' 15 25 ++ List.range' 1 14)) (by decide) rfl, hS1⟩
/-- the reference is called -/
theorem tw_yci (S : CallFix p m c cc nL s args tw_wall RL) (w : TWL D cI cJ cL cZ x ad st o fo y bd mt H locs s) {OK : Int32 → (Nat → Nat → Nat) → Prop}
    (hM : Met l yy (Cond.code yy bytes maxL ret :: tw_wall) rm (va_Pc (.ref y :: As) (fun U => U.heap.size = H.size ∧ tw_YU D cI cZ y bd mt U)) (va_Qi OK (tw_YT D cI cZ y bd (va_A (tw_y cI cZ y bd mt) H.size)) (va_A (tw_y cI cZ y bd mt) H.size)) 0 0 (va_A (tw_y cI cZ y bd mt) H.size))
    (g : GoodIn tw_wall (wsV RL index RX1 yy (Cond.code yy bytes maxL ret :: tw_wall))) (hrc : rm.cells = 0) (hrs : rm.slots = 0) (hd : yy.cls = RX1 ∧ yy.cls ≠ "java/lang/invoke/MethodHandle" ∧ yy.cls ≠ "java/lang/invoke/VarHandle" ∧ (parseMethodDescriptor yy.desc).map (fun d => d.parameters.length) = some n) (hR : rm.frames + 1 ≤ R.frames ∧ 8 + (maxL + 11) + rm.locals ≤ R.locals) (hn : As.length = n) (hsize : ls.size = nL) (hst : st0 = As.reverse ++ .ref y :: rest) (hW : (rest.map fun v => v.category).sum ≤ 8) (hdg : decode cc pc = .ok (.invokevirtual index, 3)) (hf : cells ≤ R.cells ∧ slots ≤ R.slots)
    (kk : ∀ (r : Int32) (u : Nat → Nat → Nat) (H1 : Heap) (locs1 : List Loc), OK r u → TWL D cI cJ cL cZ x ad st o fo y bd u H1 locs1 s → W p l e R s m args below meth c H1 locs1 cells slots Q (F0 m (pc + 3) ls (.int r :: rest))) : W p l e R s m args below meth c H locs cells slots Q (F0 m pc ls st0) := by
  obtain ⟨hK, hP, hD, hS⟩ := w
  have hPc : va_P D twCl (tw_y cI cZ y bd mt) H := hP.sub (List.range' 26 14) rfl
  have hDc : va_D (fun q => s.heap.size ≤ q) (tw_y cI cZ y bd mt) := hD.sub (List.range' 26 14) (by decide) rfl
  have hKc : va_K D twCl [(cI, .int), (cZ, .boolean)] s := hK.sub [0, 3] rfl
  have hF := va_free (wc := tw_y cI cZ y bd mt) hD hS (fun _ h => h) (List.range' 26 14) rfl
  refine va_calli (A0 := fun q => s.heap.size ≤ q) (va_runV (As := As) (rest := rest) S hM (cwV n S.2.2.2.2 g rfl hrc hrs hd hR) ⟨fun a U g9 mk q => ⟨q.1, q.2.1, q.2.2.blind⟩, va_recv hKc hPc (ci := 1) (q0 := 0) rfl rfl, fun U hU hW => ⟨rfl, by rw [hU], by rw [hU]; exact hPc, va_K.moved hW.alike hKc, hDc.weaken (fun _ _ _ _ => trivial)⟩⟩ rfl hn hsize hst (lv_room hW) hdg hf) hS (fun q _ h => hF q h) hF (fun r u t H1 l1 h1 hvm hp hB hz1 hk1 hS1 => ?_)
  obtain ⟨b1, b2, b3⟩ := hB
  rw [h1] at b1
  obtain ⟨j1, j2⟩ := va_join (wr := tw_xo cI cJ cL x ad st o fo) (w1 := tw_y cI cZ y bd u) hP hD (List.range' 26 14) (List.range' 0 26) rfl rfl (by decide) (by decide) hk1 hF b1 b3
  exact kk r u H1 l1 hp ⟨hK, j1, j2, hS1⟩
theorem tw_yvi (S : CallFix p m c cc nL s args tw_wall RL) (w : TWL D cI cJ cL cZ x ad st o fo y bd mt H locs s) {OK : (Nat → Nat → Nat) → Prop}
    (hM : Met l yy (Cond.code yy bytes maxL ret :: tw_wall) rm (va_Pc (.ref y :: As) (fun U => U.heap.size = H.size ∧ tw_YU D cI cZ y bd mt U)) (va_Qv OK (tw_YT D cI cZ y bd (va_A (tw_y cI cZ y bd mt) H.size)) (va_A (tw_y cI cZ y bd mt) H.size)) 0 0 (va_A (tw_y cI cZ y bd mt) H.size))
    (g : GoodIn tw_wall (wsV RL index RX1 yy (Cond.code yy bytes maxL ret :: tw_wall))) (hrc : rm.cells = 0) (hrs : rm.slots = 0) (hd : yy.cls = RX1 ∧ yy.cls ≠ "java/lang/invoke/MethodHandle" ∧ yy.cls ≠ "java/lang/invoke/VarHandle" ∧ (parseMethodDescriptor yy.desc).map (fun d => d.parameters.length) = some n) (hR : rm.frames + 1 ≤ R.frames ∧ 8 + (maxL + 11) + rm.locals ≤ R.locals) (hn : As.length = n) (hsize : ls.size = nL) (hst : st0 = As.reverse ++ .ref y :: rest) (hW : (rest.map fun v => v.category).sum ≤ 8) (hdg : decode cc pc = .ok (.invokevirtual index, 3)) (hf : cells ≤ R.cells ∧ slots ≤ R.slots)
    (kk : ∀ (u : Nat → Nat → Nat) (H1 : Heap) (locs1 : List Loc), OK u → TWL D cI cJ cL cZ x ad st o fo y bd u H1 locs1 s → W p l e R s m args below meth c H1 locs1 cells slots Q (F0 m (pc + 3) ls rest)) : W p l e R s m args below meth c H locs cells slots Q (F0 m pc ls st0) := by
  obtain ⟨hK, hP, hD, hS⟩ := w
  have hPc : va_P D twCl (tw_y cI cZ y bd mt) H := hP.sub (List.range' 26 14) rfl
  have hDc : va_D (fun q => s.heap.size ≤ q) (tw_y cI cZ y bd mt) := hD.sub (List.range' 26 14) (by decide) rfl
  have hKc : va_K D twCl [(cI, .int), (cZ, .boolean)] s := hK.sub [0, 3] rfl
  have hF := va_free (wc := tw_y cI cZ y bd mt) hD hS (fun _ h => h) (List.range' 26 14) rfl
  refine va_callv (A0 := fun q => s.heap.size ≤ q) (va_runV (As := As) (rest := rest) S hM (cwV n S.2.2.2.2 g rfl hrc hrs hd hR) ⟨fun a U g9 mk q => ⟨q.1, q.2.1, q.2.2.blind⟩, va_recv hKc hPc (ci := 1) (q0 := 0) rfl rfl, fun U hU hW => ⟨rfl, by rw [hU], by rw [hU]; exact hPc, va_K.moved hW.alike hKc, hDc.weaken (fun _ _ _ _ => trivial)⟩⟩ rfl hn hsize hst (lv_room hW) hdg hf) hS (fun q _ h => hF q h) hF (fun u t H1 l1 h1 hvm hp hB hz1 hk1 hS1 => ?_)
  obtain ⟨b1, b2, b3⟩ := hB
  rw [h1] at b1
  obtain ⟨j1, j2⟩ := va_join (wr := tw_xo cI cJ cL x ad st o fo) (w1 := tw_y cI cZ y bd u) hP hD (List.range' 26 14) (List.range' 0 26) rfl rfl (by decide) (by decide) hk1 hF b1 b3
  exact kk u H1 l1 hp ⟨hK, j1, j2, hS1⟩
end TWLC
