/-! The law's own small methods: what they see, and the class's calls in them. -/
def tw_xo (cI cJ cL : ClassId) (x : Nat) (ad : Nat → Nat) (st : Nat → Nat → Nat) (o : Nat) (fo : Nat → Int64) : va_W := (o, .inl (cL, 1, .inr (.inl fo))) :: tw_x cI cJ x ad st
def tw_OU (D : va_G) (cI cJ cL : ClassId) (x : Nat) (ad : Nat → Nat) (st : Nat → Nat → Nat) (o : Nat) (fo : Nat → Int64) (U : State) : Prop := va_P D twCl (tw_xo cI cJ cL x ad st o fo) U.heap ∧ va_K D twCl [(cI, .int), (cJ, .array .int), (cL, .long)] U ∧ va_D (fun _ => True) (tw_xo cI cJ cL x ad st o fo)
def tw_OT (D : va_G) (cI cJ cL : ClassId) (x : Nat) (ad : Nat → Nat) (o : Nat) (A : Nat → Prop) (u : (Nat → Nat → Nat) × (Nat → Int64)) (t : State) : Prop := va_P D twCl (tw_xo cI cJ cL x ad u.1 o u.2) t.heap ∧ va_K D twCl [(cI, .int), (cJ, .array .int), (cL, .long)] t ∧ va_D A (tw_xo cI cJ cL x ad u.1 o u.2)
theorem tw_OU.blind {D : va_G} {cI cJ cL : ClassId} {x : Nat} {ad : Nat → Nat} {st : Nat → Nat → Nat} {o : Nat} {fo : Nat → Int64} {U : State} {g : JFrame} {mk : MethodId} {a : Array Value} (h : tw_OU D cI cJ cL x ad st o fo U) : tw_OU D cI cJ cL x ad st o fo (U.calling g mk a) := ⟨h.1, va_K.moved (u := U) (U := U.calling g mk a) (Vm.Alike.refl U.vm) h.2.1, h.2.2⟩
/-- none of it is thrown on -/
def tw_XN : String → State → State → Prop := vx_X (fun _ : Unit => False) (fun _ _ _ => True) (fun _ => False)
def tw_wr (OK : Int32 → (Nat → Nat → Nat) → Prop) (px : Nat → Prop) (st : Nat → Nat → Nat) (fo : Nat → Int64) (r : Int32) (u : (Nat → Nat → Nat) × (Nat → Int64)) : Prop :=
  (r = nI 0 ∧ ∃ rr, OK rr u.1 ∧ u.2 0 = rr.toInt64) ∨ ∃ c, r = nI c ∧ (c = 1 ∨ c = 2) ∧ px c ∧ u = (st, fo)
section TWW
variable {p : Program} {l : Launch} {e : Env} {R : Room} {s : State} {m : MethodId} {args : Array Value} {below : List Frame} {meth : Method} {c : Code} {H : Heap} {locs : List Loc} {cells slots : Nat} {Q : State → Prop}
variable {cc bytes : ByteArray} {pc nL maxL n index : Nat} {ls : Array Slot} {rest st0 As : List Value} {D : va_G} {A : Nat → Prop} {x o : Nat} {ad : Nat → Nat} {st : Nat → Nat → Nat} {fo : Nat → Int64} {cI cJ cL : ClassId} {y : MethodName} {ret : Option FieldType} {rm : Room} {px : Nat → Prop}
/-- a call of the class, the law's array beside it -/
theorem tw_lci (S : CallFix p m c cc nL s args tw_wall RL) (hK : va_K D twCl [(cI, .int), (cJ, .array .int), (cL, .long)] s) (hP : va_P D twCl (tw_xo cI cJ cL x ad st o fo) H) (hD : va_D A (tw_xo cI cJ cL x ad st o fo)) (hS : va_S A s.heap H locs) (hA : ∀ q, s.heap.size ≤ q → A q) (Z : tw_Z (fun q => s.heap.size ≤ q) s) (z : va_S (fun q => s.heap.size ≤ q) s.heap H locs) {OK : Int32 → (Nat → Nat → Nat) → Prop}
    (hM : vx_Met l y (Cond.code y bytes maxL ret :: tw_wall) rm (va_Pc (.ref x :: As) (fun U => U.heap.size = H.size ∧ tw_Z (fun q => H.size ≤ q) U ∧ tw_XU D cI cJ x ad st U)) (va_Qi OK (tw_XT D cI cJ x ad (va_A (tw_x cI cJ x ad st) H.size)) (va_A (tw_x cI cJ x ad st) H.size)) (tw_XC px H.size) 4 24 (va_A (tw_x cI cJ x ad st) H.size))
    (g : GoodIn tw_wall (wsV RL index RX0 y (Cond.code y bytes maxL ret :: tw_wall))) (hrc : rm.cells = 4) (hrs : rm.slots = 24) (hd : y.cls = RX0 ∧ y.cls ≠ "java/lang/invoke/MethodHandle" ∧ y.cls ≠ "java/lang/invoke/VarHandle" ∧ (parseMethodDescriptor y.desc).map (fun d => d.parameters.length) = some n) (hR : rm.frames + 1 ≤ R.frames ∧ 8 + (maxL + 11) + rm.locals ≤ R.locals) (hn : As.length = n) (hsize : ls.size = nL) (hst : st0 = As.reverse ++ .ref x :: rest) (hW : (rest.map fun v => v.category).sum ≤ 8) (hdg : decode cc pc = .ok (.invokevirtual index, 3)) (hf : cells + 4 ≤ R.cells ∧ slots + 24 ≤ R.slots)
    (kx : ∀ (u : Nat) (q9 : Addr) (ce : Cell) (H1 : Heap) (locs1 : List Loc), px u → H1[q9]? = some ce → ce.vm = .none → s.vm.findClass (tw_ex u) = some ce.cls → va_P D twCl (tw_xo cI cJ cL x ad st o fo) H1 → va_S A s.heap H1 locs1 → vx_W p l e R s m args below meth c H1 locs1 (cells + 4) (slots + 24) Q (F0 m pc ls rest) q9)
    (kk : ∀ (r : Int32) (u : Nat → Nat → Nat) (H1 : Heap) (locs1 : List Loc), OK r u → va_P D twCl (tw_xo cI cJ cL x ad u o fo) H1 → va_D A (tw_xo cI cJ cL x ad u o fo) → va_S A s.heap H1 locs1 → W p l e R s m args below meth c H1 locs1 (cells + 4) (slots + 24) Q (F0 m (pc + 3) ls (.int r :: rest))) : W p l e R s m args below meth c H locs cells slots Q (F0 m pc ls st0) := by
  have hPc : va_P D twCl (tw_x cI cJ x ad st) H := hP.sub (List.range' 1 25) rfl
  have hDc : va_D A (tw_x cI cJ x ad st) := hD.sub (List.range' 1 25) (by decide) rfl
  have hKc : va_K D twCl [(cI, .int), (cJ, .array .int)] s := hK.sub [0, 1] rfl
  have hF := va_free (wc := tw_x cI cJ x ad st) hD hS hA (List.range' 1 25) rfl
  refine vx_calli (A0 := A) (vx_runV (As := As) (rest := rest) S hM (cwV n S.2.2.2.2 g rfl hrc hrs hd hR) ⟨fun a U g9 mk q => ⟨q.1, q.2.1, q.2.2.1.blind, q.2.2.2.blind⟩, va_recv hKc hPc (ci := 0) (q0 := 0) rfl rfl, fun U hU hW => ⟨rfl, by rw [hU], Z.at z hU hW (fun q h => Nat.le_trans z.1 h), by rw [hU]; exact hPc, va_K.moved hW.alike hKc, hDc.weaken (fun _ _ _ _ => trivial)⟩⟩ rfl hn hsize hst (lv_room hW) hdg hf) hS (fun q _ h => hF q h) hF (fun q h1 h2 => absurd h1 (Nat.not_lt.mpr h2)) (fun E ce q9 u t H1 l1 h1 hvm hp hE hz1 hk1 hS1 hce hcv hcl => ?_) (fun r u t H1 l1 h1 hvm hp hB hz1 hk1 hS1 => ?_)
  · rw [hE] at hcl
    exact kx u q9 ce H1 l1 hp hce hcv hcl (hP.kept (fun k q hq => hk1 q.1 ((hP k q hq).lt) (Nat.not_le.mpr ((hP k q hq).lt)))) hS1
  · obtain ⟨b1, b2, b3⟩ := hB
    rw [h1] at b1
    obtain ⟨j1, j2⟩ := va_join (wr := [(o, .inl (cL, 1, .inr (.inl fo)))]) (w1 := tw_x cI cJ x ad u) hP hD (List.range' 1 25) [0] rfl rfl (by decide) (by decide) hk1 hF b1 b3
    exact kk r u H1 l1 hp j1 j2 hS1
theorem tw_lcv (S : CallFix p m c cc nL s args tw_wall RL) (w : TWX D cI cJ x ad st A s.heap H locs s) (hA : ∀ q, s.heap.size ≤ q → A q) (Z : tw_Z (fun q => s.heap.size ≤ q) s) (z : va_S (fun q => s.heap.size ≤ q) s.heap H locs) {OK : (Nat → Nat → Nat) → Prop}
    (hM : vx_Met l y (Cond.code y bytes maxL ret :: tw_wall) rm (va_Pc (.ref x :: As) (fun U => U.heap.size = H.size ∧ tw_Z (fun q => H.size ≤ q) U ∧ tw_XU D cI cJ x ad st U)) (va_Qv OK (tw_XT D cI cJ x ad (va_A (tw_x cI cJ x ad st) H.size)) (va_A (tw_x cI cJ x ad st) H.size)) (tw_XC px H.size) 4 24 (va_A (tw_x cI cJ x ad st) H.size))
    (g : GoodIn tw_wall (wsV RL index RX0 y (Cond.code y bytes maxL ret :: tw_wall))) (hrc : rm.cells = 4) (hrs : rm.slots = 24) (hd : y.cls = RX0 ∧ y.cls ≠ "java/lang/invoke/MethodHandle" ∧ y.cls ≠ "java/lang/invoke/VarHandle" ∧ (parseMethodDescriptor y.desc).map (fun d => d.parameters.length) = some n) (hR : rm.frames + 1 ≤ R.frames ∧ 8 + (maxL + 11) + rm.locals ≤ R.locals) (hn : As.length = n) (hsize : ls.size = nL) (hst : st0 = As.reverse ++ .ref x :: rest) (hW : (rest.map fun v => v.category).sum ≤ 8) (hdg : decode cc pc = .ok (.invokevirtual index, 3)) (hf : cells + 4 ≤ R.cells ∧ slots + 24 ≤ R.slots)
    (kx : ∀ (u : Nat) (q9 : Addr) (ce : Cell) (H1 : Heap) (locs1 : List Loc), px u → H1[q9]? = some ce → ce.vm = .none → s.vm.findClass (tw_ex u) = some ce.cls → TWX D cI cJ x ad st A s.heap H1 locs1 s → vx_W p l e R s m args below meth c H1 locs1 (cells + 4) (slots + 24) Q (F0 m pc ls rest) q9)
    (kk : ∀ (u : Nat → Nat → Nat) (H1 : Heap) (locs1 : List Loc), OK u → TWX D cI cJ x ad u A s.heap H1 locs1 s → W p l e R s m args below meth c H1 locs1 (cells + 4) (slots + 24) Q (F0 m (pc + 3) ls rest)) : W p l e R s m args below meth c H locs cells slots Q (F0 m pc ls st0) := by
  have hF : ∀ q, va_A (tw_x cI cJ x ad st) H.size q → A q := fun q h => by
    rcases h with ⟨k, e9, h⟩ | h
    · exact w.2.2.1.2 k _ h
    · exact hA q (Nat.le_trans w.2.2.2.1 h)
  refine vx_callv (A0 := A) (vx_runV (As := As) (rest := rest) S hM (cwV n S.2.2.2.2 g rfl hrc hrs hd hR) ⟨fun a U g9 mk q => ⟨q.1, q.2.1, q.2.2.1.blind, q.2.2.2.blind⟩, va_recv w.1 w.2.1 (ci := 0) (q0 := 0) rfl rfl, fun U hU hW => ⟨rfl, by rw [hU], Z.at z hU hW (fun q h => Nat.le_trans z.1 h), w.U hU hW⟩⟩ rfl hn hsize hst (lv_room hW) hdg hf) w.2.2.2 (fun q _ h => hF q h) hF (fun q h1 h2 => absurd h1 (Nat.not_lt.mpr h2)) (fun E ce q9 u t H1 l1 h1 hvm hp hE hz1 hk1 hS1 hce hcv hcl => ?_) (fun u t H1 l1 h1 hvm hp hB hz1 hk1 hS1 => ?_)
  · rw [hE] at hcl
    exact kx u q9 ce H1 l1 hp hce hcv hcl (w.kept (fun q hq => hk1 q hq (Nat.not_le.mpr hq)) hS1)
  · obtain ⟨b1, b2, b3⟩ := hB
    exact kk u H1 l1 hp ⟨w.1, by rw [← h1]; exact b1, b3.weaken (fun _ _ _ h => hF _ h), hS1⟩
end TWW
