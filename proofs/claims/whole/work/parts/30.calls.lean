/-! What a contract of the class speaks of, and the rows of its calls. -/
def tw_ex (u : Nat) : String := if u = 1 then "java/lang/IllegalArgumentException" else "java/lang/IllegalStateException"
/-- what a throw wants of the start: Throwable's two statics, the texts, two words -/
def tw_Z (A : Nat → Prop) (U : State) : Prop :=
  vx_Zq Bundle.tN "UNASSIGNED_STACK" Bundle.steD A U U.heap ∧ vx_Zq Bundle.tN "SUPPRESSED_SENTINEL" Bundle.listD A U U.heap ∧
  ((Cond.castable "java/lang/IllegalArgumentException" "java/lang/IllegalArgumentException").before #[] U = true ∧ (Cond.castable "java/lang/IllegalStateException" "java/lang/IllegalStateException").before #[] U = true ∧ (Cond.declares (Bundle.initS "java/lang/RuntimeException")).before #[] U = true ∧ (Cond.declares (Bundle.initS "java/lang/Exception")).before #[] U = true ∧ (Cond.declares (Bundle.initS Bundle.tN)).before #[] U = true) ∧
  (∃ a, vk_R RX0 103 "a number out of range" a U) ∧ (∃ a, vk_R RX0 105 "no more CHANGES" a U) ∧ (∃ a, vk_R RX0 81 "no such LETTER in the TEXT" a U) ∧ (∃ a, vk_R RX0 86 "a CHANGE comes to another COPY" a U) ∧ ∃ a, vk_R RX0 97 "the COPY lacks a CHANGE that the maker had" a U
theorem tw_cast {E n : String} {a a' : Array Value} {s U : State} (hvm : s.vm.Alike U.vm) (h : (Cond.castable E n).before a s = true) : (Cond.castable E n).before a' U = true := by
  obtain ⟨c3, c4, h3, h4, ha⟩ := Cond.castable_spec h
  have h3' : U.vm.findClass E = some c3 := by rw [hvm.findClass]; exact h3
  have h4' : U.vm.findClass n = some c4 := by rw [hvm.findClass]; exact h4
  have ha' : U.vm.assignable c3 c4 = true := by rw [hvm.assignable]; exact ha
  simp [Cond.before, Cond.holds, Cond.value, h3', h4', ha']
theorem tw_decl {y : MethodName} {a a' : Array Value} {s U : State} (hal : s.vm.Alike U.vm) (h : (Cond.declares y).before a s = true) : (Cond.declares y).before a' U = true := by
  have e1 : U.methodNamed? y = s.methodNamed? y := by rw [State.methodNamed?_of_vm (show U.vm = (s.setVm U.vm).vm from rfl), State.methodNamed?_setVm hal]
  have e2 : U.vm.method? = s.vm.method? := funext hal.method?
  simp only [Cond.before, Cond.holds, Cond.value] at h ⊢
  rw [e1, e2]; exact h
theorem tw_Z.at {A B : Nat → Prop} {s U : State} {H : Heap} {locs : List Loc} (h : tw_Z A s) (hS : va_S A s.heap H locs) (hU : U.heap = H) (hW : s.WarmedH U.vm) (hB : ∀ q, B q → A q) : tw_Z B U := by
  obtain ⟨z1, z2, ⟨z3, z4, z5, z6, z7⟩, ⟨a1, k1⟩, ⟨a2, k2⟩, ⟨a3, k3⟩, ⟨a4, k4⟩, a5, k5⟩ := h
  refine ⟨?_, ?_, ⟨tw_cast hW.alike z3, tw_cast hW.alike z4, tw_decl hW.alike z5, tw_decl hW.alike z6, tw_decl hW.alike z7⟩, ⟨a1, k1.warm hW⟩, ⟨a2, k2.warm hW⟩, ⟨a3, k3.warm hW⟩, ⟨a4, k4.warm hW⟩, a5, k5.warm hW⟩
  · rw [hU]; exact vx_Zq.moved hW.alike ((z1.kept hS.2.1).narrow hB)
  · rw [hU]; exact vx_Zq.moved hW.alike ((z2.kept hS.2.1).narrow hB)
theorem tw_Z.blind {A : Nat → Prop} {U : State} {g : JFrame} {mk : MethodId} {a : Array Value} (h : tw_Z A U) : tw_Z A (U.calling g mk a) := by
  obtain ⟨z1, z2, ⟨z3, z4, z5, z6, z7⟩, ⟨a1, k1⟩, ⟨a2, k2⟩, ⟨a3, k3⟩, ⟨a4, k4⟩, a5, k5⟩ := h
  refine ⟨vx_Zq.moved (u := U) (U := U.calling g mk a) (Vm.Alike.refl U.vm) z1, vx_Zq.moved (u := U) (U := U.calling g mk a) (Vm.Alike.refl U.vm) z2, ⟨tw_cast (s := U) (Vm.Alike.refl U.vm) z3, tw_cast (s := U) (Vm.Alike.refl U.vm) z4, tw_decl (s := U) (Vm.Alike.refl U.vm) z5, tw_decl (s := U) (Vm.Alike.refl U.vm) z6, tw_decl (s := U) (Vm.Alike.refl U.vm) z7⟩, ⟨a1, vk_R.same (u := U) rfl k1⟩, ⟨a2, vk_R.same (u := U) rfl k2⟩, ⟨a3, vk_R.same (u := U) rfl k3⟩, ⟨a4, vk_R.same (u := U) rfl k4⟩, a5, vk_R.same (u := U) rfl k5⟩
def tw_XU (D : va_G) (cI cJ : ClassId) (x : Nat) (ad : Nat → Nat) (st : Nat → Nat → Nat) (U : State) : Prop := va_P D twCl (tw_x cI cJ x ad st) U.heap ∧ va_K D twCl [(cI, .int), (cJ, .array .int)] U ∧ va_D (fun _ => True) (tw_x cI cJ x ad st)
def tw_XT (D : va_G) (cI cJ : ClassId) (x : Nat) (ad : Nat → Nat) (A : Nat → Prop) (u : Nat → Nat → Nat) (t : State) : Prop := va_P D twCl (tw_x cI cJ x ad u) t.heap ∧ va_K D twCl [(cI, .int), (cJ, .array .int)] t ∧ va_D A (tw_x cI cJ x ad u)
def tw_YU (D : va_G) (cI cZ : ClassId) (x : Nat) (ad : Nat → Nat) (st : Nat → Nat → Nat) (U : State) : Prop := va_P D twCl (tw_y cI cZ x ad st) U.heap ∧ va_K D twCl [(cI, .int), (cZ, .boolean)] U ∧ va_D (fun _ => True) (tw_y cI cZ x ad st)
def tw_YT (D : va_G) (cI cZ : ClassId) (x : Nat) (ad : Nat → Nat) (A : Nat → Prop) (u : Nat → Nat → Nat) (t : State) : Prop := va_P D twCl (tw_y cI cZ x ad u) t.heap ∧ va_K D twCl [(cI, .int), (cZ, .boolean)] t ∧ va_D A (tw_y cI cZ x ad u)
/-- what may be thrown, nothing changed -/
def tw_XC (px : Nat → Prop) (sz : Nat) : String → State → State → Prop := vx_X (fun u : Nat => px u) (fun E u _ => E = tw_ex u) (fun q => sz ≤ q)
theorem tw_mono {A B : Nat → Prop} {H0 H : Heap} {locs : List Loc} (h : va_S A H0 H locs) (hAB : ∀ q, A q → B q) : va_S B H0 H locs := ⟨h.1, fun q h1 h2 => h.2.1 q h1 (fun z => h2 (hAB q z)), fun l hl => hAB _ (h.2.2 l hl)⟩
section TWC
variable {p : Program} {l : Launch} {e : Env} {R : Room} {s : State} {m : MethodId} {args : Array Value} {below : List Frame} {meth : Method} {c : Code} {H : Heap} {locs : List Loc} {cells slots : Nat} {Q : State → Prop}
variable {cc bytes : ByteArray} {pc nL maxL n index : Nat} {ls : Array Slot} {rest st0 As : List Value} {D : va_G} {A A0 : Nat → Prop} {H0 : Heap} {x : Nat} {ad : Nat → Nat} {st : Nat → Nat → Nat} {cI cJ cZ : ClassId} {y : MethodName} {ret : Option FieldType} {rm : Room}
theorem tw_X0 (h : tw_XU D cI cJ x ad st s) : TWX D cI cJ x ad st (va_A (tw_x cI cJ x ad st) s.heap.size) s.heap s.heap [] s := ⟨h.2.1, h.1, h.2.2.self, va_S.rf⟩
theorem tw_Y0 (h : tw_YU D cI cZ x ad st s) : TWY D cI cZ x ad st (va_A (tw_y cI cZ x ad st) s.heap.size) s.heap s.heap [] s := ⟨h.2.1, h.1, h.2.2.self, va_S.rf⟩
theorem tw_XU.blind {U : State} {g : JFrame} {mk : MethodId} {a : Array Value} (h : tw_XU D cI cJ x ad st U) : tw_XU D cI cJ x ad st (U.calling g mk a) := ⟨h.1, va_K.moved (u := U) (U := U.calling g mk a) (Vm.Alike.refl U.vm) h.2.1, h.2.2⟩
theorem tw_YU.blind {U : State} {g : JFrame} {mk : MethodId} {a : Array Value} (h : tw_YU D cI cZ x ad st U) : tw_YU D cI cZ x ad st (U.calling g mk a) := ⟨h.1, va_K.moved (u := U) (U := U.calling g mk a) (Vm.Alike.refl U.vm) h.2.1, h.2.2⟩
theorem TWX.U {U : State} (w : TWX D cI cJ x ad st A H0 H locs s) (hU : U.heap = H) (hW : s.WarmedH U.vm) : tw_XU D cI cJ x ad st U := ⟨by rw [hU]; exact w.2.1, va_K.moved hW.alike w.1, w.2.2.1.weaken (fun _ _ _ _ => trivial)⟩
theorem TWY.U {U : State} (w : TWY D cI cZ x ad st A H0 H locs s) (hU : U.heap = H) (hW : s.WarmedH U.vm) : tw_YU D cI cZ x ad st U := ⟨by rw [hU]; exact w.2.1, va_K.moved hW.alike w.1, w.2.2.1.weaken (fun _ _ _ _ => trivial)⟩
/-- the ends -/
theorem tw_iret {post : Int32 → (Nat → Nat → Nat) → Prop} {u : Nat → Nat → Nat} {v : Int32} (S : CallFix p m c cc nL s args tw_wall RX0) (hr : meth.sig.returnType = some .int) (hlk : meth.locks = false) (w : TWX D cI cJ x ad u A s.heap H locs s) (hp : post v u) (hdg : decode cc pc = .ok (.ireturn, 1)) : W p l e R s m args below meth c H locs cells slots (MQ below (va_Qi post (tw_XT D cI cJ x ad A) A) args s cells slots A) (F0 m pc ls [.int v]) :=
  W.iret S.1 S.2.1 hr (fun t ht hW => ⟨⟨v, u, rfl, hp, by rw [ht]; exact w.2.1, va_K.moved hW.alike w.1, w.2.2.1⟩, w.2.2.2.F ht⟩) w.2.2.2.2.2 hdg hlk
theorem tw_vret {post : (Nat → Nat → Nat) → Prop} {u : Nat → Nat → Nat} (S : CallFix p m c cc nL s args tw_wall RX0) (hr : meth.sig.returnType = none) (hlk : meth.locks = false) (w : TWX D cI cJ x ad u A s.heap H locs s) (hp : post u) (hdg : decode cc pc = .ok (.return_, 1)) : W p l e R s m args below meth c H locs cells slots (MQ below (va_Qv post (tw_XT D cI cJ x ad A) A) args s cells slots A) (F0 m pc ls []) :=
  W.vret S.1 S.2.1 hr (fun t ht hW => ⟨⟨u, rfl, hp, by rw [ht]; exact w.2.1, va_K.moved hW.alike w.1, w.2.2.1⟩, w.2.2.2.F ht⟩) w.2.2.2.2.2 hdg hlk
theorem tw_iretY {post : Int32 → (Nat → Nat → Nat) → Prop} {u : Nat → Nat → Nat} {v : Int32} (S : CallFix p m c cc nL s args tw_wall RX1) (hr : meth.sig.returnType = some .int) (hlk : meth.locks = false) (w : TWY D cI cZ x ad u A s.heap H locs s) (hp : post v u) (hdg : decode cc pc = .ok (.ireturn, 1)) : W p l e R s m args below meth c H locs cells slots (MQ below (va_Qi post (tw_YT D cI cZ x ad A) A) args s cells slots A) (F0 m pc ls [.int v]) :=
  W.iret S.1 S.2.1 hr (fun t ht hW => ⟨⟨v, u, rfl, hp, by rw [ht]; exact w.2.1, va_K.moved hW.alike w.1, w.2.2.1⟩, w.2.2.2.F ht⟩) w.2.2.2.2.2 hdg hlk
theorem tw_zretY {post : Int32 → (Nat → Nat → Nat) → Prop} {u : Nat → Nat → Nat} {v : Int32} (S : CallFix p m c cc nL s args tw_wall RX1) (hr : meth.sig.returnType = some .boolean) (hlk : meth.locks = false) (w : TWY D cI cZ x ad u A s.heap H locs s) (hn : narrow .boolean (.int v) = .int v) (hp : post v u) (hdg : decode cc pc = .ok (.ireturn, 1)) : W p l e R s m args below meth c H locs cells slots (MQ below (va_Qi post (tw_YT D cI cZ x ad A) A) args s cells slots A) (F0 m pc ls [.int v]) :=
  W.zret S.1 S.2.1 hr hn (fun t ht hW => ⟨⟨v, u, rfl, hp, by rw [ht]; exact w.2.1, va_K.moved hW.alike w.1, w.2.2.1⟩, w.2.2.2.F ht⟩) w.2.2.2.2.2 hdg hlk
theorem tw_vretY {post : (Nat → Nat → Nat) → Prop} {u : Nat → Nat → Nat} (S : CallFix p m c cc nL s args tw_wall RX1) (hr : meth.sig.returnType = none) (hlk : meth.locks = false) (w : TWY D cI cZ x ad u A s.heap H locs s) (hp : post u) (hdg : decode cc pc = .ok (.return_, 1)) : W p l e R s m args below meth c H locs cells slots (MQ below (va_Qv post (tw_YT D cI cZ x ad A) A) args s cells slots A) (F0 m pc ls []) :=
  W.vret S.1 S.2.1 hr (fun t ht hW => ⟨⟨u, rfl, hp, by rw [ht]; exact w.2.1, va_K.moved hW.alike w.1, w.2.2.1⟩, w.2.2.2.F ht⟩) w.2.2.2.2.2 hdg hlk
/-- the ends of a method that only reads -/
theorem tw_iro {own : String} {post : Int32 → Prop} {v : Int32} {ty : FieldType} (S : CallFix p m c cc nL s args tw_wall own) (hr : meth.sig.returnType = some ty) (hn : narrow ty (.int v) = .int v) (hlk : meth.locks = false) (z : va_S (fun q => s.heap.size ≤ q) s.heap H locs) (hp : post v) (hdg : decode cc pc = .ok (.ireturn, 1)) : W p l e R s m args below meth c H locs cells slots (MQ below (va_Qi (fun r (_ : Unit) => post r) (fun _ _ => True) (fun q => s.heap.size ≤ q)) args s cells slots (fun q => s.heap.size ≤ q)) (F0 m pc ls [.int v]) :=
  W.zret S.1 S.2.1 hr hn (fun t ht hW => ⟨⟨v, (), rfl, hp, trivial⟩, z.F ht⟩) z.2.2 hdg hlk
theorem tw_vro {own : String} {post : Prop} (S : CallFix p m c cc nL s args tw_wall own) (hr : meth.sig.returnType = none) (hlk : meth.locks = false) (z : va_S (fun q => s.heap.size ≤ q) s.heap H locs) (hp : post) (hdg : decode cc pc = .ok (.return_, 1)) : W p l e R s m args below meth c H locs cells slots (MQ below (va_Qv (fun (_ : Unit) => post) (fun _ _ => True) (fun q => s.heap.size ≤ q)) args s cells slots (fun q => s.heap.size ≤ q)) (F0 m pc ls []) :=
  W.vret S.1 S.2.1 hr (fun t ht hW => ⟨⟨(), rfl, hp, trivial⟩, z.F ht⟩) z.2.2 hdg hlk
/-- a method of the class that only reads is called -/
theorem tw_cro (S : CallFix p m c cc nL s args tw_wall RX0) (w : TWX D cI cJ x ad st A H0 H locs s) (z : va_S A0 H0 H locs) (hA0 : ∀ q, H0.size ≤ q → A0 q) (hsub : ∀ q, A0 q → A q) {post : Int32 → Prop}
    (hM : Met l y (Cond.code y bytes maxL ret :: tw_wall) rm (va_Pc (.ref x :: As) (fun U => U.heap.size = H.size ∧ tw_XU D cI cJ x ad st U)) (va_Qi (fun r (_ : Unit) => post r) (fun _ _ => True) (fun q => H.size ≤ q)) 0 0 (fun q => H.size ≤ q))
    (g : GoodIn tw_wall (wsV RX0 index RX0 y (Cond.code y bytes maxL ret :: tw_wall))) (hrc : rm.cells = 0) (hrs : rm.slots = 0) (hd : y.cls = RX0 ∧ y.cls ≠ "java/lang/invoke/MethodHandle" ∧ y.cls ≠ "java/lang/invoke/VarHandle" ∧ (parseMethodDescriptor y.desc).map (fun d => d.parameters.length) = some n) (hR : rm.frames + 1 ≤ R.frames ∧ 8 + (maxL + 11) + rm.locals ≤ R.locals) (hn : As.length = n) (hsize : ls.size = nL) (hst : st0 = As.reverse ++ .ref x :: rest) (hW : (rest.map fun v => v.category).sum ≤ 8) (hdg : decode cc pc = .ok (.invokevirtual index, 3)) (hf : cells ≤ R.cells ∧ slots ≤ R.slots)
    (kk : ∀ (r : Int32) (H1 : Heap) (locs1 : List Loc), post r → TWX D cI cJ x ad st A H0 H1 locs1 s → va_S A0 H0 H1 locs1 → W p l e R s m args below meth c H1 locs1 cells slots Q (F0 m (pc + 3) ls (.int r :: rest))) : W p l e R s m args below meth c H locs cells slots Q (F0 m pc ls st0) := by
  refine va_calli (A0 := A0) (va_runV (As := As) (rest := rest) S hM (cwV n S.2.2.2.2 g rfl hrc hrs hd hR) ⟨fun a U g9 mk q => ⟨q.1, q.2.1, q.2.2.blind⟩, va_recv w.1 w.2.1 (ci := 0) (q0 := 0) rfl rfl, fun U hU hW => ⟨rfl, by rw [hU], w.U hU hW⟩⟩ rfl hn hsize hst (lv_room hW) hdg hf) z (fun q h1 h2 => absurd h1 (Nat.not_lt.mpr h2)) (fun q h => hA0 q (Nat.le_trans z.1 h)) (fun r u t H1 l1 ht hvm hp hB hz1 hk1 hS => ?_)
  exact kk r H1 l1 hp (w.kept (fun q hq => hk1 q hq (Nat.not_le.mpr hq)) (tw_mono hS hsub)) hS
/-- a method of the class that writes is called -/
theorem tw_cwi (S : CallFix p m c cc nL s args tw_wall RX0) (w : TWX D cI cJ x ad st A H0 H locs s) (hA0 : ∀ q, H0.size ≤ q → A q) {post : Int32 → (Nat → Nat → Nat) → Prop}
    (hM : Met l y (Cond.code y bytes maxL ret :: tw_wall) rm (va_Pc (.ref x :: As) (fun U => U.heap.size = H.size ∧ tw_XU D cI cJ x ad st U)) (va_Qi post (tw_XT D cI cJ x ad (va_A (tw_x cI cJ x ad st) H.size)) (va_A (tw_x cI cJ x ad st) H.size)) 0 0 (va_A (tw_x cI cJ x ad st) H.size))
    (g : GoodIn tw_wall (wsV RX0 index RX0 y (Cond.code y bytes maxL ret :: tw_wall))) (hrc : rm.cells = 0) (hrs : rm.slots = 0) (hd : y.cls = RX0 ∧ y.cls ≠ "java/lang/invoke/MethodHandle" ∧ y.cls ≠ "java/lang/invoke/VarHandle" ∧ (parseMethodDescriptor y.desc).map (fun d => d.parameters.length) = some n) (hR : rm.frames + 1 ≤ R.frames ∧ 8 + (maxL + 11) + rm.locals ≤ R.locals) (hn : As.length = n) (hsize : ls.size = nL) (hst : st0 = As.reverse ++ .ref x :: rest) (hW : (rest.map fun v => v.category).sum ≤ 8) (hdg : decode cc pc = .ok (.invokevirtual index, 3)) (hf : cells ≤ R.cells ∧ slots ≤ R.slots)
    (kk : ∀ (r : Int32) (u : Nat → Nat → Nat) (H1 : Heap) (locs1 : List Loc), post r u → TWX D cI cJ x ad u A H0 H1 locs1 s → W p l e R s m args below meth c H1 locs1 cells slots Q (F0 m (pc + 3) ls (.int r :: rest))) : W p l e R s m args below meth c H locs cells slots Q (F0 m pc ls st0) := by
  have hF : ∀ q, va_A (tw_x cI cJ x ad st) H.size q → A q := fun q h => by
    rcases h with ⟨k, e9, h⟩ | h
    · exact w.2.2.1.2 k _ h
    · exact hA0 q (Nat.le_trans w.2.2.2.1 h)
  refine va_calli (A0 := A) (va_runV (As := As) (rest := rest) S hM (cwV n S.2.2.2.2 g rfl hrc hrs hd hR) ⟨fun a U g9 mk q => ⟨q.1, q.2.1, q.2.2.blind⟩, va_recv w.1 w.2.1 (ci := 0) (q0 := 0) rfl rfl, fun U hU hW => ⟨rfl, by rw [hU], w.U hU hW⟩⟩ rfl hn hsize hst (lv_room hW) hdg hf) w.2.2.2 (fun q _ h => hF q h) hF (fun r u t H1 l1 ht hvm hp hB hz1 hk1 hS => ?_)
  obtain ⟨b1, b2, b3⟩ := hB
  exact kk r u H1 l1 hp ⟨w.1, by rw [← ht]; exact b1, b3.weaken (fun _ _ _ h => hF _ h), hS⟩
theorem tw_cwv (S : CallFix p m c cc nL s args tw_wall RX0) (w : TWX D cI cJ x ad st A H0 H locs s) (hA0 : ∀ q, H0.size ≤ q → A q) {post : (Nat → Nat → Nat) → Prop}
    (hM : Met l y (Cond.code y bytes maxL ret :: tw_wall) rm (va_Pc (.ref x :: As) (fun U => U.heap.size = H.size ∧ tw_XU D cI cJ x ad st U)) (va_Qv post (tw_XT D cI cJ x ad (va_A (tw_x cI cJ x ad st) H.size)) (va_A (tw_x cI cJ x ad st) H.size)) 0 0 (va_A (tw_x cI cJ x ad st) H.size))
    (g : GoodIn tw_wall (wsV RX0 index RX0 y (Cond.code y bytes maxL ret :: tw_wall))) (hrc : rm.cells = 0) (hrs : rm.slots = 0) (hd : y.cls = RX0 ∧ y.cls ≠ "java/lang/invoke/MethodHandle" ∧ y.cls ≠ "java/lang/invoke/VarHandle" ∧ (parseMethodDescriptor y.desc).map (fun d => d.parameters.length) = some n) (hR : rm.frames + 1 ≤ R.frames ∧ 8 + (maxL + 11) + rm.locals ≤ R.locals) (hn : As.length = n) (hsize : ls.size = nL) (hst : st0 = As.reverse ++ .ref x :: rest) (hW : (rest.map fun v => v.category).sum ≤ 8) (hdg : decode cc pc = .ok (.invokevirtual index, 3)) (hf : cells ≤ R.cells ∧ slots ≤ R.slots)
    (kk : ∀ (u : Nat → Nat → Nat) (H1 : Heap) (locs1 : List Loc), post u → TWX D cI cJ x ad u A H0 H1 locs1 s → W p l e R s m args below meth c H1 locs1 cells slots Q (F0 m (pc + 3) ls rest)) : W p l e R s m args below meth c H locs cells slots Q (F0 m pc ls st0) := by
  have hF : ∀ q, va_A (tw_x cI cJ x ad st) H.size q → A q := fun q h => by
    rcases h with ⟨k, e9, h⟩ | h
    · exact w.2.2.1.2 k _ h
    · exact hA0 q (Nat.le_trans w.2.2.2.1 h)
  refine va_callv (A0 := A) (va_runV (As := As) (rest := rest) S hM (cwV n S.2.2.2.2 g rfl hrc hrs hd hR) ⟨fun a U g9 mk q => ⟨q.1, q.2.1, q.2.2.blind⟩, va_recv w.1 w.2.1 (ci := 0) (q0 := 0) rfl rfl, fun U hU hW => ⟨rfl, by rw [hU], w.U hU hW⟩⟩ rfl hn hsize hst (lv_room hW) hdg hf) w.2.2.2 (fun q _ h => hF q h) hF (fun u t H1 l1 ht hvm hp hB hz1 hk1 hS => ?_)
  obtain ⟨b1, b2, b3⟩ := hB
  exact kk u H1 l1 hp ⟨w.1, by rw [← ht]; exact b1, b3.weaken (fun _ _ _ h => hF _ h), hS⟩
/-- .. of the reference -/
theorem tw_cyi (S : CallFix p m c cc nL s args tw_wall RX1) (w : TWY D cI cZ x ad st A H0 H locs s) (hA0 : ∀ q, H0.size ≤ q → A q) {post : Int32 → (Nat → Nat → Nat) → Prop}
    (hM : Met l y (Cond.code y bytes maxL ret :: tw_wall) rm (va_Pc (.ref x :: As) (fun U => U.heap.size = H.size ∧ tw_YU D cI cZ x ad st U)) (va_Qi post (tw_YT D cI cZ x ad (va_A (tw_y cI cZ x ad st) H.size)) (va_A (tw_y cI cZ x ad st) H.size)) 0 0 (va_A (tw_y cI cZ x ad st) H.size))
    (g : GoodIn tw_wall (wsV RX1 index RX1 y (Cond.code y bytes maxL ret :: tw_wall))) (hrc : rm.cells = 0) (hrs : rm.slots = 0) (hd : y.cls = RX1 ∧ y.cls ≠ "java/lang/invoke/MethodHandle" ∧ y.cls ≠ "java/lang/invoke/VarHandle" ∧ (parseMethodDescriptor y.desc).map (fun d => d.parameters.length) = some n) (hR : rm.frames + 1 ≤ R.frames ∧ 8 + (maxL + 11) + rm.locals ≤ R.locals) (hn : As.length = n) (hsize : ls.size = nL) (hst : st0 = As.reverse ++ .ref x :: rest) (hW : (rest.map fun v => v.category).sum ≤ 8) (hdg : decode cc pc = .ok (.invokevirtual index, 3)) (hf : cells ≤ R.cells ∧ slots ≤ R.slots)
    (kk : ∀ (r : Int32) (u : Nat → Nat → Nat) (H1 : Heap) (locs1 : List Loc), post r u → TWY D cI cZ x ad u A H0 H1 locs1 s → W p l e R s m args below meth c H1 locs1 cells slots Q (F0 m (pc + 3) ls (.int r :: rest))) : W p l e R s m args below meth c H locs cells slots Q (F0 m pc ls st0) := by
  have hF : ∀ q, va_A (tw_y cI cZ x ad st) H.size q → A q := fun q h => by
    rcases h with ⟨k, e9, h⟩ | h
    · exact w.2.2.1.2 k _ h
    · exact hA0 q (Nat.le_trans w.2.2.2.1 h)
  refine va_calli (A0 := A) (va_runV (As := As) (rest := rest) S hM (cwV n S.2.2.2.2 g rfl hrc hrs hd hR) ⟨fun a U g9 mk q => ⟨q.1, q.2.1, q.2.2.blind⟩, va_recv w.1 w.2.1 (ci := 1) (q0 := 0) rfl rfl, fun U hU hW => ⟨rfl, by rw [hU], w.U hU hW⟩⟩ rfl hn hsize hst (lv_room hW) hdg hf) w.2.2.2 (fun q _ h => hF q h) hF (fun r u t H1 l1 ht hvm hp hB hz1 hk1 hS => ?_)
  obtain ⟨b1, b2, b3⟩ := hB
  exact kk r u H1 l1 hp ⟨w.1, by rw [← ht]; exact b1, b3.weaken (fun _ _ _ h => hF _ h), hS⟩
theorem tw_cyv (S : CallFix p m c cc nL s args tw_wall RX1) (w : TWY D cI cZ x ad st A H0 H locs s) (hA0 : ∀ q, H0.size ≤ q → A q) {post : (Nat → Nat → Nat) → Prop}
    (hM : Met l y (Cond.code y bytes maxL ret :: tw_wall) rm (va_Pc (.ref x :: As) (fun U => U.heap.size = H.size ∧ tw_YU D cI cZ x ad st U)) (va_Qv post (tw_YT D cI cZ x ad (va_A (tw_y cI cZ x ad st) H.size)) (va_A (tw_y cI cZ x ad st) H.size)) 0 0 (va_A (tw_y cI cZ x ad st) H.size))
    (g : GoodIn tw_wall (wsV RX1 index RX1 y (Cond.code y bytes maxL ret :: tw_wall))) (hrc : rm.cells = 0) (hrs : rm.slots = 0) (hd : y.cls = RX1 ∧ y.cls ≠ "java/lang/invoke/MethodHandle" ∧ y.cls ≠ "java/lang/invoke/VarHandle" ∧ (parseMethodDescriptor y.desc).map (fun d => d.parameters.length) = some n) (hR : rm.frames + 1 ≤ R.frames ∧ 8 + (maxL + 11) + rm.locals ≤ R.locals) (hn : As.length = n) (hsize : ls.size = nL) (hst : st0 = As.reverse ++ .ref x :: rest) (hW : (rest.map fun v => v.category).sum ≤ 8) (hdg : decode cc pc = .ok (.invokevirtual index, 3)) (hf : cells ≤ R.cells ∧ slots ≤ R.slots)
    (kk : ∀ (u : Nat → Nat → Nat) (H1 : Heap) (locs1 : List Loc), post u → TWY D cI cZ x ad u A H0 H1 locs1 s → W p l e R s m args below meth c H1 locs1 cells slots Q (F0 m (pc + 3) ls rest)) : W p l e R s m args below meth c H locs cells slots Q (F0 m pc ls st0) := by
  have hF : ∀ q, va_A (tw_y cI cZ x ad st) H.size q → A q := fun q h => by
    rcases h with ⟨k, e9, h⟩ | h
    · exact w.2.2.1.2 k _ h
    · exact hA0 q (Nat.le_trans w.2.2.2.1 h)
  refine va_callv (A0 := A) (va_runV (As := As) (rest := rest) S hM (cwV n S.2.2.2.2 g rfl hrc hrs hd hR) ⟨fun a U g9 mk q => ⟨q.1, q.2.1, q.2.2.blind⟩, va_recv w.1 w.2.1 (ci := 1) (q0 := 0) rfl rfl, fun U hU hW => ⟨rfl, by rw [hU], w.U hU hW⟩⟩ rfl hn hsize hst (lv_room hW) hdg hf) w.2.2.2 (fun q _ h => hF q h) hF (fun u t H1 l1 ht hvm hp hB hz1 hk1 hS => ?_)
  obtain ⟨b1, b2, b3⟩ := hB
  exact kk u H1 l1 hp ⟨w.1, by rw [← ht]; exact b1, b3.weaken (fun _ _ _ h => hF _ h), hS⟩
/-- a static method of numbers alone is called (isCopy) -/
theorem tw_cst {own : String} (S : CallFix p m c cc nL s args tw_wall own) (z : va_S A0 H0 H locs) (hA0 : ∀ q, H0.size ≤ q → A0 q) {post : Int32 → Prop}
    (hM : Met l y (Cond.code y bytes maxL ret :: tw_wall) rm (va_Pc As (fun U => U.heap.size = H.size)) (va_Qi (fun r (_ : Unit) => post r) (fun _ _ => True) (fun q => H.size ≤ q)) 0 0 (fun q => H.size ≤ q))
    (g : GoodIn tw_wall (va_wsS own index y (Cond.code y bytes maxL ret :: tw_wall))) (hrc : rm.cells = 0) (hrs : rm.slots = 0) (hd : y.cls = own ∧ y.cls ≠ "java/lang/invoke/MethodHandle" ∧ y.cls ≠ "java/lang/invoke/VarHandle" ∧ (parseMethodDescriptor y.desc).map (fun d => d.parameters.length) = some n) (hR : rm.frames + 1 ≤ R.frames ∧ 8 + (maxL + 11) + rm.locals ≤ R.locals) (hn : As.length = n) (hsize : ls.size = nL) (hst : st0 = As.reverse ++ rest) (hW : (rest.map fun v => v.category).sum ≤ 8) (hdg : decode cc pc = .ok (.invokestatic index, 3)) (hf : cells ≤ R.cells ∧ slots ≤ R.slots)
    (kk : ∀ (r : Int32) (H1 : Heap) (locs1 : List Loc), post r → (∀ q : Nat, q < H.size → H1[q]? = H[q]?) → va_S A0 H0 H1 locs1 → W p l e R s m args below meth c H1 locs1 cells slots Q (F0 m (pc + 3) ls (.int r :: rest))) : W p l e R s m args below meth c H locs cells slots Q (F0 m pc ls st0) := by
  have ok : ∀ w ∈ va_wsS own index y (Cond.code y bytes maxL ret :: tw_wall), w.before args s = true := fun w h => S.2.2.2.2 w (g w h).1
  have hG : GoodIn tw_wall (Cond.code y bytes maxL ret :: tw_wall) := fun w h => g w (by unfold va_wsS; exact List.mem_append_right _ h)
  have cb : CallB R s args own index y bytes maxL ret (Cond.code y bytes maxL ret :: tw_wall) rm 0 0 n := callB_of n S.2.2.2.2 hG rfl hrc hrs (ok _ (by simp [va_wsS])) (ok _ (by simp [va_wsS])) hd.2 hR
  refine va_calli (A0 := A0) (va_runS (As := As) (rest := rest) S hM ⟨cb, ok _ (by simp [va_wsS])⟩ ⟨fun a U g9 mk q => ⟨q.1, q.2⟩, fun U hU hW => ⟨rfl, by show U.heap.size = H.size; rw [hU]⟩⟩ rfl hn hsize hst (lv_room hW) hdg hf) z (fun q h1 h2 => absurd h1 (Nat.not_lt.mpr h2)) (fun q h => hA0 q (Nat.le_trans z.1 h)) (fun r u t H1 l1 ht hvm hp hB hz1 hk1 hS => ?_)
  exact kk r H1 l1 hp (fun q hq => hk1 q hq (Nat.not_le.mpr hq)) hS
end TWC
