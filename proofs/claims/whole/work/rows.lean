section
-- ===== PART A: goes FIRST, ahead of the names: the tables' words, and 'selects' of the private methods out of them =====
/-- a private method of a class that the tables say can be made, by its rows of tables_1 -/
def lw_okq (q : MethodName × Nat) : Prop := (q.1.cls ≠ "java/lang/invoke/MethodHandle" ∧ q.1.cls ≠ "java/lang/invoke/VarHandle") ∧ Cond.instantiable q.1.cls q.2 ∈ tables_1 ∧ Cond.privateMethod q.1 ∈ tables_1 ∧ Cond.instanceMethod q.1 ∈ tables_1
theorem lw_p0 : lw_okq (⟨"java/lang/Throwable", "fillInStackTrace", "(I)Ljava/lang/Throwable;"⟩, 6) := ⟨⟨by decide +kernel, by decide +kernel⟩, List.mem_of_getElem? (i := 117) (by decide +kernel), List.mem_of_getElem? (i := 115) (by decide +kernel), List.mem_of_getElem? (i := 116) (by decide +kernel)⟩
theorem lw_p1 : lw_okq (⟨"LetterWeave", "checkRoom", "(I)V"⟩, 14) := ⟨⟨by decide +kernel, by decide +kernel⟩, List.mem_of_getElem? (i := 11) (by decide +kernel), List.mem_of_getElem? (i := 147) (by decide +kernel), List.mem_of_getElem? (i := 148) (by decide +kernel)⟩
theorem lw_p2 : lw_okq (⟨"LetterWeave", "placeOf", "(II)I"⟩, 14) := ⟨⟨by decide +kernel, by decide +kernel⟩, List.mem_of_getElem? (i := 11) (by decide +kernel), List.mem_of_getElem? (i := 167) (by decide +kernel), List.mem_of_getElem? (i := 168) (by decide +kernel)⟩
theorem lw_p3 : lw_okq (⟨"LetterWeave", "isShown", "(II)Z"⟩, 14) := ⟨⟨by decide +kernel, by decide +kernel⟩, List.mem_of_getElem? (i := 11) (by decide +kernel), List.mem_of_getElem? (i := 171) (by decide +kernel), List.mem_of_getElem? (i := 172) (by decide +kernel)⟩
theorem lw_p4 : lw_okq (⟨"LetterWeave", "addChange", "(II)I"⟩, 14) := ⟨⟨by decide +kernel, by decide +kernel⟩, List.mem_of_getElem? (i := 11) (by decide +kernel), List.mem_of_getElem? (i := 175) (by decide +kernel), List.mem_of_getElem? (i := 176) (by decide +kernel)⟩
theorem lw_p5 : lw_okq (⟨"LetterWeave", "weave", "(II)V"⟩, 14) := ⟨⟨by decide +kernel, by decide +kernel⟩, List.mem_of_getElem? (i := 11) (by decide +kernel), List.mem_of_getElem? (i := 179) (by decide +kernel), List.mem_of_getElem? (i := 180) (by decide +kernel)⟩
theorem lw_p6 : lw_okq (⟨"LetterWeave", "receive", "(II)V"⟩, 14) := ⟨⟨by decide +kernel, by decide +kernel⟩, List.mem_of_getElem? (i := 11) (by decide +kernel), List.mem_of_getElem? (i := 186) (by decide +kernel), List.mem_of_getElem? (i := 187) (by decide +kernel)⟩
theorem lw_p7 : lw_okq (⟨"LetterWeave", "showLetter", "(II)V"⟩, 14) := ⟨⟨by decide +kernel, by decide +kernel⟩, List.mem_of_getElem? (i := 11) (by decide +kernel), List.mem_of_getElem? (i := 190) (by decide +kernel), List.mem_of_getElem? (i := 191) (by decide +kernel)⟩
theorem lw_p8 : lw_okq (⟨"LetterWeave", "hideLetter", "(II)V"⟩, 14) := ⟨⟨by decide +kernel, by decide +kernel⟩, List.mem_of_getElem? (i := 11) (by decide +kernel), List.mem_of_getElem? (i := 197) (by decide +kernel), List.mem_of_getElem? (i := 198) (by decide +kernel)⟩
theorem lw_p9 : lw_okq (⟨"LetterWeave", "isIn", "(II)Z"⟩, 14) := ⟨⟨by decide +kernel, by decide +kernel⟩, List.mem_of_getElem? (i := 11) (by decide +kernel), List.mem_of_getElem? (i := 217) (by decide +kernel), List.mem_of_getElem? (i := 218) (by decide +kernel)⟩
theorem lw_p10 : lw_okq (⟨"LetterWeave", "canCome", "(II)Z"⟩, 14) := ⟨⟨by decide +kernel, by decide +kernel⟩, List.mem_of_getElem? (i := 11) (by decide +kernel), List.mem_of_getElem? (i := 221) (by decide +kernel), List.mem_of_getElem? (i := 222) (by decide +kernel)⟩
theorem lw_p11 : lw_okq (⟨"LetterWeave", "placeToRead", "(II)I"⟩, 14) := ⟨⟨by decide +kernel, by decide +kernel⟩, List.mem_of_getElem? (i := 11) (by decide +kernel), List.mem_of_getElem? (i := 247) (by decide +kernel), List.mem_of_getElem? (i := 248) (by decide +kernel)⟩
theorem lw_p12 : lw_okq (⟨"LetterWeaveModel", "bad", "(Z)Z"⟩, 17) := ⟨⟨by decide +kernel, by decide +kernel⟩, List.mem_of_getElem? (i := 266) (by decide +kernel), List.mem_of_getElem? (i := 336) (by decide +kernel), List.mem_of_getElem? (i := 337) (by decide +kernel)⟩
theorem lw_p13 : lw_okq (⟨"LetterWeaveModel", "look", "(I)V"⟩, 17) := ⟨⟨by decide +kernel, by decide +kernel⟩, List.mem_of_getElem? (i := 266) (by decide +kernel), List.mem_of_getElem? (i := 340) (by decide +kernel), List.mem_of_getElem? (i := 341) (by decide +kernel)⟩
theorem lw_p14 : lw_okq (⟨"LetterWeaveModel", "isIn", "(II)Z"⟩, 17) := ⟨⟨by decide +kernel, by decide +kernel⟩, List.mem_of_getElem? (i := 266) (by decide +kernel), List.mem_of_getElem? (i := 344) (by decide +kernel), List.mem_of_getElem? (i := 345) (by decide +kernel)⟩
theorem lw_p15 : lw_okq (⟨"LetterWeaveModel", "isBefore", "(II)Z"⟩, 17) := ⟨⟨by decide +kernel, by decide +kernel⟩, List.mem_of_getElem? (i := 266) (by decide +kernel), List.mem_of_getElem? (i := 348) (by decide +kernel), List.mem_of_getElem? (i := 349) (by decide +kernel)⟩
def lw_privs_1 : List (MethodName × Nat) := [(⟨"java/lang/Throwable", "fillInStackTrace", "(I)Ljava/lang/Throwable;"⟩, 6), (⟨"LetterWeave", "checkRoom", "(I)V"⟩, 14), (⟨"LetterWeave", "placeOf", "(II)I"⟩, 14), (⟨"LetterWeave", "isShown", "(II)Z"⟩, 14), (⟨"LetterWeave", "addChange", "(II)I"⟩, 14), (⟨"LetterWeave", "weave", "(II)V"⟩, 14), (⟨"LetterWeave", "receive", "(II)V"⟩, 14), (⟨"LetterWeave", "showLetter", "(II)V"⟩, 14), (⟨"LetterWeave", "hideLetter", "(II)V"⟩, 14), (⟨"LetterWeave", "isIn", "(II)Z"⟩, 14), (⟨"LetterWeave", "canCome", "(II)Z"⟩, 14), (⟨"LetterWeave", "placeToRead", "(II)I"⟩, 14), (⟨"LetterWeaveModel", "bad", "(Z)Z"⟩, 17), (⟨"LetterWeaveModel", "look", "(I)V"⟩, 17), (⟨"LetterWeaveModel", "isIn", "(II)Z"⟩, 17), (⟨"LetterWeaveModel", "isBefore", "(II)Z"⟩, 17)]
theorem lw_r1 : ∀ q ∈ lw_privs_1, lw_okq q := List.forall_mem_cons.mpr ⟨lw_p0, List.forall_mem_cons.mpr ⟨lw_p1, List.forall_mem_cons.mpr ⟨lw_p2, List.forall_mem_cons.mpr ⟨lw_p3, List.forall_mem_cons.mpr ⟨lw_p4, List.forall_mem_cons.mpr ⟨lw_p5, List.forall_mem_cons.mpr ⟨lw_p6, List.forall_mem_cons.mpr ⟨lw_p7, List.forall_mem_cons.mpr ⟨lw_p8, List.forall_mem_cons.mpr ⟨lw_p9, List.forall_mem_cons.mpr ⟨lw_p10, List.forall_mem_cons.mpr ⟨lw_p11, List.forall_mem_cons.mpr ⟨lw_p12, List.forall_mem_cons.mpr ⟨lw_p13, List.forall_mem_cons.mpr ⟨lw_p14, List.forall_mem_cons.mpr ⟨lw_p15, fun _ h => absurd h List.not_mem_nil⟩⟩⟩⟩⟩⟩⟩⟩⟩⟩⟩⟩⟩⟩⟩⟩
theorem lw_p16 : lw_okq (⟨"LetterWeaveModel", "done", "(II)I"⟩, 17) := ⟨⟨by decide +kernel, by decide +kernel⟩, List.mem_of_getElem? (i := 266) (by decide +kernel), List.mem_of_getElem? (i := 352) (by decide +kernel), List.mem_of_getElem? (i := 353) (by decide +kernel)⟩
def lw_privs_2 : List (MethodName × Nat) := [(⟨"LetterWeaveModel", "done", "(II)I"⟩, 17)]
theorem lw_r2 : ∀ q ∈ lw_privs_2, lw_okq q := List.forall_mem_cons.mpr ⟨lw_p16, fun _ h => absurd h List.not_mem_nil⟩
def lw_privs : List (MethodName × Nat) := lw_privs_1 ++ (lw_privs_2)
def lw_tbl : List Cond := k2_sels lw_privs ++ tables_1
theorem lw_privs_ok : ∀ q ∈ lw_privs, lw_okq q := by
  show ∀ q ∈ lw_privs_1 ++ (lw_privs_2), lw_okq q
  exact List.forall_mem_append.mpr ⟨lw_r1, lw_r2⟩

/-! ===== BEGIN words of one list among another's, by their places ===== -/
theorem goodIn_r {big : List Cond} (ws : List Cond) (ps : List Nat) (hp : ws = ps.filterMap (fun i => big[i]?)) (h : ws.all goodWord = true) : GoodIn big ws := by
  intro w hw
  have h1 := List.all_eq_true.mp h w hw
  rw [hp] at hw
  obtain ⟨i, -, hi⟩ := List.mem_filterMap.mp hw
  have hm : w ∈ big := by first | exact List.mem_of_getElem? hi | exact List.getElem?_mem hi
  exact ⟨hm, good_of_word h1⟩
theorem goodIn_app {big a b : List Cond} (ha : GoodIn big a) (hb : GoodIn big b) : GoodIn big (a ++ b) := fun w h => (List.mem_append.mp h).elim (ha w) (hb w)
theorem goodIn_ca {big a b : List Cond} {c : Cond} (ha : GoodIn big (c :: a)) (hb : GoodIn big b) : GoodIn big (c :: (a ++ b)) := fun w h => (List.mem_cons.mp h).elim (fun e => ha w (List.mem_cons.mpr (Or.inl e))) (fun h => (List.mem_append.mp h).elim (fun h => ha w (List.mem_cons.mpr (Or.inr h))) (hb w))
theorem goodIn_sub {big ws : List Cond} (hm : ∀ w ∈ ws, w ∈ big) (h : ws.all goodWord = true) : GoodIn big ws := fun w hw => ⟨hm w hw, good_of_word (List.all_eq_true.mp h w hw)⟩
/-! ===== END ===== -/

/-! ===== BEGIN exceptions that leave a method, and their catching by the caller (launches without stack traces) ===== -/
section VXA
/-! The laws vx_back, vx_callV, vx_callS, vx_callSW, vx_throw0, vx_throwS follow proofs of the library, with one case more: JvmDerived/Free/Laws.lean (Back.of_free), Shelf42/LK1.lean (callV, callS), Shelf/KitTraced.lean (throwNew0V, throwNewS). -/
/-- where a method has thrown q: the class by its name, the cell, what was written, the world -/
def vx_T (XC : String → State → State → Prop) (st : State) (q : Addr) (t : State) (mc ms : Nat) (free : Addr → Prop) : Prop :=
  ∃ (E : String) (ce : Cell) (L : List Loc), XC E st t ∧ t.heap[q]? = some ce ∧ ce.vm = .none ∧ st.vm.findClass E = some ce.cls ∧ st.WarmedH t.vm ∧ st.sameButNew ({ t with vm := st.vm } : State) L mc ms ∧ ∀ z ∈ L, free z.base
def vx_Q (Qc : Array Value → State → Outcome → State → Prop) (XC : String → State → State → Prop) (mc ms : Nat) (free : Addr → Prop) : Array Value → State → Outcome → State → Prop := fun a st o t =>
  (Qc a st o t ∧ ∃ L, FrameEnd st o t L mc ms ∧ ∀ q ∈ L, free q.base) ∨ ∃ q, o = .threw q ∧ vx_T XC st q t mc ms free
/-- a callee that returns or throws -/
def vx_Met (l : Launch) (y : MethodName) (ws : List Cond) (rm : Room) (Pc : Array Value → State → Prop) (Qc : Array Value → State → Outcome → State → Prop) (XC : String → State → State → Prop) (mc ms : Nat) (free : Addr → Prop) : Prop :=
  MetFree l y (headSpec ws rm) Pc (fun _ _ _ _ _ => True) (vx_Q Qc XC mc ms free)
def vx_Post (XC : String → State → State → Prop) (mc ms : Nat) (free : Addr → Prop) : Pt → Array Value → Addr → Pt → Prop := fun A a q B =>
  ∃ (g : JFrame) (mk : MethodId) (t : State) (L : List Loc) (E : String) (ce : Cell), B.U.heap = t.heap ∧ B.U.vm = t.vm ∧ XC E (A.U.calling g mk a) t ∧ t.heap[q]? = some ce ∧ ce.vm = .none ∧ A.U.vm.findClass E = some ce.cls ∧ B.locs = A.locs ++ L ∧ (∀ z ∈ L, free z.base) ∧ B.cells = A.cells + mc ∧ B.slots = A.slots + ms
def vx_Back (l : Launch) (R : Room) (p : Program) (e : Env) (below : List Frame) (s : State) (sargs : Array Value) (y : MethodName) (len W9 : Nat)
    (Pre : Pt → Array Value → Prop) (Post : Pt → Array Value → Option Value → Pt → Prop) (PostX : Pt → Array Value → Addr → Pt → Prop) : Prop :=
  ∀ (m : MethodId) (meth : Method) (c : Code) (A : Pt) (g : JFrame) (ig : Instr) (mk : MethodId) (a : Array Value),
    Stand p l e R s m sargs below meth c A.U A.locs A.cells A.slots → g.method = m → g.locals.size = c.maxLocals → decode c.code g.pc = .ok (ig, len) →
    2 * g.monitorRoom + (g.stack.map fun v => v.category).sum ≤ W9 → A.U.methodNamed? y = some mk → Pre A a →
    (∃ (v : Option Value) (B : Pt), Stand p l e R s m sargs below meth c B.U B.locs B.cells B.slots ∧ Post A a v B ∧
      Steps p.tables e below (doInvoke e (A.U.setTop g) [] mk a).1 (B.U.setTop { g with pc := g.pc + len, stack := v.toList ++ g.stack })) ∨
    (∃ (q : Addr) (B : Pt), Stand p l e R s m sargs below meth c B.U B.locs B.cells B.slots ∧ PostX A a q B ∧
      Steps p.tables e below (doInvoke e (A.U.setTop g) [] mk a).1 ((B.U.setTop g).pushFrame (.throwing q)))
section Payer
variable {l : Launch} {R : Room} {p : Program} {e : Env} {below : List Frame} {s : State} {sargs : Array Value} {y : MethodName} {len W9 : Nat}
theorem vx_back {ws : List Cond} {rm : Room} {Pc : Array Value → State → Prop} {Qc : Array Value → State → Outcome → State → Prop} {XC : String → State → State → Prop} {mc ms : Nat} {free : Addr → Prop} {bytes : ByteArray} {maxL : Nat} {ret : Option FieldType}
    (hM : vx_Met l y ws rm Pc Qc XC mc ms free) (hblind : FrameBlind Pc) (hrc : rm.cells = mc) (hrs : rm.slots = ms)
    (hframes : rm.frames + 1 ≤ R.frames) (hlocals : W9 + (maxL + 11) + rm.locals ≤ R.locals)
    (hws : ∀ w ∈ ws, ∀ a' U, s.WarmedH U.vm → w.before a' U = true) (hcode : Cond.code y bytes maxL ret ∈ ws) (hinit : ∀ a' U, s.WarmedH U.vm → (Cond.initialized y.cls).before a' U = true) :
    vx_Back l R p e below s sargs y len W9 (PreOf R mc ms Pc) (PostOf Qc mc ms free) (vx_Post XC mc ms free) := by
  intro m meth c A g ig mk a X hg hsize hdg hW hn hp
  have h1 : (headSpec ws rm).pre.before a A.U = true := atoms_intro fun w hw => hws w hw _ _ X.warmed
  have h2 : (Cond.code y bytes maxL ret).before a A.U = true := hws _ hcode _ _ X.warmed
  have h3 : (Cond.initialized y.cls).before a A.U = true := hinit _ _ X.warmed
  have h4 : A.cells + (headSpec ws rm).room.cells ≤ R.cells := by rw [show (headSpec ws rm).room.cells = mc from hrc]; exact hp.1
  have h5 : A.slots + (headSpec ws rm).room.slots ≤ R.slots := by rw [show (headSpec ws rm).room.slots = ms from hrs]; exact hp.2.1
  have hPc : Pc a (A.U.calling g mk a) := hblind _ _ _ _ hp.2.2
  obtain ⟨U, Ls, c0, s0⟩ := A
  dsimp only [Pt.U, Pt.locs, Pt.cells, Pt.slots] at h1 h2 h3 h4 h5 X hn hPc ⊢
  obtain ⟨methY, cY, hmY, hcY, -, hlY, -, -, -, -⟩ := Cond.code_spec hn h2
  obtain ⟨kY, hkY, -⟩ := className_of_methodNamed hn
  have hinitY : kY.init = .initialized := Cond.initialized_spec (findClass_of_methodNamed hn) hkY h3
  have h : At U g.method c below := by rw [hg]; exact X.here
  have hlocals9 : W9 + (maxL + 11) + (headSpec ws rm).room.locals ≤ R.locals := hlocals
  have happ : (headSpec ws rm).appliesLoose y e.platform (U.calling g mk a) = true :=
    Spec.appliesLoose_calling (g := g) h hdg hn hkY hinitY
      (X.room_calling (g := g) (R' := (headSpec ws rm).room) hsize hmY hcY hframes (by rw [hlY]; omega) h4 h5) h1
  obtain ⟨mid, hmid⟩ := h.above
  have hfr : (U.setTop g).frames = (.java g :: mid) ++ below := by rw [State.frames_setTop' g h.top, hmid]; rfl
  obtain ⟨o, s₂, hsteps, -, hend, hq⟩ := Steps.callFree hM p X.admits X.cas X.clock (acts := []) hfr happ hPc trivial
  have hq' : vx_Q Qc XC mc ms free a (U.calling g mk a) o s₂ := hq
  rw [State.frames_setTop' g h.top] at hend
  obtain ⟨g₀, hg0⟩ := Option.isSome_iff_exists.mp h.top
  obtain ⟨r, hr⟩ := State.topJava?_eq_some.mp hg0
  have hr' : (({ U with heap := s₂.heap, slotsUsed := s₂.slotsUsed } : State).setVm s₂.vm).frames = .java g₀ :: r := hr
  rcases hq' with ⟨hqc, L, hfe, hL⟩ | ⟨q, rfl, E, ce, L, hx, hce, hcv, hcl, hW₂, hsm, hL⟩
  · obtain ⟨⟨v, rfl⟩, hW₂, e2, q2, q3, q4, q5, q6⟩ := id hfe
    have e3 : s₂ = ({ (U.calling g mk a).setFrames s₂.frames with heap := s₂.heap, slotsUsed := s₂.slotsUsed } : State).setVm s₂.vm := by
      have : s₂ = ({ s₂ with vm := (U.calling g mk a).vm } : State).setVm s₂.vm := rfl
      rw [e2] at this
      exact this
    obtain ⟨c₂, i₂, len₂, hc₂, hd₂, hf₂⟩ := hend
    have hW' : U.WarmedH s₂.vm := hW₂
    have hcc : c₂ = c := by
      have h1 : s₂.code? g.method = U.code? g.method := by
        rw [State.code?_eq, State.code?_eq, hW'.alike.method?]
      exact Option.some.inj (hc₂.symm.trans (h1.trans h.code))
    subst hcc
    have hlen : len₂ = len := by rw [hdg] at hd₂; cases hd₂; rfl
    subst hlen
    have hs₂ : s₂ = (({ U with heap := s₂.heap, slotsUsed := s₂.slotsUsed } : State).setVm s₂.vm).setTop { g with pc := g.pc + len₂, stack := v.toList ++ g.stack } := by
      refine e3.trans ?_
      rw [hf₂, State.calling_eq h.top, State.setFrames_setFrames, State.setTop_of_frames _ hr', hr]
      rfl
    have hsame : U.sameButNew ({ U with heap := s₂.heap, slotsUsed := s₂.slotsUsed } : State) L mc ms := by
      refine ⟨?_, q2, q3, q4, q5, q6⟩
      obtain ⟨t, ht, -⟩ := State.frames_cons hr
      show ({ U with heap := s₂.heap, slotsUsed := s₂.slotsUsed } : State) = { U.setFrames U.frames with heap := s₂.heap, slotsUsed := s₂.slotsUsed }
      rw [State.setFrames_self ht]
    subst hg
    refine Or.inl ⟨v, ⟨(({ U with heap := s₂.heap, slotsUsed := s₂.slotsUsed } : State).setVm s₂.vm), Ls ++ L, c0 + mc, s0 + ms⟩,
      ⟨X.admits, X.cas, X.clock, X.frames, X.room, X.hears, X.method, X.code, (X.here.setHeapUsed s₂.heap s₂.slotsUsed).setVm hW'.alike, X.tail, State.WarmedH.trans X.warmed hW', X.limits, X.bytes, X.same.trans (hsame.setVm s.vm)⟩,
      ⟨g, mk, s₂, L, rfl, rfl, hqc, rfl, hL, rfl, rfl⟩, ?_⟩
    show Steps p.tables e below _ ((({ U with heap := s₂.heap, slotsUsed := s₂.slotsUsed } : State).setVm s₂.vm).setTop { g with pc := g.pc + len₂, stack := v.toList ++ g.stack })
    rw [← hs₂]
    exact hsteps
  · obtain ⟨e2, q2, q3, q4, q5, q6⟩ := id hsm
    have e3 : s₂ = ({ (U.calling g mk a).setFrames s₂.frames with heap := s₂.heap, slotsUsed := s₂.slotsUsed } : State).setVm s₂.vm := by
      have : s₂ = ({ s₂ with vm := (U.calling g mk a).vm } : State).setVm s₂.vm := rfl
      rw [e2] at this
      exact this
    have hf₂ : s₂.frames = .throwing q :: .java g :: U.frames.tail := hend
    have hW' : U.WarmedH s₂.vm := hW₂
    have hs₂ : s₂ = ((({ U with heap := s₂.heap, slotsUsed := s₂.slotsUsed } : State).setVm s₂.vm).setTop g).pushFrame (.throwing q) := by
      refine e3.trans ?_
      rw [hf₂, State.calling_eq h.top, State.setFrames_setFrames, State.pushFrame, State.frames_setTop _ hr', State.setTop_of_frames _ hr', State.setFrames_setFrames, hr]
      rfl
    have hsame : U.sameButNew ({ U with heap := s₂.heap, slotsUsed := s₂.slotsUsed } : State) L mc ms := by
      refine ⟨?_, q2, q3, q4, q5, q6⟩
      obtain ⟨t, ht, -⟩ := State.frames_cons hr
      show ({ U with heap := s₂.heap, slotsUsed := s₂.slotsUsed } : State) = { U.setFrames U.frames with heap := s₂.heap, slotsUsed := s₂.slotsUsed }
      rw [State.setFrames_self ht]
    subst hg
    refine Or.inr ⟨q, ⟨(({ U with heap := s₂.heap, slotsUsed := s₂.slotsUsed } : State).setVm s₂.vm), Ls ++ L, c0 + mc, s0 + ms⟩,
      ⟨X.admits, X.cas, X.clock, X.frames, X.room, X.hears, X.method, X.code, (X.here.setHeapUsed s₂.heap s₂.slotsUsed).setVm hW'.alike, X.tail, State.WarmedH.trans X.warmed hW', X.limits, X.bytes, X.same.trans (hsame.setVm s.vm)⟩,
      ⟨g, mk, s₂, L, E, ce, rfl, rfl, hx, hce, hcv, hcl, rfl, hL, rfl, rfl⟩, ?_⟩
    show Steps p.tables e below _ (((({ U with heap := s₂.heap, slotsUsed := s₂.slotsUsed } : State).setVm s₂.vm).setTop g).pushFrame (.throwing q))
    rw [← hs₂]
    exact hsteps
end Payer
section Calls
variable {p : Program} {l : Launch} {e : Env} {R : Room} {s : State} {m : MethodId} {args : Array Value} {below : List Frame} {meth : Method} {c : Code} {T : State} {locs : List Loc} {cells slots : Nat}
theorem vx_callV (X : Stand p l e R s m args below meth c T locs cells slots) (hexec : p.tables.exec = Jvm.exec) {own C : String} {index : Nat} {y : MethodName} {bytes : ByteArray} {maxL : Nat} {ret : Option FieldType}
    (hown : s.vm.findClass own = some m.cls) (hlink : (Cond.methodLink own index y).before args s = true) (hinst : (Cond.instanceMethod y).before args s = true) (hsel : (Cond.selects C y y).before args s = true)
    (hcode : (Cond.code y bytes maxL ret).before args s = true) (hy : y.cls ≠ "java/lang/invoke/MethodHandle" ∧ y.cls ≠ "java/lang/invoke/VarHandle")
    {W9 : Nat} {Pre : Pt → Array Value → Prop} {Post : Pt → Array Value → Option Value → Pt → Prop} {PostX : Pt → Array Value → Addr → Pt → Prop} (hK : vx_Back l R p e below s args y 3 W9 Pre Post PostX)
    {b : Addr} {cellB : Cell} (hcell : T.heap[b]? = some cellB) (hobj : cellB.vm.isStatics = false) (hcls : s.vm.findClass C = some cellB.cls)
    {g : JFrame} (hg : g.method = m) (hsize : g.locals.size = c.maxLocals) {argsL rest : List Value} (hlen : ∀ sig, parseMethodDescriptor y.desc = some sig → argsL.length = sig.parameters.length)
    (hstack : g.stack = argsL.reverse ++ .ref b :: rest) (hW : 2 * g.monitorRoom + (rest.map fun v => v.category).sum ≤ W9) (hdg : decode c.code g.pc = .ok (.invokevirtual index, 3))
    (hpre : ∀ vm₁, s.WarmedH vm₁ → Pre ⟨T.setVm vm₁, locs, cells, slots⟩ (Value.ref b :: argsL).toArray) :
    (∃ (v : Option Value) (vm₁ : Vm) (B : Pt), s.WarmedH vm₁ ∧ Stand p l e R s m args below meth c B.U B.locs B.cells B.slots ∧ Post ⟨T.setVm vm₁, locs, cells, slots⟩ (Value.ref b :: argsL).toArray v B ∧
      ∀ target, Steps p.tables e below (B.U.setTop { g with pc := g.pc + 3, stack := v.toList ++ rest }) target → Steps p.tables e below (T.setTop g) target) ∨
    (∃ (q : Addr) (vm₁ : Vm) (B : Pt), s.WarmedH vm₁ ∧ Stand p l e R s m args below meth c B.U B.locs B.cells B.slots ∧ PostX ⟨T.setVm vm₁, locs, cells, slots⟩ (Value.ref b :: argsL).toArray q B ∧
      Steps p.tables e below (T.setTop g) ((B.U.setTop { g with stack := rest }).pushFrame (.throwing q))) := by
  obtain ⟨mk, methM, hnamed, hmethM, hstM, habM⟩ := Cond.instanceMethod_spec hinst
  obtain ⟨methM', cM, hmethM', -, -, -, -, -, -, hsigM⟩ := Cond.code_spec hnamed hcode
  cases hmethM.symm.trans hmethM'
  obtain ⟨c2, r2, m2, q1, q2, q3, q4, kP, hkP, hkPi⟩ := Cond.selects_spec hsel
  cases hcls.symm.trans q1
  cases (State.methodFound?_of_named hnamed hy).symm.trans q2
  cases hnamed.symm.trans q3
  have hselP : selectMethod e.platform s.vm cellB.cls mk = .method mk := by rw [Launch.admits_selectMethod X.admits]; exact q4
  obtain ⟨vm₁, X₁, hstep₁⟩ := X.invokevirtual hexec hown hlink hnamed hmethM hstM hkP hkPi hy (a := b) (cell := cellB) hcell
    (fun z h => by rw [h] at hobj; cases hobj) hselP hmethM habM hkP hkPi (g := g) hg (argsL := argsL) (rest := rest) (hlen _ hsigM) hstack hdg
  rcases hK m meth c ⟨T.setVm vm₁, locs, cells, slots⟩ { g with stack := rest } (.invokevirtual index) mk (Value.ref b :: argsL).toArray X₁ hg hsize hdg hW (X₁.named hnamed) (hpre vm₁ X₁.warmed) with ⟨v, B, X', hpost, hsteps⟩ | ⟨q, B, X', hpost, hsteps⟩
  · exact Or.inl ⟨v, vm₁, B, X₁.warmed, X', hpost, fun target h => hstep₁ _ fun acts => by rw [doInvoke_state]; exact hsteps.trans h⟩
  · exact Or.inr ⟨q, vm₁, B, X₁.warmed, X', hpost, hstep₁ _ fun acts => by rw [doInvoke_state]; exact hsteps⟩
theorem vx_callS (X : Stand p l e R s m args below meth c T locs cells slots) (hexec : p.tables.exec = Jvm.exec) {own : String} {index : Nat} {y : MethodName} {bytes : ByteArray} {maxL : Nat} {ret : Option FieldType}
    (hown : s.vm.findClass own = some m.cls) (hlink : (Cond.methodLink own index y).before args s = true) (hstat : (Cond.static y).before args s = true) (hinit : (Cond.initialized y.cls).before args s = true)
    (hcode : (Cond.code y bytes maxL ret).before args s = true) (hy : y.cls ≠ "java/lang/invoke/MethodHandle" ∧ y.cls ≠ "java/lang/invoke/VarHandle")
    {W9 : Nat} {Pre : Pt → Array Value → Prop} {Post : Pt → Array Value → Option Value → Pt → Prop} {PostX : Pt → Array Value → Addr → Pt → Prop} (hK : vx_Back l R p e below s args y 3 W9 Pre Post PostX)
    {g : JFrame} (hg : g.method = m) (hsize : g.locals.size = c.maxLocals) {argsL rest : List Value} (hlen : ∀ sig, parseMethodDescriptor y.desc = some sig → argsL.length = sig.parameters.length)
    (hstack : g.stack = argsL.reverse ++ rest) (hW : 2 * g.monitorRoom + (rest.map fun v => v.category).sum ≤ W9) (hdg : decode c.code g.pc = .ok (.invokestatic index, 3))
    (hpre : ∀ vm₁, s.WarmedH vm₁ → Pre ⟨T.setVm vm₁, locs, cells, slots⟩ argsL.toArray) :
    (∃ (v : Option Value) (vm₁ : Vm) (B : Pt), s.WarmedH vm₁ ∧ Stand p l e R s m args below meth c B.U B.locs B.cells B.slots ∧ Post ⟨T.setVm vm₁, locs, cells, slots⟩ argsL.toArray v B ∧
      ∀ target, Steps p.tables e below (B.U.setTop { g with pc := g.pc + 3, stack := v.toList ++ rest }) target → Steps p.tables e below (T.setTop g) target) ∨
    (∃ (q : Addr) (vm₁ : Vm) (B : Pt), s.WarmedH vm₁ ∧ Stand p l e R s m args below meth c B.U B.locs B.cells B.slots ∧ PostX ⟨T.setVm vm₁, locs, cells, slots⟩ argsL.toArray q B ∧
      Steps p.tables e below (T.setTop g) ((B.U.setTop { g with stack := rest }).pushFrame (.throwing q))) := by
  obtain ⟨mk, hnamed⟩ := Cond.code_named hcode
  obtain ⟨methM, cM, hmethM, -, -, -, -, -, -, hsigM⟩ := Cond.code_spec hnamed hcode
  have hstatic : methM.isStatic = true := Cond.static_spec hnamed hmethM hstat
  obtain ⟨kP, hkP, -⟩ := className_of_methodNamed hnamed
  have hinitP : kP.init = .initialized := Cond.initialized_spec (findClass_of_methodNamed hnamed) hkP hinit
  obtain ⟨vm₁, X₁, hstep₁⟩ := X.invokestatic hexec hown hlink hnamed hmethM hstatic hkP hinitP hy (g := g) hg (argsL := argsL) (rest := rest) (hlen _ hsigM) hstack hdg
  rcases hK m meth c ⟨T.setVm vm₁, locs, cells, slots⟩ { g with stack := rest } (.invokestatic index) mk argsL.toArray X₁ hg hsize hdg hW (X₁.named hnamed) (hpre vm₁ X₁.warmed) with ⟨v, B, X', hpost, hsteps⟩ | ⟨q, B, X', hpost, hsteps⟩
  · exact Or.inl ⟨v, vm₁, B, X₁.warmed, X', hpost, fun target h => hstep₁ _ fun acts => by rw [doInvoke_state]; exact hsteps.trans h⟩
  · exact Or.inr ⟨q, vm₁, B, X₁.warmed, X', hpost, hstep₁ _ fun acts => by rw [doInvoke_state]; exact hsteps⟩
end Calls
theorem vx_cls {s : State} {T : State} {vm₁ : Vm} {E : String} {k : ClassId} (hW : s.WarmedH vm₁) (h : (T.setVm vm₁).vm.findClass E = some k) : s.vm.findClass E = some k := by
  have h1 : vm₁.findClass E = some k := h
  rw [hW.alike.findClass] at h1
  exact h1
/-- the method's frame g, with q thrown over it -/
def vx_W (p : Program) (l : Launch) (e : Env) (R : Room) (s : State) (m : MethodId) (args : Array Value) (below : List Frame) (meth : Method) (c : Code) (H : Heap) (locs : List Loc) (cells slots : Nat) (Q : State → Prop) (g : JFrame) (q : Addr) : Prop :=
  ∀ T : State, T.heap = H → Stand p l e R s m args below meth c T locs cells slots → ∃ t, Steps p.tables e below ((T.setTop g).pushFrame (.throwing q)) t ∧ Q t
def vx_Run (p : Program) (l : Launch) (e : Env) (R : Room) (s : State) (m : MethodId) (args : Array Value) (below : List Frame) (meth : Method) (c : Code) (H : Heap) (locs : List Loc) (cells slots mc ms : Nat) (g : JFrame) (rest : List Value) (Qa : State → Outcome → State → Prop) (XC : String → State → State → Prop) (free : Addr → Prop) : Prop :=
  ∀ T : State, T.heap = H → Stand p l e R s m args below meth c T locs cells slots →
    (∃ (v : Option Value) (st₀ t T' : State) (L : List Loc), st₀.heap = H ∧ Stand p l e R s m args below meth c T' (locs ++ L) (cells + mc) (slots + ms) ∧ (∀ q ∈ L, free q.base) ∧ T'.heap = t.heap ∧ T'.vm = t.vm ∧ Qa st₀ (.returned v) t ∧
      Goes p e below T g T' { g with pc := g.pc + 3, stack := v.toList ++ rest }) ∨
    (∃ (q : Addr) (st₀ t T' : State) (L : List Loc) (E : String) (ce : Cell), st₀.heap = H ∧ Stand p l e R s m args below meth c T' (locs ++ L) (cells + mc) (slots + ms) ∧ (∀ z ∈ L, free z.base) ∧ T'.heap = t.heap ∧ T'.vm = t.vm ∧ XC E st₀ t ∧ t.heap[q]? = some ce ∧ ce.vm = .none ∧ s.vm.findClass E = some ce.cls ∧
      Steps p.tables e below (T.setTop g) ((T'.setTop { g with stack := rest }).pushFrame (.throwing q)))
def vx_X {S : Type} (px : S → Prop) (B : String → S → State → Prop) (A : Nat → Prop) : String → State → State → Prop := fun E st t => ∃ u : S, px u ∧ B E u t ∧ va_F A st t
section Runs
variable {p : Program} {l : Launch} {e : Env} {R : Room} {s : State} {m : MethodId} {args : Array Value} {below : List Frame} {meth : Method} {c : Code} {H : Heap} {locs : List Loc} {cells slots : Nat}
variable {y : MethodName} {bytes cc : ByteArray} {maxL nL mc ms n index : Nat} {ret : Option FieldType} {ws : List Cond} {rm : Room} {Pc : Array Value → State → Prop} {Qc : Array Value → State → Outcome → State → Prop} {XC : String → State → State → Prop} {free : Addr → Prop} {Ts : List Cond} {own C : String} {b : Addr} {As rest : List Value} {g : JFrame}
theorem vx_callBack (cb : CallB R s args own index y bytes maxL ret ws rm mc ms n) (hM : vx_Met l y ws rm Pc Qc XC mc ms free) (hbl : FrameBlind Pc) : vx_Back l R p e below s args y 3 8 (PreOf R mc ms Pc) (PostOf Qc mc ms free) (vx_Post XC mc ms free) := by
  obtain ⟨hrc, hrs, hfr, hlo, hws, hcw, -, hini, -⟩ := cb
  exact vx_back (bytes := bytes) (maxL := maxL) (ret := ret) hM hbl hrc hrs hfr hlo hws hcw (fun a' U hW => word_at hW (Or.inl (by first | rfl | simp [Cond.onTables, Cond.keeps, Cond.steady])) hini)
theorem vx_runV (S : CallFix p m c cc nL s args Ts own) (hM : vx_Met l y ws rm Pc Qc XC mc ms free) (cw : CallW R s args own C index y bytes maxL ret ws rm mc ms n) (hp : PreV s H C b Pc As)
    (hg : g.method = m) (hn : As.length = n) (hsize : g.locals.size = nL) (hstack : g.stack = As.reverse ++ .ref b :: rest) (hW : 2 * g.monitorRoom + (rest.map fun v => v.category).sum ≤ 8) (hdg : decode cc g.pc = .ok (.invokevirtual index, 3)) (hf : cells + mc ≤ R.cells ∧ slots + ms ≤ R.slots) :
    vx_Run p l e R s m args below meth c H locs cells slots mc ms g rest (Qc (Value.ref b :: As).toArray) XC free := by
  have hK : vx_Back l R p e below s args y 3 8 (PreOf R mc ms Pc) (PostOf Qc mc ms free) (vx_Post XC mc ms free) := vx_callBack cw.1 hM hp.1
  obtain ⟨⟨-, -, -, -, -, -, hcode, -, hy, hlen, hl⟩, hin, hse⟩ := cw
  obtain ⟨hx, hb, hml, ho, -⟩ := S
  obtain ⟨-, ⟨cellB, hcB, hoB, hclB⟩, hPc⟩ := hp
  intro T hT X
  rcases vx_callV X hx (C := C) (bytes := bytes) (maxL := maxL) (ret := ret) ho hl hin hse hcode hy hK (by rw [hT]; exact hcB) hoB hclB hg (hsize.trans hml.symm) (argsL := As) (rest := rest) (fun sig h => hn.trans (hlen sig h)) hstack hW (by rw [hb]; exact hdg)
    (fun vm₁ hW₁ => ⟨hf.1, hf.2, hPc (T.setVm vm₁) hT hW₁⟩) with ⟨v, vm₁, ⟨U', l2, c2, s2⟩, hW₁, X', ⟨g', mk, t, L, e1, e2, hq, h1, hL, h2, h3⟩, st⟩ | ⟨q, vm₁, ⟨U', l2, c2, s2⟩, hW₁, X', ⟨g', mk, t, L, E, ce, e1, e2, hq, hce, hcv, hcl, h1, hL, h2, h3⟩, st⟩
  · dsimp only [Pt.U, Pt.locs, Pt.cells, Pt.slots] at X' e1 e2 h1 h2 h3 st
    subst h1; subst h2; subst h3
    exact Or.inl ⟨v, (T.setVm vm₁).calling g' mk (Value.ref b :: As).toArray, t, U', L, hT, X', hL, e1, e2, hq, st⟩
  · dsimp only [Pt.U, Pt.locs, Pt.cells, Pt.slots] at X' e1 e2 h1 h2 h3 st hcl
    subst h1; subst h2; subst h3
    exact Or.inr ⟨q, (T.setVm vm₁).calling g' mk (Value.ref b :: As).toArray, t, U', L, E, ce, hT, X', hL, e1, e2, hq, hce, hcv, vx_cls hW₁ hcl, st⟩
theorem vx_runS (S : CallFix p m c cc nL s args Ts own) (hM : vx_Met l y ws rm Pc Qc XC mc ms free) (cw : CallB R s args own index y bytes maxL ret ws rm mc ms n ∧ (Cond.static y).before args s = true) (hp : PreS s H Pc As)
    (hg : g.method = m) (hn : As.length = n) (hsize : g.locals.size = nL) (hstack : g.stack = As.reverse ++ rest) (hW : 2 * g.monitorRoom + (rest.map fun v => v.category).sum ≤ 8) (hdg : decode cc g.pc = .ok (.invokestatic index, 3)) (hf : cells + mc ≤ R.cells ∧ slots + ms ≤ R.slots) :
    vx_Run p l e R s m args below meth c H locs cells slots mc ms g rest (Qc As.toArray) XC free := by
  have hK : vx_Back l R p e below s args y 3 8 (PreOf R mc ms Pc) (PostOf Qc mc ms free) (vx_Post XC mc ms free) := vx_callBack cw.1 hM hp.1
  obtain ⟨⟨-, -, -, -, -, -, hcode, hini, hy, hlen, hl⟩, hstt⟩ := cw
  obtain ⟨hx, hb, hml, ho, -⟩ := S
  intro T hT X
  rcases vx_callS X hx (bytes := bytes) (maxL := maxL) (ret := ret) ho hl hstt hini hcode hy hK hg (hsize.trans hml.symm) (argsL := As) (rest := rest) (fun sig h => hn.trans (hlen sig h)) hstack hW (by rw [hb]; exact hdg)
    (fun vm₁ hW₁ => ⟨hf.1, hf.2, hp.2 (T.setVm vm₁) hT hW₁⟩) with ⟨v, vm₁, ⟨U', l2, c2, s2⟩, hW₁, X', ⟨g', mk, t, L, e1, e2, hq, h1, hL, h2, h3⟩, st⟩ | ⟨q, vm₁, ⟨U', l2, c2, s2⟩, hW₁, X', ⟨g', mk, t, L, E, ce, e1, e2, hq, hce, hcv, hcl, h1, hL, h2, h3⟩, st⟩
  · dsimp only [Pt.U, Pt.locs, Pt.cells, Pt.slots] at X' e1 e2 h1 h2 h3 st
    subst h1; subst h2; subst h3
    exact Or.inl ⟨v, (T.setVm vm₁).calling g' mk As.toArray, t, U', L, hT, X', hL, e1, e2, hq, st⟩
  · dsimp only [Pt.U, Pt.locs, Pt.cells, Pt.slots] at X' e1 e2 h1 h2 h3 st hcl
    subst h1; subst h2; subst h3
    exact Or.inr ⟨q, (T.setVm vm₁).calling g' mk As.toArray, t, U', L, E, ce, hT, X', hL, e1, e2, hq, hce, hcv, vx_cls hW₁ hcl, st⟩
end Runs
section Rows
variable {p : Program} {l : Launch} {e : Env} {R : Room} {s : State} {m : MethodId} {args : Array Value} {below : List Frame} {meth : Method} {c : Code} {H : Heap} {locs : List Loc} {cells slots : Nat} {Q : State → Prop}
variable {mc ms : Nat} {free : Addr → Prop} {A0 A1 : Nat → Prop} {H0 : Heap} {a : Array Value} {pc : Nat} {ls : Array Slot} {st0 rest : List Value}
theorem vx_keep {st₀ t T' : State} {L : List Loc} (h0 : st₀.heap = H) (e1 : T'.heap = t.heap) (hS : va_S A0 H0 H locs) (hA : ∀ q, q < H.size → A1 q → A0 q) (hf : ∀ q, free q → A0 q) (hL : ∀ q ∈ L, free q.base) (hF : va_F A1 st₀ t) :
    H.size ≤ T'.heap.size ∧ (∀ q : Nat, q < H.size → ¬ A1 q → T'.heap[q]? = H[q]?) ∧ va_S A0 H0 T'.heap (locs ++ L) := by
  obtain ⟨hz, hk⟩ := hF
  rw [h0] at hz hk
  exact ⟨by rw [e1]; exact hz, fun q h1 h2 => by rw [e1]; exact hk q h1 h2,
    ⟨Nat.le_trans hS.1 (by rw [e1]; exact hz), fun q h1 h2 => by rw [e1, hk q (Nat.lt_of_lt_of_le h1 hS.1) (fun z => h2 (hA q (Nat.lt_of_lt_of_le h1 hS.1) z))]; exact hS.2.1 q h1 h2, fun q hq => by
      rcases List.mem_append.mp hq with h | h
      · exact hS.2.2 q h
      · exact hf _ (hL q h)⟩⟩
theorem vx_calli {S SX : Type} {post : Int32 → S → Prop} {px : SX → Prop} {B : S → State → Prop} {BX : String → SX → State → Prop} {AX : Nat → Prop} (hr : vx_Run p l e R s m args below meth c H locs cells slots mc ms (F0 m pc ls st0) rest (va_Qi post B A1 a) (vx_X px BX AX) free) (hS : va_S A0 H0 H locs) (hA : ∀ q, q < H.size → A1 q → A0 q) (hf : ∀ q, free q → A0 q) (hAX : ∀ q, q < H.size → AX q → A0 q)
    (kx : ∀ (E : String) (ce : Cell) (q9 : Addr) (u : SX) (t : State) (H1 : Heap) (locs1 : List Loc), t.heap = H1 → s.vm.Alike t.vm → px u → BX E u t → H.size ≤ H1.size → (∀ q : Nat, q < H.size → ¬ AX q → H1[q]? = H[q]?) → va_S A0 H0 H1 locs1 → H1[q9]? = some ce → ce.vm = .none → s.vm.findClass E = some ce.cls → vx_W p l e R s m args below meth c H1 locs1 (cells + mc) (slots + ms) Q (F0 m pc ls rest) q9)
    (kk : ∀ (r : Int32) (u : S) (t : State) (H1 : Heap) (locs1 : List Loc), t.heap = H1 → s.vm.Alike t.vm → post r u → B u t → H.size ≤ H1.size → (∀ q : Nat, q < H.size → ¬ A1 q → H1[q]? = H[q]?) → va_S A0 H0 H1 locs1 → W p l e R s m args below meth c H1 locs1 (cells + mc) (slots + ms) Q (F0 m (pc + 3) ls (.int r :: rest))) : W p l e R s m args below meth c H locs cells slots Q (F0 m pc ls st0) := by
  intro T hT X
  rcases hr T hT X with ⟨v, st₀, t, T', L, h0, X', hL, e1, e2, ⟨⟨r, u, hv, hp, hb⟩, hF⟩, st⟩ | ⟨q, st₀, t, T', L, E, ce, h0, X', hL, e1, e2, ⟨u, hp, hb, hF⟩, hce, hcv, hcl, st⟩
  · cases hv
    obtain ⟨k1, k2, k3⟩ := vx_keep h0 e1 hS hA hf hL hF
    obtain ⟨t2, a1, b1⟩ := kk r u t T'.heap (locs ++ L) e1.symm (by rw [← e2]; exact X'.warmed.alike) hp hb k1 k2 k3 T' rfl X'
    exact ⟨t2, st t2 a1, b1⟩
  · obtain ⟨k1, k2, k3⟩ := vx_keep h0 e1 hS hAX hf hL hF
    obtain ⟨t2, a1, b1⟩ := kx E ce q u t T'.heap (locs ++ L) e1.symm (by rw [← e2]; exact X'.warmed.alike) hp hb k1 k2 k3 (by rw [e1]; exact hce) hcv hcl T' rfl X'
    exact ⟨t2, st.trans a1, b1⟩
theorem vx_calll {S SX : Type} {post : Int64 → S → Prop} {px : SX → Prop} {B : S → State → Prop} {BX : String → SX → State → Prop} {AX : Nat → Prop} (hr : vx_Run p l e R s m args below meth c H locs cells slots mc ms (F0 m pc ls st0) rest (va_Ql post B A1 a) (vx_X px BX AX) free) (hS : va_S A0 H0 H locs) (hA : ∀ q, q < H.size → A1 q → A0 q) (hf : ∀ q, free q → A0 q) (hAX : ∀ q, q < H.size → AX q → A0 q)
    (kx : ∀ (E : String) (ce : Cell) (q9 : Addr) (u : SX) (t : State) (H1 : Heap) (locs1 : List Loc), t.heap = H1 → s.vm.Alike t.vm → px u → BX E u t → H.size ≤ H1.size → (∀ q : Nat, q < H.size → ¬ AX q → H1[q]? = H[q]?) → va_S A0 H0 H1 locs1 → H1[q9]? = some ce → ce.vm = .none → s.vm.findClass E = some ce.cls → vx_W p l e R s m args below meth c H1 locs1 (cells + mc) (slots + ms) Q (F0 m pc ls rest) q9)
    (kk : ∀ (r : Int64) (u : S) (t : State) (H1 : Heap) (locs1 : List Loc), t.heap = H1 → s.vm.Alike t.vm → post r u → B u t → H.size ≤ H1.size → (∀ q : Nat, q < H.size → ¬ A1 q → H1[q]? = H[q]?) → va_S A0 H0 H1 locs1 → W p l e R s m args below meth c H1 locs1 (cells + mc) (slots + ms) Q (F0 m (pc + 3) ls (.long r :: rest))) : W p l e R s m args below meth c H locs cells slots Q (F0 m pc ls st0) := by
  intro T hT X
  rcases hr T hT X with ⟨v, st₀, t, T', L, h0, X', hL, e1, e2, ⟨⟨r, u, hv, hp, hb⟩, hF⟩, st⟩ | ⟨q, st₀, t, T', L, E, ce, h0, X', hL, e1, e2, ⟨u, hp, hb, hF⟩, hce, hcv, hcl, st⟩
  · cases hv
    obtain ⟨k1, k2, k3⟩ := vx_keep h0 e1 hS hA hf hL hF
    obtain ⟨t2, a1, b1⟩ := kk r u t T'.heap (locs ++ L) e1.symm (by rw [← e2]; exact X'.warmed.alike) hp hb k1 k2 k3 T' rfl X'
    exact ⟨t2, st t2 a1, b1⟩
  · obtain ⟨k1, k2, k3⟩ := vx_keep h0 e1 hS hAX hf hL hF
    obtain ⟨t2, a1, b1⟩ := kx E ce q u t T'.heap (locs ++ L) e1.symm (by rw [← e2]; exact X'.warmed.alike) hp hb k1 k2 k3 (by rw [e1]; exact hce) hcv hcl T' rfl X'
    exact ⟨t2, st.trans a1, b1⟩
theorem vx_callf {S SX : Type} {post : UInt32 → S → Prop} {px : SX → Prop} {B : S → State → Prop} {BX : String → SX → State → Prop} {AX : Nat → Prop} (hr : vx_Run p l e R s m args below meth c H locs cells slots mc ms (F0 m pc ls st0) rest (va_Qf post B A1 a) (vx_X px BX AX) free) (hS : va_S A0 H0 H locs) (hA : ∀ q, q < H.size → A1 q → A0 q) (hf : ∀ q, free q → A0 q) (hAX : ∀ q, q < H.size → AX q → A0 q)
    (kx : ∀ (E : String) (ce : Cell) (q9 : Addr) (u : SX) (t : State) (H1 : Heap) (locs1 : List Loc), t.heap = H1 → s.vm.Alike t.vm → px u → BX E u t → H.size ≤ H1.size → (∀ q : Nat, q < H.size → ¬ AX q → H1[q]? = H[q]?) → va_S A0 H0 H1 locs1 → H1[q9]? = some ce → ce.vm = .none → s.vm.findClass E = some ce.cls → vx_W p l e R s m args below meth c H1 locs1 (cells + mc) (slots + ms) Q (F0 m pc ls rest) q9)
    (kk : ∀ (r : UInt32) (u : S) (t : State) (H1 : Heap) (locs1 : List Loc), t.heap = H1 → s.vm.Alike t.vm → post r u → B u t → H.size ≤ H1.size → (∀ q : Nat, q < H.size → ¬ A1 q → H1[q]? = H[q]?) → va_S A0 H0 H1 locs1 → W p l e R s m args below meth c H1 locs1 (cells + mc) (slots + ms) Q (F0 m (pc + 3) ls (.float r :: rest))) : W p l e R s m args below meth c H locs cells slots Q (F0 m pc ls st0) := by
  intro T hT X
  rcases hr T hT X with ⟨v, st₀, t, T', L, h0, X', hL, e1, e2, ⟨⟨r, u, hv, hp, hb⟩, hF⟩, st⟩ | ⟨q, st₀, t, T', L, E, ce, h0, X', hL, e1, e2, ⟨u, hp, hb, hF⟩, hce, hcv, hcl, st⟩
  · cases hv
    obtain ⟨k1, k2, k3⟩ := vx_keep h0 e1 hS hA hf hL hF
    obtain ⟨t2, a1, b1⟩ := kk r u t T'.heap (locs ++ L) e1.symm (by rw [← e2]; exact X'.warmed.alike) hp hb k1 k2 k3 T' rfl X'
    exact ⟨t2, st t2 a1, b1⟩
  · obtain ⟨k1, k2, k3⟩ := vx_keep h0 e1 hS hAX hf hL hF
    obtain ⟨t2, a1, b1⟩ := kx E ce q u t T'.heap (locs ++ L) e1.symm (by rw [← e2]; exact X'.warmed.alike) hp hb k1 k2 k3 (by rw [e1]; exact hce) hcv hcl T' rfl X'
    exact ⟨t2, st.trans a1, b1⟩
theorem vx_calld {S SX : Type} {post : UInt64 → S → Prop} {px : SX → Prop} {B : S → State → Prop} {BX : String → SX → State → Prop} {AX : Nat → Prop} (hr : vx_Run p l e R s m args below meth c H locs cells slots mc ms (F0 m pc ls st0) rest (va_Qd post B A1 a) (vx_X px BX AX) free) (hS : va_S A0 H0 H locs) (hA : ∀ q, q < H.size → A1 q → A0 q) (hf : ∀ q, free q → A0 q) (hAX : ∀ q, q < H.size → AX q → A0 q)
    (kx : ∀ (E : String) (ce : Cell) (q9 : Addr) (u : SX) (t : State) (H1 : Heap) (locs1 : List Loc), t.heap = H1 → s.vm.Alike t.vm → px u → BX E u t → H.size ≤ H1.size → (∀ q : Nat, q < H.size → ¬ AX q → H1[q]? = H[q]?) → va_S A0 H0 H1 locs1 → H1[q9]? = some ce → ce.vm = .none → s.vm.findClass E = some ce.cls → vx_W p l e R s m args below meth c H1 locs1 (cells + mc) (slots + ms) Q (F0 m pc ls rest) q9)
    (kk : ∀ (r : UInt64) (u : S) (t : State) (H1 : Heap) (locs1 : List Loc), t.heap = H1 → s.vm.Alike t.vm → post r u → B u t → H.size ≤ H1.size → (∀ q : Nat, q < H.size → ¬ A1 q → H1[q]? = H[q]?) → va_S A0 H0 H1 locs1 → W p l e R s m args below meth c H1 locs1 (cells + mc) (slots + ms) Q (F0 m (pc + 3) ls (.double r :: rest))) : W p l e R s m args below meth c H locs cells slots Q (F0 m pc ls st0) := by
  intro T hT X
  rcases hr T hT X with ⟨v, st₀, t, T', L, h0, X', hL, e1, e2, ⟨⟨r, u, hv, hp, hb⟩, hF⟩, st⟩ | ⟨q, st₀, t, T', L, E, ce, h0, X', hL, e1, e2, ⟨u, hp, hb, hF⟩, hce, hcv, hcl, st⟩
  · cases hv
    obtain ⟨k1, k2, k3⟩ := vx_keep h0 e1 hS hA hf hL hF
    obtain ⟨t2, a1, b1⟩ := kk r u t T'.heap (locs ++ L) e1.symm (by rw [← e2]; exact X'.warmed.alike) hp hb k1 k2 k3 T' rfl X'
    exact ⟨t2, st t2 a1, b1⟩
  · obtain ⟨k1, k2, k3⟩ := vx_keep h0 e1 hS hAX hf hL hF
    obtain ⟨t2, a1, b1⟩ := kx E ce q u t T'.heap (locs ++ L) e1.symm (by rw [← e2]; exact X'.warmed.alike) hp hb k1 k2 k3 (by rw [e1]; exact hce) hcv hcl T' rfl X'
    exact ⟨t2, st.trans a1, b1⟩
theorem vx_callv {S SX : Type} {post : S → Prop} {px : SX → Prop} {B : S → State → Prop} {BX : String → SX → State → Prop} {AX : Nat → Prop} (hr : vx_Run p l e R s m args below meth c H locs cells slots mc ms (F0 m pc ls st0) rest (va_Qv post B A1 a) (vx_X px BX AX) free) (hS : va_S A0 H0 H locs) (hA : ∀ q, q < H.size → A1 q → A0 q) (hf : ∀ q, free q → A0 q) (hAX : ∀ q, q < H.size → AX q → A0 q)
    (kx : ∀ (E : String) (ce : Cell) (q9 : Addr) (u : SX) (t : State) (H1 : Heap) (locs1 : List Loc), t.heap = H1 → s.vm.Alike t.vm → px u → BX E u t → H.size ≤ H1.size → (∀ q : Nat, q < H.size → ¬ AX q → H1[q]? = H[q]?) → va_S A0 H0 H1 locs1 → H1[q9]? = some ce → ce.vm = .none → s.vm.findClass E = some ce.cls → vx_W p l e R s m args below meth c H1 locs1 (cells + mc) (slots + ms) Q (F0 m pc ls rest) q9)
    (kk : ∀ (u : S) (t : State) (H1 : Heap) (locs1 : List Loc), t.heap = H1 → s.vm.Alike t.vm → post u → B u t → H.size ≤ H1.size → (∀ q : Nat, q < H.size → ¬ A1 q → H1[q]? = H[q]?) → va_S A0 H0 H1 locs1 → W p l e R s m args below meth c H1 locs1 (cells + mc) (slots + ms) Q (F0 m (pc + 3) ls (rest))) : W p l e R s m args below meth c H locs cells slots Q (F0 m pc ls st0) := by
  intro T hT X
  rcases hr T hT X with ⟨v, st₀, t, T', L, h0, X', hL, e1, e2, ⟨⟨u, hv, hp, hb⟩, hF⟩, st⟩ | ⟨q, st₀, t, T', L, E, ce, h0, X', hL, e1, e2, ⟨u, hp, hb, hF⟩, hce, hcv, hcl, st⟩
  · cases hv
    obtain ⟨k1, k2, k3⟩ := vx_keep h0 e1 hS hA hf hL hF
    obtain ⟨t2, a1, b1⟩ := kk u t T'.heap (locs ++ L) e1.symm (by rw [← e2]; exact X'.warmed.alike) hp hb k1 k2 k3 T' rfl X'
    exact ⟨t2, st t2 a1, b1⟩
  · obtain ⟨k1, k2, k3⟩ := vx_keep h0 e1 hS hAX hf hL hF
    obtain ⟨t2, a1, b1⟩ := kx E ce q u t T'.heap (locs ++ L) e1.symm (by rw [← e2]; exact X'.warmed.alike) hp hb k1 k2 k3 (by rw [e1]; exact hce) hcv hcl T' rfl X'
    exact ⟨t2, st.trans a1, b1⟩
end Rows
section Ends
variable {p : Program} {l : Launch} {e : Env} {R : Room} {s : State} {m : MethodId} {args : Array Value} {below : List Frame} {meth : Method} {c : Code} {H : Heap} {locs : List Loc} {cells slots : Nat} {Q : State → Prop}
variable {mc ms : Nat} {free : Addr → Prop} {A0 A1 : Nat → Prop} {H0 : Heap} {a : Array Value} {ls : Array Slot} {st0 rest : List Value}
variable {Qc : Array Value → State → Outcome → State → Prop} {XC : String → State → State → Prop}
/-- what a body that may throw owes at its end -/
def vx_MQ (below : List Frame) (Qc : Array Value → State → Outcome → State → Prop) (XC : String → State → State → Prop) (a : Array Value) (s : State) (mc ms : Nat) (free : Addr → Prop) : State → Prop := fun t =>
  ∃ o, t.status = .running ∧ Ended t below o ∧ vx_Q Qc XC mc ms free a s o t
theorem vx_ret {g : JFrame} {mc ms : Nat} (k : W p l e R s m args below meth c H locs cells slots (MQ below Qc args s mc ms free) g) : W p l e R s m args below meth c H locs cells slots (vx_MQ below Qc XC args s mc ms free) g := by
  intro T hT X
  obtain ⟨t, a1, o, b1, b2, b3, b4⟩ := k T hT X
  exact ⟨t, a1, o, b1, b2, Or.inl ⟨b3, b4⟩⟩
/-- not caught here: it goes on to the caller -/
theorem vx_widen {g : JFrame} {q : Addr} {k n : Nat} (h1 : cells ≤ k) (h2 : slots ≤ n) (kk : vx_W p l e R s m args below meth c H locs k n Q g q) : vx_W p l e R s m args below meth c H locs cells slots Q g q := fun T hT X => kk T hT (stand_widen X h1 h2)
theorem vx_out {pc : Nat} {E : String} {ce : Cell} {q : Addr} {mc ms : Nat} (hout : ∀ x ∈ c.exceptionTable.toList, covers x pc = false) (hlocks : meth.locks = false) (hcell : H[q]? = some ce) (hv : ce.vm = .none) (hcl : s.vm.findClass E = some ce.cls)
    (hx : ∀ t : State, t.heap = H → s.vm.Alike t.vm → XC E s t) (hf : ∀ z ∈ locs, free z.base) (hc : cells ≤ mc) (hs : slots ≤ ms) :
    vx_W p l e R s m args below meth c H locs cells slots (vx_MQ below Qc XC args s mc ms free) (F0 m pc ls rest) q := by
  intro T hT X
  obtain ⟨st1, hrun, hend, hW, hsm⟩ := X.leaveThrown q (g := F0 m pc ls rest) rfl rfl rfl hout hlocks
  have hcell9 : (T.setFrames (.throwing q :: below)).heap[q]? = some ce := by
    show T.heap[q]? = some ce
    rw [hT]; exact hcell
  exact ⟨_, st1, .threw q, hrun, hend, Or.inr ⟨q, rfl, E, ce, locs, hx _ hT hW.alike, hcell9, hv, hcl, hW, hsm.mono hc hs, hf⟩⟩
theorem vx_frame {U : State} {k n : Nat} (h : s.sameButNew ({ U with vm := s.vm } : State) locs k n) : s.heap.size ≤ U.heap.size ∧ ∀ q : Nat, q < s.heap.size → (∀ z ∈ locs, z.base ≠ q) → U.heap[q]? = s.heap[q]? := by
  obtain ⟨-, h2, -, -, -, h6⟩ := h
  refine ⟨h2, fun q hq hz => ?_⟩
  obtain ⟨c9, e1, e2, e3, e4⟩ := h6 q _ (Array.getElem?_eq_getElem hq)
  have hs : c9.slots = (s.heap[q]).slots := Array.ext_getElem? fun i => e4 i fun hm => hz _ hm rfl
  have h9 : c9 = s.heap[q] := by
    rw [hs] at e2
    exact e2
  have e5 : U.heap[q]? = some c9 := e1
  rw [e5, h9, Array.getElem?_eq_getElem hq]
/-- the words of a throw but the four that speak of the heap -/
def vx_no (w : Cond) : Bool := decide (w ≠ .isRef (.static Bundle.tN "UNASSIGNED_STACK" Bundle.steD)) && decide (w ≠ .isRef (.static Bundle.tN "SUPPRESSED_SENTINEL" Bundle.listD)) && decide (w ≠ .laysStatic Bundle.tN "UNASSIGNED_STACK" Bundle.steD) && decide (w ≠ .laysStatic Bundle.tN "SUPPRESSED_SENTINEL" Bundle.listD)
def vx_at0 (own : String) (ic : Nat) (X : String) (names : List String) : List Cond := (Bundle.ownAtoms0 own ic X names).filter vx_no
def vx_atS (own : String) (ic : Nat) (X : String) (names : List String) : List Cond := (Bundle.ownAtoms own ic X names).filter vx_no
/-- a word that the tables alone decide, or a good one -/
def vx_ot (w : Cond) : Bool := w.onTables || goodWord w
theorem vx_ot_at {args a' : Array Value} {s U : State} {w : Cond} (hW : s.WarmedH U.vm) (hvm : s.vm = U.vm) (hg : vx_ot w = true) (h : w.before args s = true) : w.before a' U = true := by
  simp only [vx_ot, Bool.or_eq_true] at hg
  rcases hg with hg | hg
  · exact va_tabs hg hvm h
  · exact word_at hW (good_of_word hg) h
/-- a list's words: the good ones out of the method's own list, the others by premises of their own -/
theorem vx_hat {args : Array Value} {s : State} {L B : List Cond} (h1 : ∀ w ∈ L.filter goodWord, w.before args s = true) (h2 : ∀ w ∈ L.filter (fun w => !goodWord w), w ∈ B) (h3 : ∀ w ∈ B, w.before args s = true) : ∀ w ∈ L, w.before args s = true := by
  intro w hw
  by_cases g : goodWord w = true
  · exact h1 w (List.mem_filter.mpr ⟨hw, g⟩)
  · refine h3 w (h2 w (List.mem_filter.mpr ⟨hw, ?_⟩))
    show (!goodWord w) = true
    cases hgw : goodWord w
    · rfl
    · exact absurd hgw g
theorem vx_c {args : Array Value} {s : State} {w : Cond} {B : List Cond} (h : w.before args s = true) (t : ∀ w ∈ B, w.before args s = true) : ∀ w' ∈ w :: B, w'.before args s = true := fun w' h' => (List.mem_cons.mp h').elim (fun e => by rw [e]; exact h) (t w')
theorem vx_n {args : Array Value} {s : State} : ∀ w ∈ ([] : List Cond), w.before args s = true := fun _ h => nomatch h
theorem vx_own {args : Array Value} {s : State} {L : List Cond} (h1 : ∀ w ∈ L.filter vx_no, w.before args s = true)
    (hU : (Cond.isRef (.static Bundle.tN "UNASSIGNED_STACK" Bundle.steD)).before args s = true) (hN : (Cond.isRef (.static Bundle.tN "SUPPRESSED_SENTINEL" Bundle.listD)).before args s = true)
    (lU : (Cond.laysStatic Bundle.tN "UNASSIGNED_STACK" Bundle.steD).before args s = true) (lN : (Cond.laysStatic Bundle.tN "SUPPRESSED_SENTINEL" Bundle.listD).before args s = true) : ∀ w ∈ L, w.before args s = true := by
  intro w hw
  by_cases e1 : w = .isRef (.static Bundle.tN "UNASSIGNED_STACK" Bundle.steD)
  · rw [e1]; exact hU
  · by_cases e2 : w = .isRef (.static Bundle.tN "SUPPRESSED_SENTINEL" Bundle.listD)
    · rw [e2]; exact hN
    · by_cases e3 : w = .laysStatic Bundle.tN "UNASSIGNED_STACK" Bundle.steD
      · rw [e3]; exact lU
      · by_cases e4 : w = .laysStatic Bundle.tN "SUPPRESSED_SENTINEL" Bundle.listD
        · rw [e4]; exact lN
        · exact h1 w (List.mem_filter.mpr ⟨hw, by unfold vx_no; rw [decide_eq_true e1, decide_eq_true e2, decide_eq_true e3, decide_eq_true e4]; rfl⟩)
/-- where a static field lies, its class's statics cell in H -/
def vx_L (C n d : String) (A : Nat → Prop) (U : State) (H : Heap) : Prop := ∃ (c : ClassId) (k : Class) (i : Nat) (f : Field) (a : Nat) (cell : Cell), U.vm.findClass C = some c ∧ U.fieldFound? C n d = some (c, k, i, f) ∧ f.isStatic = true ∧ k.statics = some a ∧ H[a]? = some cell ∧ cell.vm.isStatics = true ∧ cell.cls = c ∧ f.slot < cell.slots.size ∧ k.staticTypes[f.slot]? = some f.type ∧ ¬ A a
theorem vx_L.moved {C n d : String} {A : Nat → Prop} {u U : State} {H : Heap} (hvm : u.vm.Alike U.vm) (h : vx_L C n d A u H) : vx_L C n d A U H := by
  obtain ⟨c, k, i, f, a, cell, h1, h2, h3, h4, h5, h6, h7, h8, h9, h10⟩ := h
  obtain ⟨k', hi', he⟩ := State.fieldFound?_setVm hvm h2
  exact ⟨c, k', i, f, a, cell, by rw [hvm.findClass]; exact h1, hi', h3, by rw [he]; exact h4, h5, h6, h7, h8, by rw [he]; exact h9, h10⟩
theorem vx_L.kept {C n d : String} {A : Nat → Prop} {U : State} {H H1 : Heap} (h : vx_L C n d A U H) (hq : ∀ a : Nat, a < H.size → ¬ A a → H1[a]? = H[a]?) : vx_L C n d A U H1 := by
  obtain ⟨c, k, i, f, a, cell, h1, h2, h3, h4, h5, h6, h7, h8, h9, h10⟩ := h
  exact ⟨c, k, i, f, a, cell, h1, h2, h3, h4, by rw [hq a (Array.getElem?_eq_some_iff.mp h5).1 h10]; exact h5, h6, h7, h8, h9, h10⟩
theorem vx_L.narrow {C n d : String} {A B : Nat → Prop} {U : State} {H : Heap} (h : vx_L C n d A U H) (hAB : ∀ q, B q → A q) : vx_L C n d B U H := by
  obtain ⟨c, k, i, f, a, cell, h1, h2, h3, h4, h5, h6, h7, h8, h9, h10⟩ := h
  exact ⟨c, k, i, f, a, cell, h1, h2, h3, h4, h5, h6, h7, h8, h9, fun z => h10 (hAB _ z)⟩
theorem vx_L.word {C n d : String} {A : Nat → Prop} {s : State} {args : Array Value} (h : vx_L C n d A s s.heap) : (Cond.laysStatic C n d).before args s = true := by
  obtain ⟨c, k, i, f, a, cell, h1, h2, h3, h4, h5, h6, h7, h8, h9, -⟩ := h
  show (Cond.laysStatic C n d).holds args s none s [] = true
  exact Cond.laysStatic_of h1 h2 h3 h4 h5 h6 h7 h8 h9
/-- .. and what it holds: null or some reference -/
def vx_Zq (C n d : String) (A : Nat → Prop) (U : State) (H : Heap) : Prop := va_Zq C n d A U H ∧ vx_L C n d A U H
theorem vx_Zq.moved {C n d : String} {A : Nat → Prop} {u U : State} {H : Heap} (hvm : u.vm.Alike U.vm) (h : vx_Zq C n d A u H) : vx_Zq C n d A U H := ⟨va_Zq.moved hvm h.1, vx_L.moved hvm h.2⟩
theorem vx_Zq.kept {C n d : String} {A : Nat → Prop} {U : State} {H H1 : Heap} (h : vx_Zq C n d A U H) (hq : ∀ a : Nat, a < H.size → ¬ A a → H1[a]? = H[a]?) : vx_Zq C n d A U H1 := ⟨va_Zq.kept h.1 hq, vx_L.kept h.2 hq⟩
theorem vx_Zq.narrow {C n d : String} {A B : Nat → Prop} {U : State} {H : Heap} (h : vx_Zq C n d A U H) (hAB : ∀ q, B q → A q) : vx_Zq C n d B U H := ⟨va_Zq.narrow h.1 hAB, vx_L.narrow h.2 hAB⟩
theorem vx_Zqof {args : Array Value} {s : State} {C n d : String} {A : Nat → Prop} (hl : (Cond.laysStatic C n d).before args s = true) (hini : (Cond.initialized C).before args s = true) (h : (Cond.isRef (.static C n d)).before args s = true) (hA : ∀ a : Nat, a < s.heap.size → ¬ A a) : vx_Zq C n d A s s.heap := by
  refine ⟨va_Zqof hl hini h hA, ?_⟩
  obtain ⟨c, k, i, f, a, cell, h1, h2, h3, h4, h5, h6, h7, h8, h9⟩ := Cond.laysStatic_spec hl
  exact ⟨c, k, i, f, a, cell, h1, h2, h3, h4, h5, h6, h7, h8, h9, hA a (Array.getElem?_eq_some_iff.mp h5).1⟩
theorem vx_isRef {C n d : String} {v : Value} {A : Nat → Prop} {s : State} {args : Array Value} (h : va_Z C n d v A s s.heap) (hv : v.isRef = true) : (Cond.isRef (.static C n d)).before args s = true := by
  obtain ⟨cf, kf, fi, f, a, cell, h1, h2, h3, h4, h5, h6, h7, -⟩ := h
  have he : (Term.static C n d).eval args s none [] s = some v := by
    simp [Term.eval, State.fieldNamed?, h1, h2, h4, h5, h6, h7]
  simp only [Cond.before, Cond.holds, Cond.value, he]
  cases v <;> simp_all [Value.isRef]
theorem vx_isRefq {C n d : String} {A : Nat → Prop} {s : State} {args : Array Value} (h : va_Zq C n d A s s.heap) : (Cond.isRef (.static C n d)).before args s = true := by
  rcases h with h | ⟨t, h⟩
  · exact vx_isRef h rfl
  · exact vx_isRef h rfl
/-- the same frame, seen from here: as if the method were called anew in this heap -/
theorem vx_rebase {T : State} (X : Stand p l e R s m args below meth c T locs cells slots) {R' : Room} (hf : R'.frames ≤ R.frames) (hl : R'.locals ≤ R.locals) (hc : cells + R'.cells ≤ R.cells) (hs : slots + R'.slots ≤ R.slots) :
    Stand p l e R' ((T.setVm s.vm).setFrames (.invoking m args :: below)) m args below meth c T [] 0 0 := by
  have htop : (T.setVm s.vm).topJava?.isSome := X.here.top
  have hF : ((T.setVm s.vm).setFrames (.invoking m args :: below)).frames = .invoking m args :: below := State.frames_setFrames _ (State.cur_lt_of_top htop)
  obtain ⟨g₀, hg0⟩ := Option.isSome_iff_exists.mp htop
  obtain ⟨r, hr⟩ := State.topJava?_eq_some.mp hg0
  have hl9 : e.platform.stackLimits (T.setVm s.vm).me = e.platform.stackLimits s.me := X.limits
  have hb9 : (T.setVm s.vm).me.stackBytes = s.me.stackBytes := X.bytes
  refine ⟨X.admits, X.cas, X.clock, hF, ?_, X.hears, X.method, X.code, X.here, X.tail, X.warmed, ?_, ?_, ?_⟩
  · have h := X.room
    have hU : ((T.setVm s.vm).setFrames (.invoking m args :: below)).localsInUse = s.localsInUse := by
      rw [State.localsInUse_invoking hF (meth := meth) (c := c) X.method X.code, State.localsInUse_invoking X.frames X.method X.code]
    simp only [State.hasRoom, Bool.and_eq_true, decide_eq_true_eq] at h ⊢
    obtain ⟨⟨⟨⟨h1, h2, h3, h4, h5, h6⟩, h7⟩, h8⟩, h9⟩ := h
    rw [X.frames, List.length_cons] at h2 h3
    have q1 := X.heapSize
    have q2 := X.used
    simp only [hF, hU, List.length_cons, State.stackLimits_setFrames, State.stackBytes_setFrames, hl9, hb9]
    refine ⟨⟨⟨⟨by omega, by omega, by omega, by omega, by omega, h6⟩, ?_⟩, ?_⟩, X.book⟩
    · show T.heap.size + R'.cells ≤ e.platform.maxCells
      omega
    · show T.slotsUsed + R'.slots ≤ e.platform.maxSlots
      omega
  · rw [State.stackLimits_setFrames]; rfl
  · rw [State.stackBytes_setFrames]; rfl
  · refine ⟨?_, Nat.le_refl _, Nat.le_refl _, ?_, ?_, fun a c9 h9 => ⟨c9, h9, rfl, rfl, fun _ _ => rfl⟩⟩
    · obtain ⟨t, ht, -⟩ := State.frames_cons hr
      show T.setVm s.vm = { ((T.setVm s.vm).setFrames (.invoking m args :: below)).setFrames (T.setVm s.vm).frames with heap := T.heap, slotsUsed := T.slotsUsed }
      rw [State.setFrames_setFrames, State.setFrames_self ht]
      rfl
    · show T.slotsUsed = T.slotsUsed + ((T.heap.toList.drop T.heap.size).map (·.slots.size)).sum
      rw [List.drop_eq_nil_of_le (Nat.le_of_eq Array.length_toList)]
      rfl
    · show ((T.heap.toList.drop T.heap.size).map (·.slots.size)).sum ≤ 0
      rw [List.drop_eq_nil_of_le (Nat.le_of_eq Array.length_toList)]
      exact Nat.le_refl _
/-- 'throw new E()': new; dup; invokespecial; athrow -/
theorem vx_throw0 {cc : ByteArray} {pc : Nat} (hexec : p.tables.exec = Jvm.exec) (hb : c.code = cc) (hl : l.stackTraces = false) {own cls : String} {names : List String} {ik ic mc ms : Nat} {A : Nat → Prop}
    (hown : s.vm.findClass own = some m.cls) (hcls : Bundle.fit cls = true) (hnames : ∀ n ∈ names, Bundle.fit n = true)
    (hk : (Cond.classLink own ik cls).before args s = true) (hini : (Cond.initialized cls).before args s = true) (hat : ∀ w ∈ vx_at0 own ic cls names, w.before args s = true)
    (hgood : ∀ w ∈ Cond.classLink own ik cls :: Cond.initialized cls :: vx_at0 own ic cls names, vx_ot w = true)
    (hU : vx_Zq Bundle.tN "UNASSIGNED_STACK" Bundle.steD A s s.heap) (hN : vx_Zq Bundle.tN "SUPPRESSED_SENTINEL" Bundle.listD A s s.heap) (hS : va_S A s.heap H locs) (hsize : ls.size = c.maxLocals)
    (d0 : decode cc pc = .ok (.new ik, 3)) (d3 : decode cc (pc + 3) = .ok (.dup, 1)) (d4 : decode cc (pc + 4) = .ok (.invokespecial ic, 3)) (d7 : decode cc (pc + 7) = .ok (.athrow, 1))
    (hout : ∀ x ∈ c.exceptionTable.toList, covers x (pc + 7) = false)
    (hRframes : names.length + 3 < R.frames) (hRlocals : (rest.map fun v => v.category).sum + (13 * (names.length + 1) + 42) ≤ R.locals) (hRcells : cells + 1 ≤ R.cells) (hRslots : slots + 6 ≤ R.slots) (hlocks : meth.locks = false)
    (hx : ∀ t : State, s.vm.Alike t.vm → H.size ≤ t.heap.size → (∀ q : Nat, q < H.size → t.heap[q]? = H[q]?) → XC cls s t)
    (hf : ∀ z ∈ locs, free z.base) (hc : cells + 1 ≤ mc) (hs : slots + 6 ≤ ms) :
    W p l e R s m args below meth c H locs cells slots (vx_MQ below Qc XC args s mc ms free) (F0 m pc ls rest) := by
  intro T hT X
  have htr : e.platform.stackTraces = false := (show e.platform.stackTraces = l.stackTraces by rw [X.admits.platform]).trans hl
  have Y := vx_rebase X (R' := { frames := R.frames, locals := R.locals, cells := 1, slots := 6 }) (Nat.le_refl _) (Nat.le_refl _) hRcells hRslots
  obtain ⟨s', hA⟩ : ∃ z, z = (T.setVm s.vm).setFrames (.invoking m args :: below) := ⟨_, rfl⟩
  rw [← hA] at Y
  have hvm : s'.vm = s.vm := by rw [hA]; rfl
  have hhp : s'.heap = H := by rw [hA]; exact hT
  have hW0 : s.WarmedH s'.vm := by rw [hvm]; exact State.WarmedH.refl s
  have hat' : ∀ w ∈ vx_at0 own ic cls names, w.before args s' = true := fun w hw => vx_ot_at hW0 hvm.symm (hgood w (List.mem_cons_of_mem _ (List.mem_cons_of_mem _ hw))) (hat w hw)
  have hk' : (Cond.classLink own ik cls).before args s' = true := vx_ot_at hW0 hvm.symm (hgood _ List.mem_cons_self) hk
  have hini' : (Cond.initialized cls).before args s' = true := vx_ot_at hW0 hvm.symm (hgood _ (List.mem_cons_of_mem _ List.mem_cons_self)) hini
  have hU' : vx_Zq Bundle.tN "UNASSIGNED_STACK" Bundle.steD A s' s'.heap := by rw [hhp]; exact vx_Zq.moved hW0.alike (hU.kept hS.2.1)
  have hN' : vx_Zq Bundle.tN "SUPPRESSED_SENTINEL" Bundle.listD A s' s'.heap := by rw [hhp]; exact vx_Zq.moved hW0.alike (hN.kept hS.2.1)
  have h : ∀ w ∈ Bundle.ownAtoms0 own ic cls names, w.before args s' = true := vx_own hat' (vx_isRefq hU'.1) (vx_isRefq hN'.1) hU'.2.word hN'.2.word
  have hown' : s'.vm.findClass own = some m.cls := by rw [hvm]; exact hown
  have hins : (Cond.instantiable cls 6).before args s' = true := h _ (by simp [Bundle.ownAtoms0])
  obtain ⟨vm₁, cX, kX, hfX, hkX, -, -, X₁, st1⟩ := Y.newCold hexec (own := own) (C := cls) (index := ik) (n := 6) hown' hk' hins hini'
    (g := F0 m pc ls rest) rfl (by rw [hb]; exact d0) (Nat.le_refl _) (Nat.le_refl _)
  generalize hT1 : (T.setVm vm₁).pushCell { cls := cX, slots := kX.instanceTypes.map defaultValue, vm := .none } = T1 at X₁ st1
  have hcat : (Value.ref T.heap.size).category = 1 := rfl
  have hcellA : T1.heap[T.heap.size]? = some (freshCell cX kX) := by rw [← hT1]; exact State.heap_pushCell_size _ _
  have d3' : decode c.code (pc + 3) = .ok (.dup, 1) := by rw [hb]; exact d3
  obtain ⟨U, hsteps, hrun, hend, hW, hsame, ce, hce, hO⟩ := X₁.ctorThrow0 hexec htr (own := own) (cls := cls) (names := names) (ic := ic) hown' hcls hnames h (fun x hx => nomatch hx) hfX hkX hcellA (by rw [hhp, hT]; exact Nat.le_refl _)
    (g := { method := m, pc := pc + 4, locals := ls, stack := .ref T.heap.size :: .ref T.heap.size :: rest, locked := none }) rfl hsize rfl rfl (rest := rest) rfl
    (by rw [hb]; exact d4) (by rw [hb]; exact d7) hout hRframes (by simp only [List.map_cons, List.sum_cons, hcat]; omega) hlocks
  obtain ⟨f1, f2⟩ := vx_frame hsame
  rw [hhp] at f1 f2
  have hWs : s.WarmedH U.vm := State.WarmedH.trans hW0 hW
  have hcl : s.vm.findClass cls = some ce.cls := by
    have h9 := hO.cls
    rw [hvm] at h9
    exact h9
  have hall : s.sameButNew ({ U with vm := s.vm } : State) locs mc ms := by
    subst hA
    obtain ⟨e1, e2⟩ := hsame
    rw [State.setFrames_setFrames] at e1
    have h2 : (T.setVm s.vm).sameButNew ({ U with vm := s.vm } : State) [] (0 + 1) (0 + 6) := ⟨e1, e2⟩
    have h3 := X.same.trans h2
    rw [List.append_nil] at h3
    exact h3.mono hc hs
  refine ⟨U, ?_, .threw T.heap.size, hrun, hend, Or.inr ⟨T.heap.size, rfl, cls, ce, locs, hx U hWs.alike f1 (fun q hq => f2 q hq (fun z hz => nomatch hz)), hce, hO.vm, hcl, hWs, hall, hf⟩⟩
  refine st1 _ ?_
  show Steps p.tables e below (T1.setTop { method := m, pc := pc + 3, locals := ls, stack := .ref T.heap.size :: rest, locked := none }) _
  jvm_step X₁.here [X₁.here.top, hexec, d3', Value.category]
  exact hsteps
/-- 'throw new E("text")': new; dup; ldc; invokespecial; athrow -/
theorem vx_throwS {cc : ByteArray} {pc : Nat} (hexec : p.tables.exec = Jvm.exec) (hb : c.code = cc) (hl : l.stackTraces = false) {own cls text : String} {names : List String} {ik is ic mc ms sa : Nat} {A : Nat → Prop}
    (hown : s.vm.findClass own = some m.cls) (hcls : Bundle.fit cls = true) (hnames : ∀ n ∈ names, Bundle.fit n = true)
    (hk : (Cond.classLink own ik cls).before args s = true) (hini : (Cond.initialized cls).before args s = true) (hstr : vk_R own is text sa s) (hat : ∀ w ∈ vx_atS own ic cls names, w.before args s = true)
    (hgood : ∀ w ∈ Cond.classLink own ik cls :: Cond.initialized cls :: vx_atS own ic cls names, vx_ot w = true)
    (hU : vx_Zq Bundle.tN "UNASSIGNED_STACK" Bundle.steD A s s.heap) (hN : vx_Zq Bundle.tN "SUPPRESSED_SENTINEL" Bundle.listD A s s.heap) (hS : va_S A s.heap H locs) (hsize : ls.size = c.maxLocals)
    (d0 : decode cc pc = .ok (.new ik, 3)) (d3 : decode cc (pc + 3) = .ok (.dup, 1)) (d4 : decode cc (pc + 4) = .ok (.ldc is, 2)) (d6 : decode cc (pc + 6) = .ok (.invokespecial ic, 3)) (d9 : decode cc (pc + 9) = .ok (.athrow, 1))
    (hout : ∀ x ∈ c.exceptionTable.toList, covers x (pc + 9) = false)
    (hRframes : names.length + 3 < R.frames) (hRlocals : (rest.map fun v => v.category).sum + (13 * (names.length + 1) + 43) ≤ R.locals) (hRcells : cells + 1 ≤ R.cells) (hRslots : slots + 6 ≤ R.slots) (hlocks : meth.locks = false)
    (hx : ∀ t : State, s.vm.Alike t.vm → H.size ≤ t.heap.size → (∀ q : Nat, q < H.size → t.heap[q]? = H[q]?) → XC cls s t)
    (hf : ∀ z ∈ locs, free z.base) (hc : cells + 1 ≤ mc) (hs : slots + 6 ≤ ms) :
    W p l e R s m args below meth c H locs cells slots (vx_MQ below Qc XC args s mc ms free) (F0 m pc ls rest) := by
  intro T hT X
  have htr : e.platform.stackTraces = false := (show e.platform.stackTraces = l.stackTraces by rw [X.admits.platform]).trans hl
  have Y := vx_rebase X (R' := { frames := R.frames, locals := R.locals, cells := 1, slots := 6 }) (Nat.le_refl _) (Nat.le_refl _) hRcells hRslots
  obtain ⟨s', hA⟩ : ∃ z, z = (T.setVm s.vm).setFrames (.invoking m args :: below) := ⟨_, rfl⟩
  rw [← hA] at Y
  have hvm : s'.vm = s.vm := by rw [hA]; rfl
  have hhp : s'.heap = H := by rw [hA]; exact hT
  have hW0 : s.WarmedH s'.vm := by rw [hvm]; exact State.WarmedH.refl s
  have hat' : ∀ w ∈ vx_atS own ic cls names, w.before args s' = true := fun w hw => vx_ot_at hW0 hvm.symm (hgood w (List.mem_cons_of_mem _ (List.mem_cons_of_mem _ hw))) (hat w hw)
  have hk' : (Cond.classLink own ik cls).before args s' = true := vx_ot_at hW0 hvm.symm (hgood _ List.mem_cons_self) hk
  have hini' : (Cond.initialized cls).before args s' = true := vx_ot_at hW0 hvm.symm (hgood _ (List.mem_cons_of_mem _ List.mem_cons_self)) hini
  have hU' : vx_Zq Bundle.tN "UNASSIGNED_STACK" Bundle.steD A s' s'.heap := by rw [hhp]; exact vx_Zq.moved hW0.alike (hU.kept hS.2.1)
  have hN' : vx_Zq Bundle.tN "SUPPRESSED_SENTINEL" Bundle.listD A s' s'.heap := by rw [hhp]; exact vx_Zq.moved hW0.alike (hN.kept hS.2.1)
  have h : ∀ w ∈ Bundle.ownAtoms own ic cls names, w.before args s' = true := vx_own hat' (vx_isRefq hU'.1) (vx_isRefq hN'.1) hU'.2.word hN'.2.word
  have hown' : s'.vm.findClass own = some m.cls := by rw [hvm]; exact hown
  have hins : (Cond.instantiable cls 6).before args s' = true := h _ (by simp [Bundle.ownAtoms])
  obtain ⟨vm₁, cX, kX, hfX, hkX, -, -, X₁, st1⟩ := Y.newCold hexec (own := own) (C := cls) (index := ik) (n := 6) hown' hk' hins hini'
    (g := F0 m pc ls rest) rfl (by rw [hb]; exact d0) (Nat.le_refl _) (Nat.le_refl _)
  generalize hT1 : (T.setVm vm₁).pushCell { cls := cX, slots := kX.instanceTypes.map defaultValue, vm := .none } = T1 at X₁ st1
  have hcat : (Value.ref T.heap.size).category = 1 := rfl
  have hcellA : T1.heap[T.heap.size]? = some (freshCell cX kX) := by rw [← hT1]; exact State.heap_pushCell_size _ _
  have d3' : decode c.code (pc + 3) = .ok (.dup, 1) := by rw [hb]; exact d3
  have d4' : decode c.code (pc + 4) = .ok (.ldc is, 2) := by rw [hb]; exact d4
  have hstr' : vk_R own is text sa s' := vk_R.warm hW0 hstr
  obtain ⟨U, hsteps, hrun, hend, hW, hsame, ce, hce, hO⟩ := X₁.ctorThrowS hexec htr (own := own) (cls := cls) (names := names) (ic := ic) hown' hcls hnames h (fun x hx => nomatch hx) hfX hkX hcellA (by rw [hhp, hT]; exact Nat.le_refl _) (msg := .ref sa) rfl
    (g := { method := m, pc := pc + 6, locals := ls, stack := .ref sa :: .ref T.heap.size :: .ref T.heap.size :: rest, locked := none }) rfl hsize rfl rfl (rest := rest) rfl
    (by rw [hb]; exact d6) (by rw [hb]; exact d9) hout hRframes (by simp only [List.map_cons, List.sum_cons, hcat]; omega) hlocks
  obtain ⟨f1, f2⟩ := vx_frame hsame
  rw [hhp] at f1 f2
  have hWs : s.WarmedH U.vm := State.WarmedH.trans hW0 hW
  have hcl : s.vm.findClass cls = some ce.cls := by
    have h9 := hO.cls
    rw [hvm] at h9
    exact h9
  have hall : s.sameButNew ({ U with vm := s.vm } : State) locs mc ms := by
    subst hA
    obtain ⟨e1, e2⟩ := hsame
    rw [State.setFrames_setFrames] at e1
    have h2 : (T.setVm s.vm).sameButNew ({ U with vm := s.vm } : State) [] (0 + 1) (0 + 6) := ⟨e1, e2⟩
    have h3 := X.same.trans h2
    rw [List.append_nil] at h3
    exact h3.mono hc hs
  refine ⟨U, ?_, .threw T.heap.size, hrun, hend, Or.inr ⟨T.heap.size, rfl, cls, ce, locs, hx U hWs.alike f1 (fun q hq => f2 q hq (fun z hz => nomatch hz)), hce, hO.vm, hcl, hWs, hall, hf⟩⟩
  refine st1 _ ?_
  show Steps p.tables e below (T1.setTop { method := m, pc := pc + 3, locals := ls, stack := .ref T.heap.size :: rest, locked := none }) _
  jvm_step X₁.here [X₁.here.top, hexec, d3', Value.category]
  exact X₁.ldcString hexec (own := own) (text := text) (index := is) (a := sa) hown' hstr'.1 hstr'.2
    (g := { method := m, pc := pc + 4, locals := ls, stack := .ref T.heap.size :: .ref T.heap.size :: rest, locked := none }) rfl d4' _ hsteps
/-- 'throw new E("text")', the text by a wide index -/
theorem vx_throwSW {cc : ByteArray} {pc : Nat} (hexec : p.tables.exec = Jvm.exec) (hb : c.code = cc) (hl : l.stackTraces = false) {own cls text : String} {names : List String} {ik is ic mc ms sa : Nat} {A : Nat → Prop}
    (hown : s.vm.findClass own = some m.cls) (hcls : Bundle.fit cls = true) (hnames : ∀ n ∈ names, Bundle.fit n = true)
    (hk : (Cond.classLink own ik cls).before args s = true) (hini : (Cond.initialized cls).before args s = true) (hstr : vk_R own is text sa s) (hat : ∀ w ∈ vx_atS own ic cls names, w.before args s = true)
    (hgood : ∀ w ∈ Cond.classLink own ik cls :: Cond.initialized cls :: vx_atS own ic cls names, vx_ot w = true)
    (hU : vx_Zq Bundle.tN "UNASSIGNED_STACK" Bundle.steD A s s.heap) (hN : vx_Zq Bundle.tN "SUPPRESSED_SENTINEL" Bundle.listD A s s.heap) (hS : va_S A s.heap H locs) (hsize : ls.size = c.maxLocals)
    (d0 : decode cc pc = .ok (.new ik, 3)) (d3 : decode cc (pc + 3) = .ok (.dup, 1)) (d4 : decode cc (pc + 4) = .ok (.ldc_w is, 3)) (d7 : decode cc (pc + 7) = .ok (.invokespecial ic, 3)) (d10 : decode cc (pc + 10) = .ok (.athrow, 1))
    (hout : ∀ x ∈ c.exceptionTable.toList, covers x (pc + 10) = false)
    (hRframes : names.length + 3 < R.frames) (hRlocals : (rest.map fun v => v.category).sum + (13 * (names.length + 1) + 43) ≤ R.locals) (hRcells : cells + 1 ≤ R.cells) (hRslots : slots + 6 ≤ R.slots) (hlocks : meth.locks = false)
    (hx : ∀ t : State, s.vm.Alike t.vm → H.size ≤ t.heap.size → (∀ q : Nat, q < H.size → t.heap[q]? = H[q]?) → XC cls s t)
    (hf : ∀ z ∈ locs, free z.base) (hc : cells + 1 ≤ mc) (hs : slots + 6 ≤ ms) :
    W p l e R s m args below meth c H locs cells slots (vx_MQ below Qc XC args s mc ms free) (F0 m pc ls rest) := by
  intro T hT X
  have htr : e.platform.stackTraces = false := (show e.platform.stackTraces = l.stackTraces by rw [X.admits.platform]).trans hl
  have Y := vx_rebase X (R' := { frames := R.frames, locals := R.locals, cells := 1, slots := 6 }) (Nat.le_refl _) (Nat.le_refl _) hRcells hRslots
  obtain ⟨s', hA⟩ : ∃ z, z = (T.setVm s.vm).setFrames (.invoking m args :: below) := ⟨_, rfl⟩
  rw [← hA] at Y
  have hvm : s'.vm = s.vm := by rw [hA]; rfl
  have hhp : s'.heap = H := by rw [hA]; exact hT
  have hW0 : s.WarmedH s'.vm := by rw [hvm]; exact State.WarmedH.refl s
  have hat' : ∀ w ∈ vx_atS own ic cls names, w.before args s' = true := fun w hw => vx_ot_at hW0 hvm.symm (hgood w (List.mem_cons_of_mem _ (List.mem_cons_of_mem _ hw))) (hat w hw)
  have hk' : (Cond.classLink own ik cls).before args s' = true := vx_ot_at hW0 hvm.symm (hgood _ List.mem_cons_self) hk
  have hini' : (Cond.initialized cls).before args s' = true := vx_ot_at hW0 hvm.symm (hgood _ (List.mem_cons_of_mem _ List.mem_cons_self)) hini
  have hU' : vx_Zq Bundle.tN "UNASSIGNED_STACK" Bundle.steD A s' s'.heap := by rw [hhp]; exact vx_Zq.moved hW0.alike (hU.kept hS.2.1)
  have hN' : vx_Zq Bundle.tN "SUPPRESSED_SENTINEL" Bundle.listD A s' s'.heap := by rw [hhp]; exact vx_Zq.moved hW0.alike (hN.kept hS.2.1)
  have h : ∀ w ∈ Bundle.ownAtoms own ic cls names, w.before args s' = true := vx_own hat' (vx_isRefq hU'.1) (vx_isRefq hN'.1) hU'.2.word hN'.2.word
  have hown' : s'.vm.findClass own = some m.cls := by rw [hvm]; exact hown
  have hins : (Cond.instantiable cls 6).before args s' = true := h _ (by simp [Bundle.ownAtoms])
  obtain ⟨vm₁, cX, kX, hfX, hkX, -, -, X₁, st1⟩ := Y.newCold hexec (own := own) (C := cls) (index := ik) (n := 6) hown' hk' hins hini'
    (g := F0 m pc ls rest) rfl (by rw [hb]; exact d0) (Nat.le_refl _) (Nat.le_refl _)
  generalize hT1 : (T.setVm vm₁).pushCell { cls := cX, slots := kX.instanceTypes.map defaultValue, vm := .none } = T1 at X₁ st1
  have hcat : (Value.ref T.heap.size).category = 1 := rfl
  have hcellA : T1.heap[T.heap.size]? = some (freshCell cX kX) := by rw [← hT1]; exact State.heap_pushCell_size _ _
  have d3' : decode c.code (pc + 3) = .ok (.dup, 1) := by rw [hb]; exact d3
  have d4' : decode c.code (pc + 4) = .ok (.ldc_w is, 3) := by rw [hb]; exact d4
  have hstr' : vk_R own is text sa s' := vk_R.warm hW0 hstr
  obtain ⟨U, hsteps, hrun, hend, hW, hsame, ce, hce, hO⟩ := X₁.ctorThrowS hexec htr (own := own) (cls := cls) (names := names) (ic := ic) hown' hcls hnames h (fun x hx => nomatch hx) hfX hkX hcellA (by rw [hhp, hT]; exact Nat.le_refl _) (msg := .ref sa) rfl
    (g := { method := m, pc := pc + 7, locals := ls, stack := .ref sa :: .ref T.heap.size :: .ref T.heap.size :: rest, locked := none }) rfl hsize rfl rfl (rest := rest) rfl
    (by rw [hb]; exact d7) (by rw [hb]; exact d10) hout hRframes (by simp only [List.map_cons, List.sum_cons, hcat]; omega) hlocks
  obtain ⟨f1, f2⟩ := vx_frame hsame
  rw [hhp] at f1 f2
  have hWs : s.WarmedH U.vm := State.WarmedH.trans hW0 hW
  have hcl : s.vm.findClass cls = some ce.cls := by
    have h9 := hO.cls
    rw [hvm] at h9
    exact h9
  have hall : s.sameButNew ({ U with vm := s.vm } : State) locs mc ms := by
    subst hA
    obtain ⟨e1, e2⟩ := hsame
    rw [State.setFrames_setFrames] at e1
    have h2 : (T.setVm s.vm).sameButNew ({ U with vm := s.vm } : State) [] (0 + 1) (0 + 6) := ⟨e1, e2⟩
    have h3 := X.same.trans h2
    rw [List.append_nil] at h3
    exact h3.mono hc hs
  refine ⟨U, ?_, .threw T.heap.size, hrun, hend, Or.inr ⟨T.heap.size, rfl, cls, ce, locs, hx U hWs.alike f1 (fun q hq => f2 q hq (fun z hz => nomatch hz)), hce, hO.vm, hcl, hWs, hall, hf⟩⟩
  refine st1 _ ?_
  show Steps p.tables e below (T1.setTop { method := m, pc := pc + 3, locals := ls, stack := .ref T.heap.size :: rest, locked := none }) _
  jvm_step X₁.here [X₁.here.top, hexec, d3', Value.category]
  exact X₁.ldcStringW hexec (own := own) (text := text) (index := is) (a := sa) hown' hstr'.1 hstr'.2
    (g := { method := m, pc := pc + 4, locals := ls, stack := .ref T.heap.size :: .ref T.heap.size :: rest, locked := none }) rfl d4' _ hsteps
end Ends
section Bodies
variable {l : Launch}
theorem vx_ofW {y : MethodName} {ws ws' : List Cond} {rm : Room} {Pc : Array Value → State → Prop} {Qc : Array Value → State → Outcome → State → Prop} {XC : String → State → State → Prop} {mc ms : Nat} {free : Addr → Prop} {cc : ByteArray} {maxL : Nat} {ret : Option FieldType}
    (hy : plainName y.cls = true) (hw : ws = Cond.code y cc maxL ret :: ws')
    (body : ∀ p e s m args below meth c s₁, BodyLoose p l y (headSpec ws rm) cc maxL ret e s m args below meth c s₁ → c.maxLocals = maxL → (∀ x ∈ c.exceptionTable.toList, False) → Pc args s →
      W p l e (headSpec ws rm).room s m args below meth c s.heap [] 0 0 (vx_MQ below Qc XC args s mc ms free) (entryFrame m args maxL)) : vx_Met l y ws rm Pc Qc XC mc ms free := by
  refine MetFree.of_bodyS (code := cc) (maxLocals := maxL) (ret := ret) hy ?_ ?_
  · intro args s m h hn
    obtain ⟨meth, c, h1, h2, h3, h4, h5, h6, -, -⟩ := Cond.code_spec hn (atoms_spec (ws := ws) h _ (by rw [hw]; exact List.mem_cons_self))
    exact ⟨meth, c, h1, h2, h3, h4, h5, h6⟩
  · intro p e s m args below meth c s₁ B hml hP _
    have hh0 : s₁.heap = s.heap := by rw [B.state]; rfl
    have ht : ∀ x ∈ c.exceptionTable.toList, False := by
      obtain ⟨meth9, c9, h1, h2, -, -, -, -, h7, -⟩ := Cond.code_spec B.named (atoms_spec (ws := ws) B.pre _ (by rw [hw]; exact List.mem_cons_self))
      cases Option.some.inj (h1.symm.trans B.method)
      cases Option.some.inj (h2.symm.trans (Stand.of_body B).code)
      intro x hx
      rw [Array.isEmpty_iff.mp h7] at hx
      cases hx
    obtain ⟨t, a1, o, b1, b2, b3⟩ := body p e s m args below meth c s₁ B hml ht hP s₁ hh0 (Stand.of_body B)
    exact ⟨t, o, a1, b1, b2, b3⟩
/-- the table of a body with handlers -/
theorem vx_table {p : Program} {x y : MethodName} {S : Spec} {cc bytes : ByteArray} {maxL maxL' : Nat} {ret ret' : Option FieldType} {e : Env} {s s₁ : State} {m : MethodId} {args : Array Value} {below : List Frame} {meth : Method} {c : Code} {hh : List (Nat × Nat × Nat × Nat)}
    (B : BodyLoose p l y S cc maxL ret e s m args below meth c s₁) (h : (Cond.codeWith y bytes maxL' ret' hh).before args s = true) : c.exceptionTable.toList = tableOf hh := by
  obtain ⟨m9, meth9, c9, hn9, h1, h2, -, -, h6, -⟩ := Cond.codeWith_spec h
  cases Option.some.inj (hn9.symm.trans B.named)
  cases Option.some.inj (h1.symm.trans B.method)
  cases Option.some.inj (h2.symm.trans (Stand.of_body B).code)
  rw [← h6, table_eq]
end Bodies
end VXA
/-! ===== END ===== -/
/-! ===== BEGIN a static call of a method with an exception table ===== -/
section VXS
variable {p : Program} {l : Launch} {e : Env} {R : Room} {s : State} {m : MethodId} {args : Array Value} {below : List Frame} {meth : Method} {c : Code} {T : State} {H : Heap} {locs : List Loc} {cells slots : Nat}
abbrev vx_CSW (R : Room) (s : State) (args : Array Value) (own : String) (index : Nat) (y : MethodName) (bytes : ByteArray) (maxL : Nat) (ret : Option FieldType) (hh : List (Nat × Nat × Nat × Nat)) (ws : List Cond) (rm : Room) (mc ms n : Nat) : Prop :=
  (rm.cells = mc ∧ rm.slots = ms ∧ rm.frames + 1 ≤ R.frames ∧ 8 + (maxL + 11) + rm.locals ≤ R.locals ∧ (∀ w ∈ ws, ∀ (a' : Array Value) (U : State), s.WarmedH U.vm → w.before a' U = true) ∧ Cond.codeWith y bytes maxL ret hh ∈ ws) ∧
  (Cond.codeWith y bytes maxL ret hh).before args s = true ∧ (Cond.initialized y.cls).before args s = true ∧ (y.cls ≠ "java/lang/invoke/MethodHandle" ∧ y.cls ≠ "java/lang/invoke/VarHandle") ∧
  (∀ sig, parseMethodDescriptor y.desc = some sig → n = sig.parameters.length) ∧ (Cond.methodLink own index y).before args s = true ∧ (Cond.static y).before args s = true
theorem vx_cwSW {own : String} {index maxL mc ms : Nat} {y : MethodName} {bytes : ByteArray} {ret : Option FieldType} {hh : List (Nat × Nat × Nat × Nat)} {Ts ws ws' : List Cond} {rm : Room} (n : Nat) (ht : ∀ w ∈ Ts, w.before args s = true) (hT : GoodIn Ts (va_wsS own index y ws)) (hw : ws = Cond.codeWith y bytes maxL ret hh :: ws') (hrc : rm.cells = mc) (hrs : rm.slots = ms)
    (hd : y.cls ≠ "java/lang/invoke/MethodHandle" ∧ y.cls ≠ "java/lang/invoke/VarHandle" ∧ (parseMethodDescriptor y.desc).map (fun d => d.parameters.length) = some n) (hR : rm.frames + 1 ≤ R.frames ∧ 8 + (maxL + 11) + rm.locals ≤ R.locals) :
    vx_CSW R s args own index y bytes maxL ret hh ws rm mc ms n := by
  have ok : ∀ w ∈ va_wsS own index y ws, w.before args s = true := fun w h => ht w (hT w h).1
  have hG : GoodIn Ts ws := fun w h => hT w (by unfold va_wsS; exact List.mem_append_right _ h)
  have hc : Cond.codeWith y bytes maxL ret hh ∈ ws := by rw [hw]; exact List.mem_cons_self
  refine ⟨⟨hrc, hrs, hR.1, hR.2, pay_in ht hG, hc⟩, ht _ (hG _ hc).1, ok _ (by simp [va_wsS]), ⟨hd.1, hd.2.1⟩, fun sig h => ?_, ok _ (by simp [va_wsS]), ok _ (by simp [va_wsS])⟩
  have h2 := hd.2.2
  rw [h] at h2
  exact (Option.some.inj h2).symm
theorem vx_callSW (X : Stand p l e R s m args below meth c T locs cells slots) (hexec : p.tables.exec = Jvm.exec) {own : String} {index : Nat} {y : MethodName} {bytes : ByteArray} {maxL : Nat} {ret : Option FieldType} {hh : List (Nat × Nat × Nat × Nat)}
    (hown : s.vm.findClass own = some m.cls) (hlink : (Cond.methodLink own index y).before args s = true) (hstat : (Cond.static y).before args s = true) (hinit : (Cond.initialized y.cls).before args s = true)
    (hcode : (Cond.codeWith y bytes maxL ret hh).before args s = true) (hy : y.cls ≠ "java/lang/invoke/MethodHandle" ∧ y.cls ≠ "java/lang/invoke/VarHandle")
    {W9 : Nat} {Pre : Pt → Array Value → Prop} {Post : Pt → Array Value → Option Value → Pt → Prop} (hK : Back l R p e below s args y 3 W9 Pre Post)
    {g : JFrame} (hg : g.method = m) (hsize : g.locals.size = c.maxLocals) {argsL rest : List Value} (hlen : ∀ sig, parseMethodDescriptor y.desc = some sig → argsL.length = sig.parameters.length)
    (hstack : g.stack = argsL.reverse ++ rest) (hW : 2 * g.monitorRoom + (rest.map fun v => v.category).sum ≤ W9) (hdg : decode c.code g.pc = .ok (.invokestatic index, 3))
    (hpre : ∀ vm₁, s.WarmedH vm₁ → Pre ⟨T.setVm vm₁, locs, cells, slots⟩ argsL.toArray) :
    ∃ (v : Option Value) (vm₁ : Vm) (B : Pt), s.WarmedH vm₁ ∧ Stand p l e R s m args below meth c B.U B.locs B.cells B.slots ∧ Post ⟨T.setVm vm₁, locs, cells, slots⟩ argsL.toArray v B ∧
      ∀ target, Steps p.tables e below (B.U.setTop { g with pc := g.pc + 3, stack := v.toList ++ rest }) target → Steps p.tables e below (T.setTop g) target := by
  obtain ⟨mk, methM, cM, hnamed, hmethM, -, -, -, -, -, -, hsigM⟩ := Cond.codeWith_spec hcode
  have hstatic : methM.isStatic = true := Cond.static_spec hnamed hmethM hstat
  obtain ⟨kP, hkP, -⟩ := className_of_methodNamed hnamed
  have hinitP : kP.init = .initialized := Cond.initialized_spec (findClass_of_methodNamed hnamed) hkP hinit
  obtain ⟨vm₁, X₁, hstep₁⟩ := X.invokestatic hexec hown hlink hnamed hmethM hstatic hkP hinitP hy (g := g) hg (argsL := argsL) (rest := rest) (hlen _ hsigM) hstack hdg
  obtain ⟨v, B, X', hpost, hsteps⟩ := hK m meth c ⟨T.setVm vm₁, locs, cells, slots⟩ { g with stack := rest } (.invokestatic index) mk argsL.toArray X₁ hg hsize hdg hW (X₁.named hnamed) (hpre vm₁ X₁.warmed)
  exact ⟨v, vm₁, B, X₁.warmed, X', hpost, fun target h => hstep₁ _ fun acts => by rw [doInvoke_state]; exact hsteps.trans h⟩
theorem vx_runSW {y : MethodName} {bytes cc : ByteArray} {maxL nL mc ms n index : Nat} {ret : Option FieldType} {hh : List (Nat × Nat × Nat × Nat)} {ws : List Cond} {rm : Room} {Pc : Array Value → State → Prop} {Qc : Array Value → State → Outcome → State → Prop} {free : Addr → Prop} {Ts : List Cond} {own : String} {As rest : List Value} {g : JFrame}
    (S : CallFix p m c cc nL s args Ts own) (hM : Met l y ws rm Pc Qc mc ms free) (cw : vx_CSW R s args own index y bytes maxL ret hh ws rm mc ms n) (hp : PreS s H Pc As)
    (hg : g.method = m) (hn : As.length = n) (hsize : g.locals.size = nL) (hstack : g.stack = As.reverse ++ rest) (hW : 2 * g.monitorRoom + (rest.map fun v => v.category).sum ≤ 8) (hdg : decode cc g.pc = .ok (.invokestatic index, 3)) (hf : cells + mc ≤ R.cells ∧ slots + ms ≤ R.slots) :
    va_Run p l e R s m args below meth c H locs cells slots mc ms g rest (Qc As.toArray) (free) := by
  obtain ⟨⟨hrc, hrs, hfr, hlo, hws, hcw⟩, hcode, hini, hy, hlen, hl, hstt⟩ := cw
  have hK : Back l R p e below s args y 3 8 (PreOf R mc ms Pc) (PostOf Qc mc ms free) := va_backW (hh := hh) (bytes := bytes) (maxL := maxL) (ret := ret) hM hp.1 hrc hrs hfr hlo hws hcw (fun a' U hW => word_at hW (Or.inl (by first | rfl | simp [Cond.onTables, Cond.keeps, Cond.steady])) hini)
  obtain ⟨hx, hb, hml, ho, -⟩ := S
  intro T hT X
  obtain ⟨v, vm₁, ⟨U', l2, c2, s2⟩, hW₁, X', ⟨g', mk, t, L, e1, e2, hq, h1, hL, h2, h3⟩, st⟩ := vx_callSW X hx (hh := hh) (bytes := bytes) (maxL := maxL) (ret := ret) ho hl hstt hini hcode hy hK hg (hsize.trans hml.symm) (argsL := As) (rest := rest) (fun sig h => hn.trans (hlen sig h)) hstack hW (by rw [hb]; exact hdg)
    (fun vm₁ hW₁ => ⟨hf.1, hf.2, hp.2 (T.setVm vm₁) hT hW₁⟩)
  dsimp only [Pt.U, Pt.locs, Pt.cells, Pt.slots] at X' e1 e2 h1 h2 h3 st
  subst h1; subst h2; subst h3
  exact ⟨v, (T.setVm vm₁).calling g' mk As.toArray, t, U', L, hT, X', hL, e1, e2, hq, st⟩
/-- a thing of a world lies in the heap -/
theorem vx_lt {D : va_G} {cl : List vw_C} {ws : va_W} {H1 : Heap} (h : va_P D cl ws H1) {k : Nat} {q : Nat × va_E} (hk : ws[k]? = some q) : q.1 < H1.size := (h k q hk).lt
end VXS
/-! ===== END ===== -/
/-! ===== BEGIN methods with a table of their own: called by a name, returning or throwing ===== -/
section VXH
/-! vx_backW, vx_callVX, vx_callSX, vx_callVW, vx_runVW, vx_runVX, vx_runSX, vx_ofWH follow the same proofs as their sisters above (Free/Laws.lean, Shelf42/LK1.lean); vx_outP calls Shelf42/NT130.lean (outThrough). -/
section
variable {l : Launch} {R : Room} {p : Program} {e : Env} {below : List Frame} {s : State} {sargs : Array Value} {y : MethodName} {len W9 : Nat}
theorem vx_backW {ws : List Cond} {rm : Room} {Pc : Array Value → State → Prop} {Qc : Array Value → State → Outcome → State → Prop} {XC : String → State → State → Prop} {mc ms : Nat} {free : Addr → Prop} {bytes : ByteArray} {maxL : Nat} {ret : Option FieldType} {hh : List (Nat × Nat × Nat × Nat)}
    (hM : vx_Met l y ws rm Pc Qc XC mc ms free) (hblind : FrameBlind Pc) (hrc : rm.cells = mc) (hrs : rm.slots = ms)
    (hframes : rm.frames + 1 ≤ R.frames) (hlocals : W9 + (maxL + 11) + rm.locals ≤ R.locals)
    (hws : ∀ w ∈ ws, ∀ a' U, s.WarmedH U.vm → w.before a' U = true) (hcode : Cond.codeWith y bytes maxL ret hh ∈ ws) (hinit : ∀ a' U, s.WarmedH U.vm → (Cond.initialized y.cls).before a' U = true) :
    vx_Back l R p e below s sargs y len W9 (PreOf R mc ms Pc) (PostOf Qc mc ms free) (vx_Post XC mc ms free) := by
  intro m meth c A g ig mk a X hg hsize hdg hW hn hp
  have h1 : (headSpec ws rm).pre.before a A.U = true := atoms_intro fun w hw => hws w hw _ _ X.warmed
  have h2 : (Cond.codeWith y bytes maxL ret hh).before a A.U = true := hws _ hcode _ _ X.warmed
  have h3 : (Cond.initialized y.cls).before a A.U = true := hinit _ _ X.warmed
  have h4 : A.cells + (headSpec ws rm).room.cells ≤ R.cells := by rw [show (headSpec ws rm).room.cells = mc from hrc]; exact hp.1
  have h5 : A.slots + (headSpec ws rm).room.slots ≤ R.slots := by rw [show (headSpec ws rm).room.slots = ms from hrs]; exact hp.2.1
  have hPc : Pc a (A.U.calling g mk a) := hblind _ _ _ _ hp.2.2
  obtain ⟨U, Ls, c0, s0⟩ := A
  dsimp only [Pt.U, Pt.locs, Pt.cells, Pt.slots] at h1 h2 h3 h4 h5 X hn hPc ⊢
  obtain ⟨m9, methY, cY, hn9, hmY, hcY, -, hlY, -⟩ := Cond.codeWith_spec h2
  cases Option.some.inj (hn9.symm.trans hn)
  obtain ⟨kY, hkY, -⟩ := className_of_methodNamed hn
  have hinitY : kY.init = .initialized := Cond.initialized_spec (findClass_of_methodNamed hn) hkY h3
  have h : At U g.method c below := by rw [hg]; exact X.here
  have hlocals9 : W9 + (maxL + 11) + (headSpec ws rm).room.locals ≤ R.locals := hlocals
  have happ : (headSpec ws rm).appliesLoose y e.platform (U.calling g mk a) = true :=
    Spec.appliesLoose_calling (g := g) h hdg hn hkY hinitY
      (X.room_calling (g := g) (R' := (headSpec ws rm).room) hsize hmY hcY hframes (by rw [hlY]; omega) h4 h5) h1
  obtain ⟨mid, hmid⟩ := h.above
  have hfr : (U.setTop g).frames = (.java g :: mid) ++ below := by rw [State.frames_setTop' g h.top, hmid]; rfl
  obtain ⟨o, s₂, hsteps, -, hend, hq⟩ := Steps.callFree hM p X.admits X.cas X.clock (acts := []) hfr happ hPc trivial
  have hq' : vx_Q Qc XC mc ms free a (U.calling g mk a) o s₂ := hq
  rw [State.frames_setTop' g h.top] at hend
  obtain ⟨g₀, hg0⟩ := Option.isSome_iff_exists.mp h.top
  obtain ⟨r, hr⟩ := State.topJava?_eq_some.mp hg0
  have hr' : (({ U with heap := s₂.heap, slotsUsed := s₂.slotsUsed } : State).setVm s₂.vm).frames = .java g₀ :: r := hr
  rcases hq' with ⟨hqc, L, hfe, hL⟩ | ⟨q, rfl, E, ce, L, hx, hce, hcv, hcl, hW₂, hsm, hL⟩
  · obtain ⟨⟨v, rfl⟩, hW₂, e2, q2, q3, q4, q5, q6⟩ := id hfe
    have e3 : s₂ = ({ (U.calling g mk a).setFrames s₂.frames with heap := s₂.heap, slotsUsed := s₂.slotsUsed } : State).setVm s₂.vm := by
      have : s₂ = ({ s₂ with vm := (U.calling g mk a).vm } : State).setVm s₂.vm := rfl
      rw [e2] at this
      exact this
    obtain ⟨c₂, i₂, len₂, hc₂, hd₂, hf₂⟩ := hend
    have hW' : U.WarmedH s₂.vm := hW₂
    have hcc : c₂ = c := by
      have h1 : s₂.code? g.method = U.code? g.method := by
        rw [State.code?_eq, State.code?_eq, hW'.alike.method?]
      exact Option.some.inj (hc₂.symm.trans (h1.trans h.code))
    subst hcc
    have hlen : len₂ = len := by rw [hdg] at hd₂; cases hd₂; rfl
    subst hlen
    have hs₂ : s₂ = (({ U with heap := s₂.heap, slotsUsed := s₂.slotsUsed } : State).setVm s₂.vm).setTop { g with pc := g.pc + len₂, stack := v.toList ++ g.stack } := by
      refine e3.trans ?_
      rw [hf₂, State.calling_eq h.top, State.setFrames_setFrames, State.setTop_of_frames _ hr', hr]
      rfl
    have hsame : U.sameButNew ({ U with heap := s₂.heap, slotsUsed := s₂.slotsUsed } : State) L mc ms := by
      refine ⟨?_, q2, q3, q4, q5, q6⟩
      obtain ⟨t, ht, -⟩ := State.frames_cons hr
      show ({ U with heap := s₂.heap, slotsUsed := s₂.slotsUsed } : State) = { U.setFrames U.frames with heap := s₂.heap, slotsUsed := s₂.slotsUsed }
      rw [State.setFrames_self ht]
    subst hg
    refine Or.inl ⟨v, ⟨(({ U with heap := s₂.heap, slotsUsed := s₂.slotsUsed } : State).setVm s₂.vm), Ls ++ L, c0 + mc, s0 + ms⟩,
      ⟨X.admits, X.cas, X.clock, X.frames, X.room, X.hears, X.method, X.code, (X.here.setHeapUsed s₂.heap s₂.slotsUsed).setVm hW'.alike, X.tail, State.WarmedH.trans X.warmed hW', X.limits, X.bytes, X.same.trans (hsame.setVm s.vm)⟩,
      ⟨g, mk, s₂, L, rfl, rfl, hqc, rfl, hL, rfl, rfl⟩, ?_⟩
    show Steps p.tables e below _ ((({ U with heap := s₂.heap, slotsUsed := s₂.slotsUsed } : State).setVm s₂.vm).setTop { g with pc := g.pc + len₂, stack := v.toList ++ g.stack })
    rw [← hs₂]
    exact hsteps
  · obtain ⟨e2, q2, q3, q4, q5, q6⟩ := id hsm
    have e3 : s₂ = ({ (U.calling g mk a).setFrames s₂.frames with heap := s₂.heap, slotsUsed := s₂.slotsUsed } : State).setVm s₂.vm := by
      have : s₂ = ({ s₂ with vm := (U.calling g mk a).vm } : State).setVm s₂.vm := rfl
      rw [e2] at this
      exact this
    have hf₂ : s₂.frames = .throwing q :: .java g :: U.frames.tail := hend
    have hW' : U.WarmedH s₂.vm := hW₂
    have hs₂ : s₂ = ((({ U with heap := s₂.heap, slotsUsed := s₂.slotsUsed } : State).setVm s₂.vm).setTop g).pushFrame (.throwing q) := by
      refine e3.trans ?_
      rw [hf₂, State.calling_eq h.top, State.setFrames_setFrames, State.pushFrame, State.frames_setTop _ hr', State.setTop_of_frames _ hr', State.setFrames_setFrames, hr]
      rfl
    have hsame : U.sameButNew ({ U with heap := s₂.heap, slotsUsed := s₂.slotsUsed } : State) L mc ms := by
      refine ⟨?_, q2, q3, q4, q5, q6⟩
      obtain ⟨t, ht, -⟩ := State.frames_cons hr
      show ({ U with heap := s₂.heap, slotsUsed := s₂.slotsUsed } : State) = { U.setFrames U.frames with heap := s₂.heap, slotsUsed := s₂.slotsUsed }
      rw [State.setFrames_self ht]
    subst hg
    refine Or.inr ⟨q, ⟨(({ U with heap := s₂.heap, slotsUsed := s₂.slotsUsed } : State).setVm s₂.vm), Ls ++ L, c0 + mc, s0 + ms⟩,
      ⟨X.admits, X.cas, X.clock, X.frames, X.room, X.hears, X.method, X.code, (X.here.setHeapUsed s₂.heap s₂.slotsUsed).setVm hW'.alike, X.tail, State.WarmedH.trans X.warmed hW', X.limits, X.bytes, X.same.trans (hsame.setVm s.vm)⟩,
      ⟨g, mk, s₂, L, E, ce, rfl, rfl, hx, hce, hcv, hcl, rfl, hL, rfl, rfl⟩, ?_⟩
    show Steps p.tables e below _ (((({ U with heap := s₂.heap, slotsUsed := s₂.slotsUsed } : State).setVm s₂.vm).setTop g).pushFrame (.throwing q))
    rw [← hs₂]
    exact hsteps
end
variable {p : Program} {l : Launch} {e : Env} {R : Room} {s : State} {m : MethodId} {args : Array Value} {below : List Frame} {meth : Method} {c : Code} {T : State} {H : Heap} {locs : List Loc} {cells slots : Nat}
theorem vx_callVX (X : Stand p l e R s m args below meth c T locs cells slots) (hexec : p.tables.exec = Jvm.exec) {own C : String} {index : Nat} {y : MethodName} {bytes : ByteArray} {maxL : Nat} {ret : Option FieldType} {hh : List (Nat × Nat × Nat × Nat)}
    (hown : s.vm.findClass own = some m.cls) (hlink : (Cond.methodLink own index y).before args s = true) (hinst : (Cond.instanceMethod y).before args s = true) (hsel : (Cond.selects C y y).before args s = true)
    (hcode : (Cond.codeWith y bytes maxL ret hh).before args s = true) (hy : y.cls ≠ "java/lang/invoke/MethodHandle" ∧ y.cls ≠ "java/lang/invoke/VarHandle")
    {W9 : Nat} {Pre : Pt → Array Value → Prop} {Post : Pt → Array Value → Option Value → Pt → Prop} {PostX : Pt → Array Value → Addr → Pt → Prop} (hK : vx_Back l R p e below s args y 3 W9 Pre Post PostX)
    {b : Addr} {cellB : Cell} (hcell : T.heap[b]? = some cellB) (hobj : cellB.vm.isStatics = false) (hcls : s.vm.findClass C = some cellB.cls)
    {g : JFrame} (hg : g.method = m) (hsize : g.locals.size = c.maxLocals) {argsL rest : List Value} (hlen : ∀ sig, parseMethodDescriptor y.desc = some sig → argsL.length = sig.parameters.length)
    (hstack : g.stack = argsL.reverse ++ .ref b :: rest) (hW : 2 * g.monitorRoom + (rest.map fun v => v.category).sum ≤ W9) (hdg : decode c.code g.pc = .ok (.invokevirtual index, 3))
    (hpre : ∀ vm₁, s.WarmedH vm₁ → Pre ⟨T.setVm vm₁, locs, cells, slots⟩ (Value.ref b :: argsL).toArray) :
    (∃ (v : Option Value) (vm₁ : Vm) (B : Pt), s.WarmedH vm₁ ∧ Stand p l e R s m args below meth c B.U B.locs B.cells B.slots ∧ Post ⟨T.setVm vm₁, locs, cells, slots⟩ (Value.ref b :: argsL).toArray v B ∧
      ∀ target, Steps p.tables e below (B.U.setTop { g with pc := g.pc + 3, stack := v.toList ++ rest }) target → Steps p.tables e below (T.setTop g) target) ∨
    (∃ (q : Addr) (vm₁ : Vm) (B : Pt), s.WarmedH vm₁ ∧ Stand p l e R s m args below meth c B.U B.locs B.cells B.slots ∧ PostX ⟨T.setVm vm₁, locs, cells, slots⟩ (Value.ref b :: argsL).toArray q B ∧
      Steps p.tables e below (T.setTop g) ((B.U.setTop { g with stack := rest }).pushFrame (.throwing q))) := by
  obtain ⟨mk, methM, hnamed, hmethM, hstM, habM⟩ := Cond.instanceMethod_spec hinst
  obtain ⟨m8, methM', cM, hn8, hmethM', -, -, -, -, -, -, hsigM⟩ := Cond.codeWith_spec hcode
  cases Option.some.inj (hn8.symm.trans hnamed)
  cases hmethM.symm.trans hmethM'
  obtain ⟨c2, r2, m2, q1, q2, q3, q4, kP, hkP, hkPi⟩ := Cond.selects_spec hsel
  cases hcls.symm.trans q1
  cases (State.methodFound?_of_named hnamed hy).symm.trans q2
  cases hnamed.symm.trans q3
  have hselP : selectMethod e.platform s.vm cellB.cls mk = .method mk := by rw [Launch.admits_selectMethod X.admits]; exact q4
  obtain ⟨vm₁, X₁, hstep₁⟩ := X.invokevirtual hexec hown hlink hnamed hmethM hstM hkP hkPi hy (a := b) (cell := cellB) hcell
    (fun z h => by rw [h] at hobj; cases hobj) hselP hmethM habM hkP hkPi (g := g) hg (argsL := argsL) (rest := rest) (hlen _ hsigM) hstack hdg
  rcases hK m meth c ⟨T.setVm vm₁, locs, cells, slots⟩ { g with stack := rest } (.invokevirtual index) mk (Value.ref b :: argsL).toArray X₁ hg hsize hdg hW (X₁.named hnamed) (hpre vm₁ X₁.warmed) with ⟨v, B, X', hpost, hsteps⟩ | ⟨q, B, X', hpost, hsteps⟩
  · exact Or.inl ⟨v, vm₁, B, X₁.warmed, X', hpost, fun target h => hstep₁ _ fun acts => by rw [doInvoke_state]; exact hsteps.trans h⟩
  · exact Or.inr ⟨q, vm₁, B, X₁.warmed, X', hpost, hstep₁ _ fun acts => by rw [doInvoke_state]; exact hsteps⟩
theorem vx_callSX (X : Stand p l e R s m args below meth c T locs cells slots) (hexec : p.tables.exec = Jvm.exec) {own : String} {index : Nat} {y : MethodName} {bytes : ByteArray} {maxL : Nat} {ret : Option FieldType} {hh : List (Nat × Nat × Nat × Nat)}
    (hown : s.vm.findClass own = some m.cls) (hlink : (Cond.methodLink own index y).before args s = true) (hstat : (Cond.static y).before args s = true) (hinit : (Cond.initialized y.cls).before args s = true)
    (hcode : (Cond.codeWith y bytes maxL ret hh).before args s = true) (hy : y.cls ≠ "java/lang/invoke/MethodHandle" ∧ y.cls ≠ "java/lang/invoke/VarHandle")
    {W9 : Nat} {Pre : Pt → Array Value → Prop} {Post : Pt → Array Value → Option Value → Pt → Prop} {PostX : Pt → Array Value → Addr → Pt → Prop} (hK : vx_Back l R p e below s args y 3 W9 Pre Post PostX)
    {g : JFrame} (hg : g.method = m) (hsize : g.locals.size = c.maxLocals) {argsL rest : List Value} (hlen : ∀ sig, parseMethodDescriptor y.desc = some sig → argsL.length = sig.parameters.length)
    (hstack : g.stack = argsL.reverse ++ rest) (hW : 2 * g.monitorRoom + (rest.map fun v => v.category).sum ≤ W9) (hdg : decode c.code g.pc = .ok (.invokestatic index, 3))
    (hpre : ∀ vm₁, s.WarmedH vm₁ → Pre ⟨T.setVm vm₁, locs, cells, slots⟩ argsL.toArray) :
    (∃ (v : Option Value) (vm₁ : Vm) (B : Pt), s.WarmedH vm₁ ∧ Stand p l e R s m args below meth c B.U B.locs B.cells B.slots ∧ Post ⟨T.setVm vm₁, locs, cells, slots⟩ argsL.toArray v B ∧
      ∀ target, Steps p.tables e below (B.U.setTop { g with pc := g.pc + 3, stack := v.toList ++ rest }) target → Steps p.tables e below (T.setTop g) target) ∨
    (∃ (q : Addr) (vm₁ : Vm) (B : Pt), s.WarmedH vm₁ ∧ Stand p l e R s m args below meth c B.U B.locs B.cells B.slots ∧ PostX ⟨T.setVm vm₁, locs, cells, slots⟩ argsL.toArray q B ∧
      Steps p.tables e below (T.setTop g) ((B.U.setTop { g with stack := rest }).pushFrame (.throwing q))) := by
  obtain ⟨mk, methM, cM, hnamed, hmethM, -, -, -, -, -, -, hsigM⟩ := Cond.codeWith_spec hcode
  have hstatic : methM.isStatic = true := Cond.static_spec hnamed hmethM hstat
  obtain ⟨kP, hkP, -⟩ := className_of_methodNamed hnamed
  have hinitP : kP.init = .initialized := Cond.initialized_spec (findClass_of_methodNamed hnamed) hkP hinit
  obtain ⟨vm₁, X₁, hstep₁⟩ := X.invokestatic hexec hown hlink hnamed hmethM hstatic hkP hinitP hy (g := g) hg (argsL := argsL) (rest := rest) (hlen _ hsigM) hstack hdg
  rcases hK m meth c ⟨T.setVm vm₁, locs, cells, slots⟩ { g with stack := rest } (.invokestatic index) mk argsL.toArray X₁ hg hsize hdg hW (X₁.named hnamed) (hpre vm₁ X₁.warmed) with ⟨v, B, X', hpost, hsteps⟩ | ⟨q, B, X', hpost, hsteps⟩
  · exact Or.inl ⟨v, vm₁, B, X₁.warmed, X', hpost, fun target h => hstep₁ _ fun acts => by rw [doInvoke_state]; exact hsteps.trans h⟩
  · exact Or.inr ⟨q, vm₁, B, X₁.warmed, X', hpost, hstep₁ _ fun acts => by rw [doInvoke_state]; exact hsteps⟩
theorem vx_callVW (X : Stand p l e R s m args below meth c T locs cells slots) (hexec : p.tables.exec = Jvm.exec) {own C : String} {index : Nat} {y : MethodName} {bytes : ByteArray} {maxL : Nat} {ret : Option FieldType} {hh : List (Nat × Nat × Nat × Nat)}
    (hown : s.vm.findClass own = some m.cls) (hlink : (Cond.methodLink own index y).before args s = true) (hinst : (Cond.instanceMethod y).before args s = true) (hsel : (Cond.selects C y y).before args s = true)
    (hcode : (Cond.codeWith y bytes maxL ret hh).before args s = true) (hy : y.cls ≠ "java/lang/invoke/MethodHandle" ∧ y.cls ≠ "java/lang/invoke/VarHandle")
    {W9 : Nat} {Pre : Pt → Array Value → Prop} {Post : Pt → Array Value → Option Value → Pt → Prop} (hK : Back l R p e below s args y 3 W9 Pre Post)
    {b : Addr} {cellB : Cell} (hcell : T.heap[b]? = some cellB) (hobj : cellB.vm.isStatics = false) (hcls : s.vm.findClass C = some cellB.cls)
    {g : JFrame} (hg : g.method = m) (hsize : g.locals.size = c.maxLocals) {argsL rest : List Value} (hlen : ∀ sig, parseMethodDescriptor y.desc = some sig → argsL.length = sig.parameters.length)
    (hstack : g.stack = argsL.reverse ++ .ref b :: rest) (hW : 2 * g.monitorRoom + (rest.map fun v => v.category).sum ≤ W9) (hdg : decode c.code g.pc = .ok (.invokevirtual index, 3))
    (hpre : ∀ vm₁, s.WarmedH vm₁ → Pre ⟨T.setVm vm₁, locs, cells, slots⟩ (Value.ref b :: argsL).toArray) :
    ∃ (v : Option Value) (vm₁ : Vm) (B : Pt), s.WarmedH vm₁ ∧ Stand p l e R s m args below meth c B.U B.locs B.cells B.slots ∧ Post ⟨T.setVm vm₁, locs, cells, slots⟩ (Value.ref b :: argsL).toArray v B ∧
      ∀ target, Steps p.tables e below (B.U.setTop { g with pc := g.pc + 3, stack := v.toList ++ rest }) target → Steps p.tables e below (T.setTop g) target := by
  obtain ⟨mk, methM, hnamed, hmethM, hstM, habM⟩ := Cond.instanceMethod_spec hinst
  obtain ⟨m8, methM', cM, hn8, hmethM', -, -, -, -, -, -, hsigM⟩ := Cond.codeWith_spec hcode
  cases Option.some.inj (hn8.symm.trans hnamed)
  cases hmethM.symm.trans hmethM'
  obtain ⟨c2, r2, m2, q1, q2, q3, q4, kP, hkP, hkPi⟩ := Cond.selects_spec hsel
  cases hcls.symm.trans q1
  cases (State.methodFound?_of_named hnamed hy).symm.trans q2
  cases hnamed.symm.trans q3
  have hselP : selectMethod e.platform s.vm cellB.cls mk = .method mk := by rw [Launch.admits_selectMethod X.admits]; exact q4
  obtain ⟨vm₁, X₁, hstep₁⟩ := X.invokevirtual hexec hown hlink hnamed hmethM hstM hkP hkPi hy (a := b) (cell := cellB) hcell
    (fun z h => by rw [h] at hobj; cases hobj) hselP hmethM habM hkP hkPi (g := g) hg (argsL := argsL) (rest := rest) (hlen _ hsigM) hstack hdg
  obtain ⟨v, B, X', hpost, hsteps⟩ := hK m meth c ⟨T.setVm vm₁, locs, cells, slots⟩ { g with stack := rest } (.invokevirtual index) mk (Value.ref b :: argsL).toArray X₁ hg hsize hdg hW (X₁.named hnamed) (hpre vm₁ X₁.warmed)
  exact ⟨v, vm₁, B, X₁.warmed, X', hpost, fun target h => hstep₁ _ fun acts => by rw [doInvoke_state]; exact hsteps.trans h⟩
abbrev vx_CVW (R : Room) (s : State) (args : Array Value) (own C : String) (index : Nat) (y : MethodName) (bytes : ByteArray) (maxL : Nat) (ret : Option FieldType) (hh : List (Nat × Nat × Nat × Nat)) (ws : List Cond) (rm : Room) (mc ms n : Nat) : Prop :=
  (rm.cells = mc ∧ rm.slots = ms ∧ rm.frames + 1 ≤ R.frames ∧ 8 + (maxL + 11) + rm.locals ≤ R.locals ∧ (∀ w ∈ ws, ∀ (a' : Array Value) (U : State), s.WarmedH U.vm → w.before a' U = true) ∧ Cond.codeWith y bytes maxL ret hh ∈ ws) ∧
  (Cond.codeWith y bytes maxL ret hh).before args s = true ∧ (Cond.initialized y.cls).before args s = true ∧ (y.cls ≠ "java/lang/invoke/MethodHandle" ∧ y.cls ≠ "java/lang/invoke/VarHandle") ∧
  (∀ sig, parseMethodDescriptor y.desc = some sig → n = sig.parameters.length) ∧ (Cond.methodLink own index y).before args s = true ∧ (Cond.instanceMethod y).before args s = true ∧ (Cond.selects C y y).before args s = true
theorem vx_cwVW {own C : String} {index maxL mc ms : Nat} {y : MethodName} {bytes : ByteArray} {ret : Option FieldType} {hh : List (Nat × Nat × Nat × Nat)} {Ts ws ws' : List Cond} {rm : Room} (n : Nat) (ht : ∀ w ∈ Ts, w.before args s = true) (hT : GoodIn Ts (wsV own index C y ws)) (hw : ws = Cond.codeWith y bytes maxL ret hh :: ws') (hrc : rm.cells = mc) (hrs : rm.slots = ms)
    (hd : y.cls = C ∧ y.cls ≠ "java/lang/invoke/MethodHandle" ∧ y.cls ≠ "java/lang/invoke/VarHandle" ∧ (parseMethodDescriptor y.desc).map (fun d => d.parameters.length) = some n) (hR : rm.frames + 1 ≤ R.frames ∧ 8 + (maxL + 11) + rm.locals ≤ R.locals) :
    vx_CVW R s args own C index y bytes maxL ret hh ws rm mc ms n := by
  obtain ⟨hC, hd⟩ := hd
  subst hC
  have ok : ∀ w ∈ wsV own index y.cls y ws, w.before args s = true := fun w h => ht w (hT w h).1
  have hG : GoodIn Ts ws := fun w h => hT w (by unfold wsV; exact List.mem_append_right _ h)
  have hc : Cond.codeWith y bytes maxL ret hh ∈ ws := by rw [hw]; exact List.mem_cons_self
  refine ⟨⟨hrc, hrs, hR.1, hR.2, pay_in ht hG, hc⟩, ht _ (hG _ hc).1, ok _ (by simp [wsV]), ⟨hd.1, hd.2.1⟩, fun sig h => ?_, ok _ (by simp [wsV]), ok _ (by simp [wsV]), ok _ (by simp [wsV])⟩
  have h2 := hd.2.2
  rw [h] at h2
  exact (Option.some.inj h2).symm
theorem vx_runVW {y : MethodName} {bytes cc : ByteArray} {maxL nL mc ms n index : Nat} {ret : Option FieldType} {hh : List (Nat × Nat × Nat × Nat)} {ws : List Cond} {rm : Room} {Pc : Array Value → State → Prop} {Qc : Array Value → State → Outcome → State → Prop} {free : Addr → Prop} {Ts : List Cond} {own C : String} {b : Addr} {As rest : List Value} {g : JFrame}
    (S : CallFix p m c cc nL s args Ts own) (hM : Met l y ws rm Pc Qc mc ms free) (cw : vx_CVW R s args own C index y bytes maxL ret hh ws rm mc ms n) (hp : PreV s H C b Pc As)
    (hg : g.method = m) (hn : As.length = n) (hsize : g.locals.size = nL) (hstack : g.stack = As.reverse ++ .ref b :: rest) (hW : 2 * g.monitorRoom + (rest.map fun v => v.category).sum ≤ 8) (hdg : decode cc g.pc = .ok (.invokevirtual index, 3)) (hf : cells + mc ≤ R.cells ∧ slots + ms ≤ R.slots) :
    va_Run p l e R s m args below meth c H locs cells slots mc ms g rest (Qc (Value.ref b :: As).toArray) free := by
  obtain ⟨⟨hrc, hrs, hfr, hlo, hws, hcw⟩, hcode, hini, hy, hlen, hl, hin, hse⟩ := cw
  have hK : Back l R p e below s args y 3 8 (PreOf R mc ms Pc) (PostOf Qc mc ms free) := va_backW (hh := hh) (bytes := bytes) (maxL := maxL) (ret := ret) hM hp.1 hrc hrs hfr hlo hws hcw (fun a' U hW => word_at hW (Or.inl (by first | rfl | simp [Cond.onTables, Cond.keeps, Cond.steady])) hini)
  obtain ⟨hx, hb, hml, ho, -⟩ := S
  obtain ⟨-, ⟨cellB, hcB, hoB, hclB⟩, hPc⟩ := hp
  intro T hT X
  obtain ⟨v, vm₁, ⟨U', l2, c2, s2⟩, hW₁, X', ⟨g', mk, t, L, e1, e2, hq, h1, hL, h2, h3⟩, st⟩ := vx_callVW X hx (C := C) (hh := hh) (bytes := bytes) (maxL := maxL) (ret := ret) ho hl hin hse hcode hy hK (by rw [hT]; exact hcB) hoB hclB hg (hsize.trans hml.symm) (argsL := As) (rest := rest) (fun sig h => hn.trans (hlen sig h)) hstack hW (by rw [hb]; exact hdg)
    (fun vm₁ hW₁ => ⟨hf.1, hf.2, hPc (T.setVm vm₁) hT hW₁⟩)
  dsimp only [Pt.U, Pt.locs, Pt.cells, Pt.slots] at X' e1 e2 h1 h2 h3 st
  subst h1; subst h2; subst h3
  exact ⟨v, (T.setVm vm₁).calling g' mk (Value.ref b :: As).toArray, t, U', L, hT, X', hL, e1, e2, hq, st⟩
section
variable {y : MethodName} {bytes cc : ByteArray} {maxL nL mc ms n index : Nat} {ret : Option FieldType} {ws : List Cond} {rm : Room} {Pc : Array Value → State → Prop} {Qc : Array Value → State → Outcome → State → Prop} {XC : String → State → State → Prop} {free : Addr → Prop} {Ts : List Cond} {own C : String} {b : Addr} {As rest : List Value} {g : JFrame}
theorem vx_runVX {hh : List (Nat × Nat × Nat × Nat)} (S : CallFix p m c cc nL s args Ts own) (hM : vx_Met l y ws rm Pc Qc XC mc ms free) (cw : vx_CVW R s args own C index y bytes maxL ret hh ws rm mc ms n) (hp : PreV s H C b Pc As)
    (hg : g.method = m) (hn : As.length = n) (hsize : g.locals.size = nL) (hstack : g.stack = As.reverse ++ .ref b :: rest) (hW : 2 * g.monitorRoom + (rest.map fun v => v.category).sum ≤ 8) (hdg : decode cc g.pc = .ok (.invokevirtual index, 3)) (hf : cells + mc ≤ R.cells ∧ slots + ms ≤ R.slots) :
    vx_Run p l e R s m args below meth c H locs cells slots mc ms g rest (Qc (Value.ref b :: As).toArray) XC free := by
  obtain ⟨⟨hrc, hrs, hfr, hlo, hws, hcw⟩, hcode, hini, hy, hlen, hl, hin, hse⟩ := cw
  have hK : vx_Back l R p e below s args y 3 8 (PreOf R mc ms Pc) (PostOf Qc mc ms free) (vx_Post XC mc ms free) := vx_backW (hh := hh) (bytes := bytes) (maxL := maxL) (ret := ret) hM hp.1 hrc hrs hfr hlo hws hcw (fun a' U hW => word_at hW (Or.inl (by first | rfl | simp [Cond.onTables, Cond.keeps, Cond.steady])) hini)
  obtain ⟨hx, hb, hml, ho, -⟩ := S
  obtain ⟨-, ⟨cellB, hcB, hoB, hclB⟩, hPc⟩ := hp
  intro T hT X
  rcases vx_callVX X hx (C := C) (hh := hh) (bytes := bytes) (maxL := maxL) (ret := ret) ho hl hin hse hcode hy hK (by rw [hT]; exact hcB) hoB hclB hg (hsize.trans hml.symm) (argsL := As) (rest := rest) (fun sig h => hn.trans (hlen sig h)) hstack hW (by rw [hb]; exact hdg)
    (fun vm₁ hW₁ => ⟨hf.1, hf.2, hPc (T.setVm vm₁) hT hW₁⟩) with ⟨v, vm₁, ⟨U', l2, c2, s2⟩, hW₁, X', ⟨g', mk, t, L, e1, e2, hq, h1, hL, h2, h3⟩, st⟩ | ⟨q, vm₁, ⟨U', l2, c2, s2⟩, hW₁, X', ⟨g', mk, t, L, E, ce, e1, e2, hq, hce, hcv, hcl, h1, hL, h2, h3⟩, st⟩
  · dsimp only [Pt.U, Pt.locs, Pt.cells, Pt.slots] at X' e1 e2 h1 h2 h3 st
    subst h1; subst h2; subst h3
    exact Or.inl ⟨v, (T.setVm vm₁).calling g' mk (Value.ref b :: As).toArray, t, U', L, hT, X', hL, e1, e2, hq, st⟩
  · dsimp only [Pt.U, Pt.locs, Pt.cells, Pt.slots] at X' e1 e2 h1 h2 h3 st hcl
    subst h1; subst h2; subst h3
    exact Or.inr ⟨q, (T.setVm vm₁).calling g' mk (Value.ref b :: As).toArray, t, U', L, E, ce, hT, X', hL, e1, e2, hq, hce, hcv, vx_cls hW₁ hcl, st⟩
theorem vx_runSX {hh : List (Nat × Nat × Nat × Nat)} (S : CallFix p m c cc nL s args Ts own) (hM : vx_Met l y ws rm Pc Qc XC mc ms free) (cw : vx_CSW R s args own index y bytes maxL ret hh ws rm mc ms n) (hp : PreS s H Pc As)
    (hg : g.method = m) (hn : As.length = n) (hsize : g.locals.size = nL) (hstack : g.stack = As.reverse ++ rest) (hW : 2 * g.monitorRoom + (rest.map fun v => v.category).sum ≤ 8) (hdg : decode cc g.pc = .ok (.invokestatic index, 3)) (hf : cells + mc ≤ R.cells ∧ slots + ms ≤ R.slots) :
    vx_Run p l e R s m args below meth c H locs cells slots mc ms g rest (Qc As.toArray) XC free := by
  obtain ⟨⟨hrc, hrs, hfr, hlo, hws, hcw⟩, hcode, hini, hy, hlen, hl, hstt⟩ := cw
  have hK : vx_Back l R p e below s args y 3 8 (PreOf R mc ms Pc) (PostOf Qc mc ms free) (vx_Post XC mc ms free) := vx_backW (hh := hh) (bytes := bytes) (maxL := maxL) (ret := ret) hM hp.1 hrc hrs hfr hlo hws hcw (fun a' U hW => word_at hW (Or.inl (by first | rfl | simp [Cond.onTables, Cond.keeps, Cond.steady])) hini)
  obtain ⟨hx, hb, hml, ho, -⟩ := S
  intro T hT X
  rcases vx_callSX X hx (hh := hh) (bytes := bytes) (maxL := maxL) (ret := ret) ho hl hstt hini hcode hy hK hg (hsize.trans hml.symm) (argsL := As) (rest := rest) (fun sig h => hn.trans (hlen sig h)) hstack hW (by rw [hb]; exact hdg)
    (fun vm₁ hW₁ => ⟨hf.1, hf.2, hp.2 (T.setVm vm₁) hT hW₁⟩) with ⟨v, vm₁, ⟨U', l2, c2, s2⟩, hW₁, X', ⟨g', mk, t, L, e1, e2, hq, h1, hL, h2, h3⟩, st⟩ | ⟨q, vm₁, ⟨U', l2, c2, s2⟩, hW₁, X', ⟨g', mk, t, L, E, ce, e1, e2, hq, hce, hcv, hcl, h1, hL, h2, h3⟩, st⟩
  · dsimp only [Pt.U, Pt.locs, Pt.cells, Pt.slots] at X' e1 e2 h1 h2 h3 st
    subst h1; subst h2; subst h3
    exact Or.inl ⟨v, (T.setVm vm₁).calling g' mk As.toArray, t, U', L, hT, X', hL, e1, e2, hq, st⟩
  · dsimp only [Pt.U, Pt.locs, Pt.cells, Pt.slots] at X' e1 e2 h1 h2 h3 st hcl
    subst h1; subst h2; subst h3
    exact Or.inr ⟨q, (T.setVm vm₁).calling g' mk As.toArray, t, U', L, E, ce, hT, X', hL, e1, e2, hq, hce, hcv, vx_cls hW₁ hcl, st⟩
end
end VXH
theorem vx_ofWH {l : Launch} {y : MethodName} {ws ws' : List Cond} {rm : Room} {Pc : Array Value → State → Prop} {Qc : Array Value → State → Outcome → State → Prop} {XC : String → State → State → Prop} {mc ms : Nat} {free : Addr → Prop} {cc : ByteArray} {maxL : Nat} {ret : Option FieldType} {hh : List (Nat × Nat × Nat × Nat)}
    (hy : plainName y.cls = true) (hw : ws = Cond.codeWith y cc maxL ret hh :: ws')
    (body : ∀ p e s m args below meth c s₁, BodyLoose p l y (headSpec ws rm) cc maxL ret e s m args below meth c s₁ → c.maxLocals = maxL → Pc args s →
      W p l e (headSpec ws rm).room s m args below meth c s.heap [] 0 0 (vx_MQ below Qc XC args s mc ms free) (entryFrame m args maxL)) : vx_Met l y ws rm Pc Qc XC mc ms free := by
  refine MetFree.of_bodyS (code := cc) (maxLocals := maxL) (ret := ret) hy ?_ ?_
  · intro args s m h hn
    obtain ⟨m9, meth, c, hn9, h1, h2, h3, h4, -, h5, h6, -⟩ := Cond.codeWith_spec (atoms_spec (ws := ws) h _ (by rw [hw]; exact List.mem_cons_self))
    cases hn.symm.trans hn9
    exact ⟨meth, c, h1, h2, h3, h4, h5, h6⟩
  · intro p e s m args below meth c s₁ B hml hP _
    have hh0 : s₁.heap = s.heap := by rw [B.state]; rfl
    obtain ⟨t, a1, o, b1, b2, b3⟩ := body p e s m args below meth c s₁ B hml hP s₁ hh0 (Stand.of_body B)
    exact ⟨t, o, a1, b1, b2, b3⟩
/-! ===== END ===== -/
end
section
/-! names: the classes, their fields, the methods, the words -/
def RX0 : String := "LetterWeave"
def RX1 : String := "LetterWeaveModel"
def RL : String := "LetterWeaveLaw"
def TX0 : u_T := fun k => match k with
  | 0 => ("LetterWeave", "maker", "[I", true)
  | 1 => ("LetterWeave", "number", "[I", true)
  | 2 => ("LetterWeave", "taken", "[I", true)
  | 3 => ("LetterWeave", "had", "[[I", true)
  | 4 => ("LetterWeave", "changes", "I", false)
  | 5 => ("LetterWeave", "bytes", "[I", true)
  | 6 => ("LetterWeave", "names", "[I", true)
  | 7 => ("LetterWeave", "shownIn", "[I", true)
  | 8 => ("LetterWeave", "order", "[I", true)
  | 9 => ("LetterWeave", "letters", "I", false)
  | 10 => ("LetterWeave", "own", "[[I", true)
  | 11 => ("LetterWeave", "known", "[[I", true)
  | 12 => ("LetterWeave", "greatest", "[I", true)
  | _ => ("LetterWeave", "lengths", "[I", true)
def tyX0 : Nat → FieldType := fun k => match k with
  | 0 => .array .int
  | 1 => .array .int
  | 2 => .array .int
  | 3 => .array (.array .int)
  | 4 => .int
  | 5 => .array .int
  | 6 => .array .int
  | 7 => .array .int
  | 8 => .array .int
  | 9 => .int
  | 10 => .array (.array .int)
  | 11 => .array (.array .int)
  | 12 => .array .int
  | _ => .array .int
theorem nmX0 : ∀ a, a < 14 → ∀ b, b < 14 → a ≠ b → (TX0 a).2.1 ≠ (TX0 b).2.1 := by decide +kernel
theorem tyX0_ok : ∀ k, k < 14 → parseFieldDescriptor (TX0 k).2.2.1 = some (tyX0 k) := by decide +kernel
def TX1 : u_T := fun k => match k with
  | 0 => ("LetterWeaveModel", "thrown", "I", false)
  | 1 => ("LetterWeaveModel", "number", "[I", true)
  | 2 => ("LetterWeaveModel", "maker", "[I", true)
  | 3 => ("LetterWeaveModel", "change", "[I", true)
  | 4 => ("LetterWeaveModel", "value", "[I", true)
  | 5 => ("LetterWeaveModel", "first", "[I", true)
  | 6 => ("LetterWeaveModel", "sibling", "[I", true)
  | 7 => ("LetterWeaveModel", "up", "[I", true)
  | 8 => ("LetterWeaveModel", "letters", "I", false)
  | 9 => ("LetterWeaveModel", "what", "[I", true)
  | 10 => ("LetterWeaveModel", "had", "[I", true)
  | 11 => ("LetterWeaveModel", "made", "[I", true)
  | 12 => ("LetterWeaveModel", "has", "[I", true)
  | 13 => ("LetterWeaveModel", "order", "[I", true)
  | 14 => ("LetterWeaveModel", "gone", "[Z", true)
  | 15 => ("LetterWeaveModel", "orderOf", "I", false)
  | _ => ("LetterWeaveModel", "long_", "I", false)
def tyX1 : Nat → FieldType := fun k => match k with
  | 0 => .int
  | 1 => .array .int
  | 2 => .array .int
  | 3 => .array .int
  | 4 => .array .int
  | 5 => .array .int
  | 6 => .array .int
  | 7 => .array .int
  | 8 => .int
  | 9 => .array .int
  | 10 => .array .int
  | 11 => .array .int
  | 12 => .array .int
  | 13 => .array .int
  | 14 => .array .boolean
  | 15 => .int
  | _ => .int
theorem nmX1 : ∀ a, a < 17 → ∀ b, b < 17 → a ≠ b → (TX1 a).2.1 ≠ (TX1 b).2.1 := by decide +kernel
theorem tyX1_ok : ∀ k, k < 17 → parseFieldDescriptor (TX1 k).2.2.1 = some (tyX1 k) := by decide +kernel
abbrev twCl : List vw_C := [(RX0, TX0, 14), (RX1, TX1, 17)]
abbrev cX0_init : ByteArray := prog_1_method_1_code
def yX0_init : MethodName := ⟨RX0, "<init>", "()V"⟩
abbrev cL_insert : ByteArray := method_3_code
def yL_insert : MethodName := ⟨RL, "insert", "(LLetterWeave;III[J)I"⟩
abbrev cX0_insert : ByteArray := prog_1_method_2_code
def yX0_insert : MethodName := ⟨RX0, "insert", "(III)I"⟩
abbrev cX0_checkCopy : ByteArray := prog_1_method_10_code
def yX0_checkCopy : MethodName := ⟨RX0, "checkCopy", "(I)V"⟩
abbrev cX0_checkUpTo : ByteArray := prog_1_method_11_code
def yX0_checkUpTo : MethodName := ⟨RX0, "checkUpTo", "(II)V"⟩
abbrev cX0_checkRoom : ByteArray := prog_1_method_12_code
def yX0_checkRoom : MethodName := ⟨RX0, "checkRoom", "(I)V"⟩
abbrev cX0_placeOf : ByteArray := prog_1_method_14_code
def yX0_placeOf : MethodName := ⟨RX0, "placeOf", "(II)I"⟩
abbrev cX0_isShown : ByteArray := prog_1_method_15_code
def yX0_isShown : MethodName := ⟨RX0, "isShown", "(II)Z"⟩
abbrev cX0_addChange : ByteArray := prog_1_method_18_code
def yX0_addChange : MethodName := ⟨RX0, "addChange", "(II)I"⟩
abbrev cX0_weave : ByteArray := prog_1_method_19_code
def yX0_weave : MethodName := ⟨RX0, "weave", "(II)V"⟩
abbrev cX0_receive : ByteArray := prog_1_method_20_code
def yX0_receive : MethodName := ⟨RX0, "receive", "(II)V"⟩
abbrev cX0_showLetter : ByteArray := prog_1_method_21_code
def yX0_showLetter : MethodName := ⟨RX0, "showLetter", "(II)V"⟩
abbrev cX0_hideLetter : ByteArray := prog_1_method_22_code
def yX0_hideLetter : MethodName := ⟨RX0, "hideLetter", "(II)V"⟩
abbrev cL_remove : ByteArray := method_4_code
def yL_remove : MethodName := ⟨RL, "remove", "(LLetterWeave;II[J)I"⟩
abbrev cX0_remove : ByteArray := prog_1_method_3_code
def yX0_remove : MethodName := ⟨RX0, "remove", "(II)I"⟩
abbrev cL_bring : ByteArray := method_5_code
def yL_bring : MethodName := ⟨RL, "bring", "(LLetterWeave;III)I"⟩
abbrev cX0_bring : ByteArray := prog_1_method_4_code
def yX0_bring : MethodName := ⟨RX0, "bring", "(III)V"⟩
abbrev cX0_isIn : ByteArray := prog_1_method_16_code
def yX0_isIn : MethodName := ⟨RX0, "isIn", "(II)Z"⟩
abbrev cX0_canCome : ByteArray := prog_1_method_17_code
def yX0_canCome : MethodName := ⟨RX0, "canCome", "(II)Z"⟩
abbrev cL_merge : ByteArray := method_6_code
def yL_merge : MethodName := ⟨RL, "merge", "(LLetterWeave;II[J)I"⟩
abbrev cX0_merge : ByteArray := prog_1_method_5_code
def yX0_merge : MethodName := ⟨RX0, "merge", "(II)I"⟩
abbrev cL_length : ByteArray := method_7_code
def yL_length : MethodName := ⟨RL, "length", "(LLetterWeave;I[J)I"⟩
abbrev cX0_length : ByteArray := prog_1_method_6_code
def yX0_length : MethodName := ⟨RX0, "length", "(I)I"⟩
abbrev cL_letter : ByteArray := method_8_code
def yL_letter : MethodName := ⟨RL, "letter", "(LLetterWeave;II[J)I"⟩
abbrev cX0_letter : ByteArray := prog_1_method_7_code
def yX0_letter : MethodName := ⟨RX0, "letter", "(II)I"⟩
abbrev cX0_placeToRead : ByteArray := prog_1_method_13_code
def yX0_placeToRead : MethodName := ⟨RX0, "placeToRead", "(II)I"⟩
abbrev cL_name : ByteArray := method_9_code
def yL_name : MethodName := ⟨RL, "name", "(LLetterWeave;II[J)I"⟩
abbrev cX0_name : ByteArray := prog_1_method_8_code
def yX0_name : MethodName := ⟨RX0, "name", "(II)I"⟩
abbrev cL_has : ByteArray := method_10_code
def yL_has : MethodName := ⟨RL, "has", "(LLetterWeave;II[J)I"⟩
abbrev cX0_has : ByteArray := prog_1_method_9_code
def yX0_has : MethodName := ⟨RX0, "has", "(II)I"⟩
abbrev cX1_init : ByteArray := prog_3_method_1_code
def yX1_init : MethodName := ⟨RX1, "<init>", "()V"⟩
abbrev cX1_thrown : ByteArray := prog_3_method_2_code
def yX1_thrown : MethodName := ⟨RX1, "thrown", "()I"⟩
abbrev cX1_insert : ByteArray := prog_3_method_9_code
def yX1_insert : MethodName := ⟨RX1, "insert", "(III)I"⟩
abbrev cX1_isCopy : ByteArray := prog_3_method_4_code
def yX1_isCopy : MethodName := ⟨RX1, "isCopy", "(I)Z"⟩
abbrev cX1_bad : ByteArray := prog_3_method_3_code
def yX1_bad : MethodName := ⟨RX1, "bad", "(Z)Z"⟩
abbrev cX1_look : ByteArray := prog_3_method_6_code
def yX1_look : MethodName := ⟨RX1, "look", "(I)V"⟩
abbrev cX1_isIn : ByteArray := prog_3_method_5_code
def yX1_isIn : MethodName := ⟨RX1, "isIn", "(II)Z"⟩
abbrev cX1_isBefore : ByteArray := prog_3_method_7_code
def yX1_isBefore : MethodName := ⟨RX1, "isBefore", "(II)Z"⟩
abbrev cX1_done : ByteArray := prog_3_method_8_code
def yX1_done : MethodName := ⟨RX1, "done", "(II)I"⟩
abbrev cX1_remove : ByteArray := prog_3_method_10_code
def yX1_remove : MethodName := ⟨RX1, "remove", "(II)I"⟩
abbrev cX1_bring : ByteArray := prog_3_method_11_code
def yX1_bring : MethodName := ⟨RX1, "bring", "(III)V"⟩
abbrev cX1_merge : ByteArray := prog_3_method_12_code
def yX1_merge : MethodName := ⟨RX1, "merge", "(II)I"⟩
abbrev cX1_length : ByteArray := prog_3_method_13_code
def yX1_length : MethodName := ⟨RX1, "length", "(I)I"⟩
abbrev cX1_letter : ByteArray := prog_3_method_14_code
def yX1_letter : MethodName := ⟨RX1, "letter", "(II)I"⟩
abbrev cX1_name : ByteArray := prog_3_method_15_code
def yX1_name : MethodName := ⟨RX1, "name", "(II)I"⟩
abbrev cX1_has : ByteArray := prog_3_method_16_code
def yX1_has : MethodName := ⟨RX1, "has", "(II)I"⟩
abbrev cL_law : ByteArray := code
def yL_law : MethodName := ⟨RL, "law", "([I)Z"⟩
/-- all words of the tables that stay good -/
def tw_wall : List Cond := lw_tbl.filter goodWord
theorem tw_wall_in : ∀ w ∈ tw_wall, w ∈ lw_tbl := fun _ h => (List.mem_filter.mp h).1
theorem tw_m {w : Cond} (i : Nat) (h : lw_tbl[i]? = some w) (g : goodWord w = true) : w ∈ tw_wall := List.mem_filter.mpr ⟨List.mem_of_getElem? h, g⟩
set_option maxRecDepth 20000 in
theorem wi_L : Cond.initialized RL ∈ tw_wall := tw_m 17 rfl rfl
set_option maxRecDepth 20000 in
theorem wi_X0 : Cond.initialized RX0 ∈ tw_wall := tw_m 18 rfl rfl
set_option maxRecDepth 20000 in
theorem wi_X1 : Cond.initialized RX1 ∈ tw_wall := tw_m 19 rfl rfl
set_option maxRecDepth 20000 in
theorem wi_Throwable : Cond.initialized "java/lang/Throwable" ∈ tw_wall := tw_m 20 rfl rfl
set_option maxRecDepth 20000 in
theorem wi_Exception : Cond.initialized "java/lang/Exception" ∈ tw_wall := tw_m 21 rfl rfl
set_option maxRecDepth 20000 in
theorem wi_RuntimeException : Cond.initialized "java/lang/RuntimeException" ∈ tw_wall := tw_m 22 rfl rfl
set_option maxRecDepth 20000 in
theorem wi_IllegalArgumentException : Cond.initialized "java/lang/IllegalArgumentException" ∈ tw_wall := tw_m 23 rfl rfl
set_option maxRecDepth 20000 in
theorem wi_IllegalStateException : Cond.initialized "java/lang/IllegalStateException" ∈ tw_wall := tw_m 24 rfl rfl
set_option maxRecDepth 20000 in
theorem wi_System : Cond.initialized "java/lang/System" ∈ tw_wall := tw_m 25 rfl rfl
set_option maxRecDepth 20000 in
theorem wi_Math : Cond.initialized "java/lang/Math" ∈ tw_wall := tw_m 26 rfl rfl
set_option maxRecDepth 20000 in
theorem wc_L_8 : Cond.classLink RL 8 RX0 ∈ tw_wall := tw_m 27 rfl rfl
set_option maxRecDepth 20000 in
theorem wk_X0 : Cond.instantiable RX0 14 ∈ tw_wall := tw_m 28 rfl rfl
set_option maxRecDepth 20000 in
theorem wl_L_41 : Cond.methodLink RL 41 yX0_init ∈ tw_wall := tw_m 29 rfl rfl
set_option maxRecDepth 20000 in
theorem wn_X0_init : Cond.instanceMethod yX0_init ∈ tw_wall := tw_m 30 rfl rfl
set_option maxRecDepth 20000 in
theorem wy_X0_init : Cond.code yX0_init cX0_init 1 none ∈ tw_wall := tw_m 31 rfl rfl
set_option maxRecDepth 20000 in
theorem wl_X0_1 : Cond.methodLink RX0 1 objectInit ∈ tw_wall := tw_m 32 rfl rfl
set_option maxRecDepth 20000 in
theorem wn_objInit : Cond.instanceMethod objectInit ∈ tw_wall := tw_m 33 rfl rfl
set_option maxRecDepth 20000 in
theorem wy_objInit : Cond.code objectInit ⟨#[0xb1]⟩ 1 none ∈ tw_wall := tw_m 34 rfl rfl
set_option maxRecDepth 20000 in
theorem wc_X0_19 : Cond.classLink RX0 19 "[[I" ∈ tw_wall := tw_m 35 rfl rfl
set_option maxRecDepth 20000 in
theorem wf_X0_maker : Cond.fieldLink RX0 9 "LetterWeave" "maker" "[I" ∈ tw_wall := tw_m 37 rfl rfl
set_option maxRecDepth 20000 in
theorem wf_X0_number : Cond.fieldLink RX0 13 "LetterWeave" "number" "[I" ∈ tw_wall := tw_m 38 rfl rfl
set_option maxRecDepth 20000 in
theorem wf_X0_taken : Cond.fieldLink RX0 16 "LetterWeave" "taken" "[I" ∈ tw_wall := tw_m 39 rfl rfl
set_option maxRecDepth 20000 in
theorem wf_X0_had : Cond.fieldLink RX0 21 "LetterWeave" "had" "[[I" ∈ tw_wall := tw_m 40 rfl rfl
set_option maxRecDepth 20000 in
theorem wf_X0_changes : Cond.fieldLink RX0 24 "LetterWeave" "changes" "I" ∈ tw_wall := tw_m 41 rfl rfl
set_option maxRecDepth 20000 in
theorem wf_X0_bytes : Cond.fieldLink RX0 28 "LetterWeave" "bytes" "[I" ∈ tw_wall := tw_m 42 rfl rfl
set_option maxRecDepth 20000 in
theorem wf_X0_names : Cond.fieldLink RX0 31 "LetterWeave" "names" "[I" ∈ tw_wall := tw_m 43 rfl rfl
set_option maxRecDepth 20000 in
theorem wf_X0_shownIn : Cond.fieldLink RX0 34 "LetterWeave" "shownIn" "[I" ∈ tw_wall := tw_m 44 rfl rfl
set_option maxRecDepth 20000 in
theorem wf_X0_order : Cond.fieldLink RX0 37 "LetterWeave" "order" "[I" ∈ tw_wall := tw_m 45 rfl rfl
set_option maxRecDepth 20000 in
theorem wf_X0_letters : Cond.fieldLink RX0 40 "LetterWeave" "letters" "I" ∈ tw_wall := tw_m 46 rfl rfl
set_option maxRecDepth 20000 in
theorem wf_X0_own : Cond.fieldLink RX0 43 "LetterWeave" "own" "[[I" ∈ tw_wall := tw_m 47 rfl rfl
set_option maxRecDepth 20000 in
theorem wf_X0_known : Cond.fieldLink RX0 46 "LetterWeave" "known" "[[I" ∈ tw_wall := tw_m 48 rfl rfl
set_option maxRecDepth 20000 in
theorem wf_X0_greatest : Cond.fieldLink RX0 49 "LetterWeave" "greatest" "[I" ∈ tw_wall := tw_m 49 rfl rfl
set_option maxRecDepth 20000 in
theorem wf_X0_lengths : Cond.fieldLink RX0 52 "LetterWeave" "lengths" "[I" ∈ tw_wall := tw_m 50 rfl rfl
set_option maxRecDepth 20000 in
theorem wa_int : Cond.arrayClass .int ∈ tw_wall := tw_m 80 rfl rfl
set_option maxRecDepth 20000 in
theorem wl_L_45 : Cond.methodLink RL 45 yL_insert ∈ tw_wall := tw_m 81 rfl rfl
set_option maxRecDepth 20000 in
theorem wt_L_insert : Cond.static yL_insert ∈ tw_wall := tw_m 82 rfl rfl
set_option maxRecDepth 20000 in
theorem wy_L_insert : Cond.codeWith yL_insert cL_insert 6 (some .int) [(0, 12, 15, 13), (0, 12, 19, 15)] ∈ tw_wall := tw_m 83 rfl rfl
set_option maxRecDepth 20000 in
theorem wc_L_13 : Cond.classLink RL 13 "java/lang/IllegalArgumentException" ∈ tw_wall := tw_m 84 rfl rfl
set_option maxRecDepth 20000 in
theorem wc_L_15 : Cond.classLink RL 15 "java/lang/IllegalStateException" ∈ tw_wall := tw_m 85 rfl rfl
set_option maxRecDepth 20000 in
theorem wl_L_7 : Cond.methodLink RL 7 yX0_insert ∈ tw_wall := tw_m 86 rfl rfl
set_option maxRecDepth 20000 in
theorem wn_X0_insert : Cond.instanceMethod yX0_insert ∈ tw_wall := tw_m 87 rfl rfl
set_option maxRecDepth 20000 in
theorem ws_X0_insert : Cond.selects RX0 yX0_insert yX0_insert ∈ tw_wall := tw_m 88 rfl rfl
set_option maxRecDepth 20000 in
theorem wy_X0_insert : Cond.code yX0_insert cX0_insert 6 (some .int) ∈ tw_wall := tw_m 89 rfl rfl
set_option maxRecDepth 20000 in
theorem wl_X0_55 : Cond.methodLink RX0 55 yX0_checkCopy ∈ tw_wall := tw_m 90 rfl rfl
set_option maxRecDepth 20000 in
theorem wt_X0_checkCopy : Cond.static yX0_checkCopy ∈ tw_wall := tw_m 91 rfl rfl
set_option maxRecDepth 20000 in
theorem wy_X0_checkCopy : Cond.code yX0_checkCopy cX0_checkCopy 1 none ∈ tw_wall := tw_m 92 rfl rfl
set_option maxRecDepth 20000 in
theorem wl_X0_59 : Cond.methodLink RX0 59 yX0_checkUpTo ∈ tw_wall := tw_m 93 rfl rfl
set_option maxRecDepth 20000 in
theorem wt_X0_checkUpTo : Cond.static yX0_checkUpTo ∈ tw_wall := tw_m 94 rfl rfl
set_option maxRecDepth 20000 in
theorem wy_X0_checkUpTo : Cond.code yX0_checkUpTo cX0_checkUpTo 2 none ∈ tw_wall := tw_m 95 rfl rfl
set_option maxRecDepth 20000 in
theorem wc_X0_79 : Cond.classLink RX0 79 "java/lang/IllegalArgumentException" ∈ tw_wall := tw_m 96 rfl rfl
set_option maxRecDepth 20000 in
theorem wa_byte : Cond.arrayClass .byte ∈ tw_wall := tw_m 162 rfl rfl
set_option maxRecDepth 20000 in
theorem wl_X0_63 : Cond.methodLink RX0 63 yX0_checkRoom ∈ tw_wall := tw_m 163 rfl rfl
set_option maxRecDepth 20000 in
theorem wn_X0_checkRoom : Cond.instanceMethod yX0_checkRoom ∈ tw_wall := tw_m 165 rfl rfl
set_option maxRecDepth 20000 in
theorem wy_X0_checkRoom : Cond.code yX0_checkRoom cX0_checkRoom 2 none ∈ tw_wall := tw_m 166 rfl rfl
set_option maxRecDepth 20000 in
theorem wc_X0_95 : Cond.classLink RX0 95 "java/lang/IllegalStateException" ∈ tw_wall := tw_m 167 rfl rfl
set_option maxRecDepth 20000 in
theorem wl_X0_66 : Cond.methodLink RX0 66 yX0_placeOf ∈ tw_wall := tw_m 183 rfl rfl
set_option maxRecDepth 20000 in
theorem wn_X0_placeOf : Cond.instanceMethod yX0_placeOf ∈ tw_wall := tw_m 185 rfl rfl
set_option maxRecDepth 20000 in
theorem wy_X0_placeOf : Cond.code yX0_placeOf cX0_placeOf 5 (some .int) ∈ tw_wall := tw_m 186 rfl rfl
set_option maxRecDepth 20000 in
theorem wl_X0_110 : Cond.methodLink RX0 110 yX0_isShown ∈ tw_wall := tw_m 187 rfl rfl
set_option maxRecDepth 20000 in
theorem wn_X0_isShown : Cond.instanceMethod yX0_isShown ∈ tw_wall := tw_m 189 rfl rfl
set_option maxRecDepth 20000 in
theorem wy_X0_isShown : Cond.code yX0_isShown cX0_isShown 3 (some .boolean) ∈ tw_wall := tw_m 190 rfl rfl
set_option maxRecDepth 20000 in
theorem wl_X0_70 : Cond.methodLink RX0 70 yX0_addChange ∈ tw_wall := tw_m 191 rfl rfl
set_option maxRecDepth 20000 in
theorem wn_X0_addChange : Cond.instanceMethod yX0_addChange ∈ tw_wall := tw_m 193 rfl rfl
set_option maxRecDepth 20000 in
theorem wy_X0_addChange : Cond.code yX0_addChange cX0_addChange 5 (some .int) ∈ tw_wall := tw_m 194 rfl rfl
set_option maxRecDepth 20000 in
theorem wl_X0_73 : Cond.methodLink RX0 73 yX0_weave ∈ tw_wall := tw_m 195 rfl rfl
set_option maxRecDepth 20000 in
theorem wn_X0_weave : Cond.instanceMethod yX0_weave ∈ tw_wall := tw_m 197 rfl rfl
set_option maxRecDepth 20000 in
theorem wy_X0_weave : Cond.code yX0_weave cX0_weave 4 none ∈ tw_wall := tw_m 198 rfl rfl
set_option maxRecDepth 20000 in
theorem wl_X0_113 : Cond.methodLink RX0 113 arraycopyName ∈ tw_wall := tw_m 199 rfl rfl
set_option maxRecDepth 20000 in
theorem wt_arraycopy : Cond.static arraycopyName ∈ tw_wall := tw_m 200 rfl rfl
set_option maxRecDepth 20000 in
theorem wv_arraycopy : Cond.native arraycopyName ∈ tw_wall := tw_m 201 rfl rfl
set_option maxRecDepth 20000 in
theorem wl_X0_76 : Cond.methodLink RX0 76 yX0_receive ∈ tw_wall := tw_m 202 rfl rfl
set_option maxRecDepth 20000 in
theorem wn_X0_receive : Cond.instanceMethod yX0_receive ∈ tw_wall := tw_m 204 rfl rfl
set_option maxRecDepth 20000 in
theorem wy_X0_receive : Cond.code yX0_receive cX0_receive 3 none ∈ tw_wall := tw_m 205 rfl rfl
set_option maxRecDepth 20000 in
theorem wl_X0_119 : Cond.methodLink RX0 119 yX0_showLetter ∈ tw_wall := tw_m 206 rfl rfl
set_option maxRecDepth 20000 in
theorem wn_X0_showLetter : Cond.instanceMethod yX0_showLetter ∈ tw_wall := tw_m 208 rfl rfl
set_option maxRecDepth 20000 in
theorem wy_X0_showLetter : Cond.code yX0_showLetter cX0_showLetter 3 none ∈ tw_wall := tw_m 209 rfl rfl
set_option maxRecDepth 20000 in
theorem wl_X0_125 : Cond.methodLink RX0 125 Lib.Math.max.name ∈ tw_wall := tw_m 210 rfl rfl
set_option maxRecDepth 20000 in
theorem wt_max : Cond.static Lib.Math.max.name ∈ tw_wall := tw_m 211 rfl rfl
set_option maxRecDepth 20000 in
theorem wy_max : Cond.code Lib.Math.max.name Lib.Math.max.code 2 (some .int) ∈ tw_wall := tw_m 212 rfl rfl
set_option maxRecDepth 20000 in
theorem wl_X0_122 : Cond.methodLink RX0 122 yX0_hideLetter ∈ tw_wall := tw_m 213 rfl rfl
set_option maxRecDepth 20000 in
theorem wn_X0_hideLetter : Cond.instanceMethod yX0_hideLetter ∈ tw_wall := tw_m 215 rfl rfl
set_option maxRecDepth 20000 in
theorem wy_X0_hideLetter : Cond.code yX0_hideLetter cX0_hideLetter 3 none ∈ tw_wall := tw_m 216 rfl rfl
set_option maxRecDepth 20000 in
theorem wl_L_55 : Cond.methodLink RL 55 yL_remove ∈ tw_wall := tw_m 217 rfl rfl
set_option maxRecDepth 20000 in
theorem wt_L_remove : Cond.static yL_remove ∈ tw_wall := tw_m 218 rfl rfl
set_option maxRecDepth 20000 in
theorem wy_L_remove : Cond.codeWith yL_remove cL_remove 5 (some .int) [(0, 10, 13, 13), (0, 10, 17, 15)] ∈ tw_wall := tw_m 219 rfl rfl
set_option maxRecDepth 20000 in
theorem wl_L_17 : Cond.methodLink RL 17 yX0_remove ∈ tw_wall := tw_m 220 rfl rfl
set_option maxRecDepth 20000 in
theorem wn_X0_remove : Cond.instanceMethod yX0_remove ∈ tw_wall := tw_m 221 rfl rfl
set_option maxRecDepth 20000 in
theorem ws_X0_remove : Cond.selects RX0 yX0_remove yX0_remove ∈ tw_wall := tw_m 222 rfl rfl
set_option maxRecDepth 20000 in
theorem wy_X0_remove : Cond.code yX0_remove cX0_remove 5 (some .int) ∈ tw_wall := tw_m 223 rfl rfl
set_option maxRecDepth 20000 in
theorem wl_L_59 : Cond.methodLink RL 59 yL_bring ∈ tw_wall := tw_m 225 rfl rfl
set_option maxRecDepth 20000 in
theorem wt_L_bring : Cond.static yL_bring ∈ tw_wall := tw_m 226 rfl rfl
set_option maxRecDepth 20000 in
theorem wy_L_bring : Cond.codeWith yL_bring cL_bring 5 (some .int) [(0, 7, 10, 13), (0, 7, 14, 15)] ∈ tw_wall := tw_m 227 rfl rfl
set_option maxRecDepth 20000 in
theorem wl_L_21 : Cond.methodLink RL 21 yX0_bring ∈ tw_wall := tw_m 228 rfl rfl
set_option maxRecDepth 20000 in
theorem wn_X0_bring : Cond.instanceMethod yX0_bring ∈ tw_wall := tw_m 229 rfl rfl
set_option maxRecDepth 20000 in
theorem ws_X0_bring : Cond.selects RX0 yX0_bring yX0_bring ∈ tw_wall := tw_m 230 rfl rfl
set_option maxRecDepth 20000 in
theorem wy_X0_bring : Cond.code yX0_bring cX0_bring 5 none ∈ tw_wall := tw_m 231 rfl rfl
set_option maxRecDepth 20000 in
theorem wl_X0_88 : Cond.methodLink RX0 88 yX0_isIn ∈ tw_wall := tw_m 233 rfl rfl
set_option maxRecDepth 20000 in
theorem wn_X0_isIn : Cond.instanceMethod yX0_isIn ∈ tw_wall := tw_m 235 rfl rfl
set_option maxRecDepth 20000 in
theorem wy_X0_isIn : Cond.code yX0_isIn cX0_isIn 3 (some .boolean) ∈ tw_wall := tw_m 236 rfl rfl
set_option maxRecDepth 20000 in
theorem wl_X0_92 : Cond.methodLink RX0 92 yX0_canCome ∈ tw_wall := tw_m 237 rfl rfl
set_option maxRecDepth 20000 in
theorem wn_X0_canCome : Cond.instanceMethod yX0_canCome ∈ tw_wall := tw_m 239 rfl rfl
set_option maxRecDepth 20000 in
theorem wy_X0_canCome : Cond.code yX0_canCome cX0_canCome 4 (some .boolean) ∈ tw_wall := tw_m 240 rfl rfl
set_option maxRecDepth 20000 in
theorem wl_L_63 : Cond.methodLink RL 63 yL_merge ∈ tw_wall := tw_m 242 rfl rfl
set_option maxRecDepth 20000 in
theorem wt_L_merge : Cond.static yL_merge ∈ tw_wall := tw_m 243 rfl rfl
set_option maxRecDepth 20000 in
theorem wy_L_merge : Cond.codeWith yL_merge cL_merge 5 (some .int) [(0, 10, 13, 13)] ∈ tw_wall := tw_m 244 rfl rfl
set_option maxRecDepth 20000 in
theorem wl_L_25 : Cond.methodLink RL 25 yX0_merge ∈ tw_wall := tw_m 245 rfl rfl
set_option maxRecDepth 20000 in
theorem wn_X0_merge : Cond.instanceMethod yX0_merge ∈ tw_wall := tw_m 246 rfl rfl
set_option maxRecDepth 20000 in
theorem ws_X0_merge : Cond.selects RX0 yX0_merge yX0_merge ∈ tw_wall := tw_m 247 rfl rfl
set_option maxRecDepth 20000 in
theorem wy_X0_merge : Cond.code yX0_merge cX0_merge 5 (some .int) ∈ tw_wall := tw_m 248 rfl rfl
set_option maxRecDepth 20000 in
theorem wl_L_66 : Cond.methodLink RL 66 yL_length ∈ tw_wall := tw_m 249 rfl rfl
set_option maxRecDepth 20000 in
theorem wt_L_length : Cond.static yL_length ∈ tw_wall := tw_m 250 rfl rfl
set_option maxRecDepth 20000 in
theorem wy_L_length : Cond.codeWith yL_length cL_length 4 (some .int) [(0, 9, 12, 13)] ∈ tw_wall := tw_m 251 rfl rfl
set_option maxRecDepth 20000 in
theorem wl_L_28 : Cond.methodLink RL 28 yX0_length ∈ tw_wall := tw_m 252 rfl rfl
set_option maxRecDepth 20000 in
theorem wn_X0_length : Cond.instanceMethod yX0_length ∈ tw_wall := tw_m 253 rfl rfl
set_option maxRecDepth 20000 in
theorem ws_X0_length : Cond.selects RX0 yX0_length yX0_length ∈ tw_wall := tw_m 254 rfl rfl
set_option maxRecDepth 20000 in
theorem wy_X0_length : Cond.code yX0_length cX0_length 2 (some .int) ∈ tw_wall := tw_m 255 rfl rfl
set_option maxRecDepth 20000 in
theorem wl_L_70 : Cond.methodLink RL 70 yL_letter ∈ tw_wall := tw_m 256 rfl rfl
set_option maxRecDepth 20000 in
theorem wt_L_letter : Cond.static yL_letter ∈ tw_wall := tw_m 257 rfl rfl
set_option maxRecDepth 20000 in
theorem wy_L_letter : Cond.codeWith yL_letter cL_letter 5 (some .int) [(0, 10, 13, 13)] ∈ tw_wall := tw_m 258 rfl rfl
set_option maxRecDepth 20000 in
theorem wl_L_32 : Cond.methodLink RL 32 yX0_letter ∈ tw_wall := tw_m 259 rfl rfl
set_option maxRecDepth 20000 in
theorem wn_X0_letter : Cond.instanceMethod yX0_letter ∈ tw_wall := tw_m 260 rfl rfl
set_option maxRecDepth 20000 in
theorem ws_X0_letter : Cond.selects RX0 yX0_letter yX0_letter ∈ tw_wall := tw_m 261 rfl rfl
set_option maxRecDepth 20000 in
theorem wy_X0_letter : Cond.code yX0_letter cX0_letter 4 (some .int) ∈ tw_wall := tw_m 262 rfl rfl
set_option maxRecDepth 20000 in
theorem wl_X0_100 : Cond.methodLink RX0 100 yX0_placeToRead ∈ tw_wall := tw_m 263 rfl rfl
set_option maxRecDepth 20000 in
theorem wn_X0_placeToRead : Cond.instanceMethod yX0_placeToRead ∈ tw_wall := tw_m 265 rfl rfl
set_option maxRecDepth 20000 in
theorem wy_X0_placeToRead : Cond.code yX0_placeToRead cX0_placeToRead 3 (some .int) ∈ tw_wall := tw_m 266 rfl rfl
set_option maxRecDepth 20000 in
theorem wo_109 : Cond.constant RX0 109 2147483647 ∈ tw_wall := tw_m 267 rfl rfl
set_option maxRecDepth 20000 in
theorem wl_L_73 : Cond.methodLink RL 73 yL_name ∈ tw_wall := tw_m 268 rfl rfl
set_option maxRecDepth 20000 in
theorem wt_L_name : Cond.static yL_name ∈ tw_wall := tw_m 269 rfl rfl
set_option maxRecDepth 20000 in
theorem wy_L_name : Cond.codeWith yL_name cL_name 5 (some .int) [(0, 10, 13, 13)] ∈ tw_wall := tw_m 270 rfl rfl
set_option maxRecDepth 20000 in
theorem wl_L_35 : Cond.methodLink RL 35 yX0_name ∈ tw_wall := tw_m 271 rfl rfl
set_option maxRecDepth 20000 in
theorem wn_X0_name : Cond.instanceMethod yX0_name ∈ tw_wall := tw_m 272 rfl rfl
set_option maxRecDepth 20000 in
theorem ws_X0_name : Cond.selects RX0 yX0_name yX0_name ∈ tw_wall := tw_m 273 rfl rfl
set_option maxRecDepth 20000 in
theorem wy_X0_name : Cond.code yX0_name cX0_name 4 (some .int) ∈ tw_wall := tw_m 274 rfl rfl
set_option maxRecDepth 20000 in
theorem wl_L_76 : Cond.methodLink RL 76 yL_has ∈ tw_wall := tw_m 275 rfl rfl
set_option maxRecDepth 20000 in
theorem wt_L_has : Cond.static yL_has ∈ tw_wall := tw_m 276 rfl rfl
set_option maxRecDepth 20000 in
theorem wy_L_has : Cond.codeWith yL_has cL_has 5 (some .int) [(0, 10, 13, 13)] ∈ tw_wall := tw_m 277 rfl rfl
set_option maxRecDepth 20000 in
theorem wl_L_38 : Cond.methodLink RL 38 yX0_has ∈ tw_wall := tw_m 278 rfl rfl
set_option maxRecDepth 20000 in
theorem wn_X0_has : Cond.instanceMethod yX0_has ∈ tw_wall := tw_m 279 rfl rfl
set_option maxRecDepth 20000 in
theorem ws_X0_has : Cond.selects RX0 yX0_has yX0_has ∈ tw_wall := tw_m 280 rfl rfl
set_option maxRecDepth 20000 in
theorem wy_X0_has : Cond.code yX0_has cX0_has 3 (some .int) ∈ tw_wall := tw_m 281 rfl rfl
set_option maxRecDepth 20000 in
theorem wc_L_42 : Cond.classLink RL 42 RX1 ∈ tw_wall := tw_m 282 rfl rfl
set_option maxRecDepth 20000 in
theorem wk_X1 : Cond.instantiable RX1 17 ∈ tw_wall := tw_m 283 rfl rfl
set_option maxRecDepth 20000 in
theorem wl_L_44 : Cond.methodLink RL 44 yX1_init ∈ tw_wall := tw_m 284 rfl rfl
set_option maxRecDepth 20000 in
theorem wn_X1_init : Cond.instanceMethod yX1_init ∈ tw_wall := tw_m 285 rfl rfl
set_option maxRecDepth 20000 in
theorem wy_X1_init : Cond.code yX1_init cX1_init 1 none ∈ tw_wall := tw_m 286 rfl rfl
set_option maxRecDepth 20000 in
theorem wl_X1_3 : Cond.methodLink RX1 3 objectInit ∈ tw_wall := tw_m 287 rfl rfl
set_option maxRecDepth 20000 in
theorem wf_X1_thrown : Cond.fieldLink RX1 57 "LetterWeaveModel" "thrown" "I" ∈ tw_wall := tw_m 288 rfl rfl
set_option maxRecDepth 20000 in
theorem wf_X1_number : Cond.fieldLink RX1 9 "LetterWeaveModel" "number" "[I" ∈ tw_wall := tw_m 289 rfl rfl
set_option maxRecDepth 20000 in
theorem wf_X1_maker : Cond.fieldLink RX1 13 "LetterWeaveModel" "maker" "[I" ∈ tw_wall := tw_m 290 rfl rfl
set_option maxRecDepth 20000 in
theorem wf_X1_change : Cond.fieldLink RX1 16 "LetterWeaveModel" "change" "[I" ∈ tw_wall := tw_m 291 rfl rfl
set_option maxRecDepth 20000 in
theorem wf_X1_value : Cond.fieldLink RX1 19 "LetterWeaveModel" "value" "[I" ∈ tw_wall := tw_m 292 rfl rfl
set_option maxRecDepth 20000 in
theorem wf_X1_first : Cond.fieldLink RX1 22 "LetterWeaveModel" "first" "[I" ∈ tw_wall := tw_m 293 rfl rfl
set_option maxRecDepth 20000 in
theorem wf_X1_sibling : Cond.fieldLink RX1 25 "LetterWeaveModel" "sibling" "[I" ∈ tw_wall := tw_m 294 rfl rfl
set_option maxRecDepth 20000 in
theorem wf_X1_up : Cond.fieldLink RX1 28 "LetterWeaveModel" "up" "[I" ∈ tw_wall := tw_m 295 rfl rfl
set_option maxRecDepth 20000 in
theorem wf_X1_letters : Cond.fieldLink RX1 31 "LetterWeaveModel" "letters" "I" ∈ tw_wall := tw_m 296 rfl rfl
set_option maxRecDepth 20000 in
theorem wf_X1_what : Cond.fieldLink RX1 35 "LetterWeaveModel" "what" "[I" ∈ tw_wall := tw_m 297 rfl rfl
set_option maxRecDepth 20000 in
theorem wf_X1_had : Cond.fieldLink RX1 38 "LetterWeaveModel" "had" "[I" ∈ tw_wall := tw_m 298 rfl rfl
set_option maxRecDepth 20000 in
theorem wf_X1_made : Cond.fieldLink RX1 41 "LetterWeaveModel" "made" "[I" ∈ tw_wall := tw_m 299 rfl rfl
set_option maxRecDepth 20000 in
theorem wf_X1_has : Cond.fieldLink RX1 44 "LetterWeaveModel" "has" "[I" ∈ tw_wall := tw_m 300 rfl rfl
set_option maxRecDepth 20000 in
theorem wf_X1_order : Cond.fieldLink RX1 47 "LetterWeaveModel" "order" "[I" ∈ tw_wall := tw_m 301 rfl rfl
set_option maxRecDepth 20000 in
theorem wf_X1_gone : Cond.fieldLink RX1 50 "LetterWeaveModel" "gone" "[Z" ∈ tw_wall := tw_m 302 rfl rfl
set_option maxRecDepth 20000 in
theorem wf_X1_orderOf : Cond.fieldLink RX1 54 "LetterWeaveModel" "orderOf" "I" ∈ tw_wall := tw_m 303 rfl rfl
set_option maxRecDepth 20000 in
theorem wf_X1_long_ : Cond.fieldLink RX1 60 "LetterWeaveModel" "long_" "I" ∈ tw_wall := tw_m 304 rfl rfl
set_option maxRecDepth 20000 in
theorem wa_boolean : Cond.arrayClass .boolean ∈ tw_wall := tw_m 340 rfl rfl
set_option maxRecDepth 20000 in
theorem wl_L_51 : Cond.methodLink RL 51 yX1_thrown ∈ tw_wall := tw_m 341 rfl rfl
set_option maxRecDepth 20000 in
theorem wn_X1_thrown : Cond.instanceMethod yX1_thrown ∈ tw_wall := tw_m 342 rfl rfl
set_option maxRecDepth 20000 in
theorem ws_X1_thrown : Cond.selects RX1 yX1_thrown yX1_thrown ∈ tw_wall := tw_m 343 rfl rfl
set_option maxRecDepth 20000 in
theorem wy_X1_thrown : Cond.code yX1_thrown cX1_thrown 1 (some .int) ∈ tw_wall := tw_m 344 rfl rfl
set_option maxRecDepth 20000 in
theorem wl_L_50 : Cond.methodLink RL 50 yX1_insert ∈ tw_wall := tw_m 345 rfl rfl
set_option maxRecDepth 20000 in
theorem wn_X1_insert : Cond.instanceMethod yX1_insert ∈ tw_wall := tw_m 346 rfl rfl
set_option maxRecDepth 20000 in
theorem ws_X1_insert : Cond.selects RX1 yX1_insert yX1_insert ∈ tw_wall := tw_m 347 rfl rfl
set_option maxRecDepth 20000 in
theorem wy_X1_insert : Cond.code yX1_insert cX1_insert 9 (some .int) ∈ tw_wall := tw_m 348 rfl rfl
set_option maxRecDepth 20000 in
theorem wl_X1_67 : Cond.methodLink RX1 67 yX1_isCopy ∈ tw_wall := tw_m 349 rfl rfl
set_option maxRecDepth 20000 in
theorem wt_X1_isCopy : Cond.static yX1_isCopy ∈ tw_wall := tw_m 350 rfl rfl
set_option maxRecDepth 20000 in
theorem wy_X1_isCopy : Cond.code yX1_isCopy cX1_isCopy 1 (some .boolean) ∈ tw_wall := tw_m 351 rfl rfl
set_option maxRecDepth 20000 in
theorem wl_X1_71 : Cond.methodLink RX1 71 yX1_bad ∈ tw_wall := tw_m 352 rfl rfl
set_option maxRecDepth 20000 in
theorem wn_X1_bad : Cond.instanceMethod yX1_bad ∈ tw_wall := tw_m 354 rfl rfl
set_option maxRecDepth 20000 in
theorem wy_X1_bad : Cond.code yX1_bad cX1_bad 2 (some .boolean) ∈ tw_wall := tw_m 355 rfl rfl
set_option maxRecDepth 20000 in
theorem wl_X1_75 : Cond.methodLink RX1 75 yX1_look ∈ tw_wall := tw_m 356 rfl rfl
set_option maxRecDepth 20000 in
theorem wn_X1_look : Cond.instanceMethod yX1_look ∈ tw_wall := tw_m 358 rfl rfl
set_option maxRecDepth 20000 in
theorem wy_X1_look : Cond.code yX1_look cX1_look 5 none ∈ tw_wall := tw_m 359 rfl rfl
set_option maxRecDepth 20000 in
theorem wl_X1_63 : Cond.methodLink RX1 63 yX1_isIn ∈ tw_wall := tw_m 360 rfl rfl
set_option maxRecDepth 20000 in
theorem wn_X1_isIn : Cond.instanceMethod yX1_isIn ∈ tw_wall := tw_m 362 rfl rfl
set_option maxRecDepth 20000 in
theorem wy_X1_isIn : Cond.code yX1_isIn cX1_isIn 3 (some .boolean) ∈ tw_wall := tw_m 363 rfl rfl
set_option maxRecDepth 20000 in
theorem wl_X1_79 : Cond.methodLink RX1 79 yX1_isBefore ∈ tw_wall := tw_m 364 rfl rfl
set_option maxRecDepth 20000 in
theorem wn_X1_isBefore : Cond.instanceMethod yX1_isBefore ∈ tw_wall := tw_m 366 rfl rfl
set_option maxRecDepth 20000 in
theorem wy_X1_isBefore : Cond.code yX1_isBefore cX1_isBefore 3 (some .boolean) ∈ tw_wall := tw_m 367 rfl rfl
set_option maxRecDepth 20000 in
theorem wl_X1_82 : Cond.methodLink RX1 82 yX1_done ∈ tw_wall := tw_m 368 rfl rfl
set_option maxRecDepth 20000 in
theorem wn_X1_done : Cond.instanceMethod yX1_done ∈ tw_wall := tw_m 370 rfl rfl
set_option maxRecDepth 20000 in
theorem wy_X1_done : Cond.code yX1_done cX1_done 5 (some .int) ∈ tw_wall := tw_m 371 rfl rfl
set_option maxRecDepth 20000 in
theorem wl_L_58 : Cond.methodLink RL 58 yX1_remove ∈ tw_wall := tw_m 372 rfl rfl
set_option maxRecDepth 20000 in
theorem wn_X1_remove : Cond.instanceMethod yX1_remove ∈ tw_wall := tw_m 373 rfl rfl
set_option maxRecDepth 20000 in
theorem ws_X1_remove : Cond.selects RX1 yX1_remove yX1_remove ∈ tw_wall := tw_m 374 rfl rfl
set_option maxRecDepth 20000 in
theorem wy_X1_remove : Cond.code yX1_remove cX1_remove 3 (some .int) ∈ tw_wall := tw_m 375 rfl rfl
set_option maxRecDepth 20000 in
theorem wl_L_62 : Cond.methodLink RL 62 yX1_bring ∈ tw_wall := tw_m 376 rfl rfl
set_option maxRecDepth 20000 in
theorem wn_X1_bring : Cond.instanceMethod yX1_bring ∈ tw_wall := tw_m 377 rfl rfl
set_option maxRecDepth 20000 in
theorem ws_X1_bring : Cond.selects RX1 yX1_bring yX1_bring ∈ tw_wall := tw_m 378 rfl rfl
set_option maxRecDepth 20000 in
theorem wy_X1_bring : Cond.code yX1_bring cX1_bring 5 none ∈ tw_wall := tw_m 379 rfl rfl
set_option maxRecDepth 20000 in
theorem wl_L_65 : Cond.methodLink RL 65 yX1_merge ∈ tw_wall := tw_m 380 rfl rfl
set_option maxRecDepth 20000 in
theorem wn_X1_merge : Cond.instanceMethod yX1_merge ∈ tw_wall := tw_m 381 rfl rfl
set_option maxRecDepth 20000 in
theorem ws_X1_merge : Cond.selects RX1 yX1_merge yX1_merge ∈ tw_wall := tw_m 382 rfl rfl
set_option maxRecDepth 20000 in
theorem wy_X1_merge : Cond.code yX1_merge cX1_merge 6 (some .int) ∈ tw_wall := tw_m 383 rfl rfl
set_option maxRecDepth 20000 in
theorem wl_L_69 : Cond.methodLink RL 69 yX1_length ∈ tw_wall := tw_m 384 rfl rfl
set_option maxRecDepth 20000 in
theorem wn_X1_length : Cond.instanceMethod yX1_length ∈ tw_wall := tw_m 385 rfl rfl
set_option maxRecDepth 20000 in
theorem ws_X1_length : Cond.selects RX1 yX1_length yX1_length ∈ tw_wall := tw_m 386 rfl rfl
set_option maxRecDepth 20000 in
theorem wy_X1_length : Cond.code yX1_length cX1_length 2 (some .int) ∈ tw_wall := tw_m 387 rfl rfl
set_option maxRecDepth 20000 in
theorem wl_L_72 : Cond.methodLink RL 72 yX1_letter ∈ tw_wall := tw_m 388 rfl rfl
set_option maxRecDepth 20000 in
theorem wn_X1_letter : Cond.instanceMethod yX1_letter ∈ tw_wall := tw_m 389 rfl rfl
set_option maxRecDepth 20000 in
theorem ws_X1_letter : Cond.selects RX1 yX1_letter yX1_letter ∈ tw_wall := tw_m 390 rfl rfl
set_option maxRecDepth 20000 in
theorem wy_X1_letter : Cond.code yX1_letter cX1_letter 3 (some .int) ∈ tw_wall := tw_m 391 rfl rfl
set_option maxRecDepth 20000 in
theorem wl_L_75 : Cond.methodLink RL 75 yX1_name ∈ tw_wall := tw_m 392 rfl rfl
set_option maxRecDepth 20000 in
theorem wn_X1_name : Cond.instanceMethod yX1_name ∈ tw_wall := tw_m 393 rfl rfl
set_option maxRecDepth 20000 in
theorem ws_X1_name : Cond.selects RX1 yX1_name yX1_name ∈ tw_wall := tw_m 394 rfl rfl
set_option maxRecDepth 20000 in
theorem wy_X1_name : Cond.code yX1_name cX1_name 3 (some .int) ∈ tw_wall := tw_m 395 rfl rfl
set_option maxRecDepth 20000 in
theorem wl_L_78 : Cond.methodLink RL 78 yX1_has ∈ tw_wall := tw_m 396 rfl rfl
set_option maxRecDepth 20000 in
theorem wn_X1_has : Cond.instanceMethod yX1_has ∈ tw_wall := tw_m 397 rfl rfl
set_option maxRecDepth 20000 in
theorem ws_X1_has : Cond.selects RX1 yX1_has yX1_has ∈ tw_wall := tw_m 398 rfl rfl
set_option maxRecDepth 20000 in
theorem wy_X1_has : Cond.code yX1_has cX1_has 3 (some .int) ∈ tw_wall := tw_m 399 rfl rfl
set_option maxRecDepth 20000 in
theorem wa_long : Cond.arrayClass .long ∈ tw_wall := tw_m 400 rfl rfl
set_option maxRecDepth 20000 in
theorem ws_X0_checkRoom : Cond.selects RX0 yX0_checkRoom yX0_checkRoom ∈ tw_wall := tw_m 1 rfl rfl
set_option maxRecDepth 20000 in
theorem ws_X0_placeOf : Cond.selects RX0 yX0_placeOf yX0_placeOf ∈ tw_wall := tw_m 2 rfl rfl
set_option maxRecDepth 20000 in
theorem ws_X0_isShown : Cond.selects RX0 yX0_isShown yX0_isShown ∈ tw_wall := tw_m 3 rfl rfl
set_option maxRecDepth 20000 in
theorem ws_X0_addChange : Cond.selects RX0 yX0_addChange yX0_addChange ∈ tw_wall := tw_m 4 rfl rfl
set_option maxRecDepth 20000 in
theorem ws_X0_weave : Cond.selects RX0 yX0_weave yX0_weave ∈ tw_wall := tw_m 5 rfl rfl
set_option maxRecDepth 20000 in
theorem ws_X0_receive : Cond.selects RX0 yX0_receive yX0_receive ∈ tw_wall := tw_m 6 rfl rfl
set_option maxRecDepth 20000 in
theorem ws_X0_showLetter : Cond.selects RX0 yX0_showLetter yX0_showLetter ∈ tw_wall := tw_m 7 rfl rfl
set_option maxRecDepth 20000 in
theorem ws_X0_hideLetter : Cond.selects RX0 yX0_hideLetter yX0_hideLetter ∈ tw_wall := tw_m 8 rfl rfl
set_option maxRecDepth 20000 in
theorem ws_X0_isIn : Cond.selects RX0 yX0_isIn yX0_isIn ∈ tw_wall := tw_m 9 rfl rfl
set_option maxRecDepth 20000 in
theorem ws_X0_canCome : Cond.selects RX0 yX0_canCome yX0_canCome ∈ tw_wall := tw_m 10 rfl rfl
set_option maxRecDepth 20000 in
theorem ws_X0_placeToRead : Cond.selects RX0 yX0_placeToRead yX0_placeToRead ∈ tw_wall := tw_m 11 rfl rfl
set_option maxRecDepth 20000 in
theorem ws_X1_bad : Cond.selects RX1 yX1_bad yX1_bad ∈ tw_wall := tw_m 12 rfl rfl
set_option maxRecDepth 20000 in
theorem ws_X1_look : Cond.selects RX1 yX1_look yX1_look ∈ tw_wall := tw_m 13 rfl rfl
set_option maxRecDepth 20000 in
theorem ws_X1_isIn : Cond.selects RX1 yX1_isIn yX1_isIn ∈ tw_wall := tw_m 14 rfl rfl
set_option maxRecDepth 20000 in
theorem ws_X1_isBefore : Cond.selects RX1 yX1_isBefore yX1_isBefore ∈ tw_wall := tw_m 15 rfl rfl
set_option maxRecDepth 20000 in
theorem ws_X1_done : Cond.selects RX1 yX1_done yX1_done ∈ tw_wall := tw_m 16 rfl rfl
set_option maxRecDepth 20000 in
theorem inX0 : ∀ w ∈ u_ws RX0 TX0 14, w ∈ tw_wall := fun w h => by
  have h2 : u_ws RX0 TX0 14 = [51, 53, 55, 57, 59, 61, 63, 65, 67, 69, 71, 73, 75, 77].filterMap (fun i => lw_tbl[i]?) := rfl
  have h1 : goodWord w = true := List.all_eq_true.mp (show (u_ws RX0 TX0 14).all goodWord = true from rfl) w h
  rw [h2] at h
  obtain ⟨i, -, hi⟩ := List.mem_filterMap.mp h
  exact tw_m i hi h1
set_option maxRecDepth 20000 in
theorem inX1 : ∀ w ∈ u_ws RX1 TX1 17, w ∈ tw_wall := fun w h => by
  have h2 : u_ws RX1 TX1 17 = [305, 307, 309, 311, 313, 315, 317, 319, 321, 323, 325, 327, 329, 331, 333, 335, 337].filterMap (fun i => lw_tbl[i]?) := rfl
  have h1 : goodWord w = true := List.all_eq_true.mp (show (u_ws RX1 TX1 17).all goodWord = true from rfl) w h
  rw [h2] at h
  obtain ⟨i, -, hi⟩ := List.mem_filterMap.mp h
  exact tw_m i hi h1
def wsX0_init : List Cond := Cond.code yX0_init cX0_init 1 none :: tw_wall
def wsL_insert : List Cond := Cond.codeWith yL_insert cL_insert 6 (some .int) [(0, 12, 15, 13), (0, 12, 19, 15)] :: tw_wall
def wsX0_insert : List Cond := Cond.code yX0_insert cX0_insert 6 (some .int) :: tw_wall
def wsX0_checkCopy : List Cond := Cond.code yX0_checkCopy cX0_checkCopy 1 none :: tw_wall
def wsX0_checkUpTo : List Cond := Cond.code yX0_checkUpTo cX0_checkUpTo 2 none :: tw_wall
def wsX0_checkRoom : List Cond := Cond.code yX0_checkRoom cX0_checkRoom 2 none :: tw_wall
def wsX0_placeOf : List Cond := Cond.code yX0_placeOf cX0_placeOf 5 (some .int) :: tw_wall
def wsX0_isShown : List Cond := Cond.code yX0_isShown cX0_isShown 3 (some .boolean) :: tw_wall
def wsX0_addChange : List Cond := Cond.code yX0_addChange cX0_addChange 5 (some .int) :: tw_wall
def wsX0_weave : List Cond := Cond.code yX0_weave cX0_weave 4 none :: tw_wall
def wsX0_receive : List Cond := Cond.code yX0_receive cX0_receive 3 none :: tw_wall
def wsX0_showLetter : List Cond := Cond.code yX0_showLetter cX0_showLetter 3 none :: tw_wall
def wsX0_hideLetter : List Cond := Cond.code yX0_hideLetter cX0_hideLetter 3 none :: tw_wall
def wsL_remove : List Cond := Cond.codeWith yL_remove cL_remove 5 (some .int) [(0, 10, 13, 13), (0, 10, 17, 15)] :: tw_wall
def wsX0_remove : List Cond := Cond.code yX0_remove cX0_remove 5 (some .int) :: tw_wall
def wsL_bring : List Cond := Cond.codeWith yL_bring cL_bring 5 (some .int) [(0, 7, 10, 13), (0, 7, 14, 15)] :: tw_wall
def wsX0_bring : List Cond := Cond.code yX0_bring cX0_bring 5 none :: tw_wall
def wsX0_isIn : List Cond := Cond.code yX0_isIn cX0_isIn 3 (some .boolean) :: tw_wall
def wsX0_canCome : List Cond := Cond.code yX0_canCome cX0_canCome 4 (some .boolean) :: tw_wall
def wsL_merge : List Cond := Cond.codeWith yL_merge cL_merge 5 (some .int) [(0, 10, 13, 13)] :: tw_wall
def wsX0_merge : List Cond := Cond.code yX0_merge cX0_merge 5 (some .int) :: tw_wall
def wsL_length : List Cond := Cond.codeWith yL_length cL_length 4 (some .int) [(0, 9, 12, 13)] :: tw_wall
def wsX0_length : List Cond := Cond.code yX0_length cX0_length 2 (some .int) :: tw_wall
def wsL_letter : List Cond := Cond.codeWith yL_letter cL_letter 5 (some .int) [(0, 10, 13, 13)] :: tw_wall
def wsX0_letter : List Cond := Cond.code yX0_letter cX0_letter 4 (some .int) :: tw_wall
def wsX0_placeToRead : List Cond := Cond.code yX0_placeToRead cX0_placeToRead 3 (some .int) :: tw_wall
def wsL_name : List Cond := Cond.codeWith yL_name cL_name 5 (some .int) [(0, 10, 13, 13)] :: tw_wall
def wsX0_name : List Cond := Cond.code yX0_name cX0_name 4 (some .int) :: tw_wall
def wsL_has : List Cond := Cond.codeWith yL_has cL_has 5 (some .int) [(0, 10, 13, 13)] :: tw_wall
def wsX0_has : List Cond := Cond.code yX0_has cX0_has 3 (some .int) :: tw_wall
def wsX1_init : List Cond := Cond.code yX1_init cX1_init 1 none :: tw_wall
def wsX1_thrown : List Cond := Cond.code yX1_thrown cX1_thrown 1 (some .int) :: tw_wall
def wsX1_insert : List Cond := Cond.code yX1_insert cX1_insert 9 (some .int) :: tw_wall
def wsX1_isCopy : List Cond := Cond.code yX1_isCopy cX1_isCopy 1 (some .boolean) :: tw_wall
def wsX1_bad : List Cond := Cond.code yX1_bad cX1_bad 2 (some .boolean) :: tw_wall
def wsX1_look : List Cond := Cond.code yX1_look cX1_look 5 none :: tw_wall
def wsX1_isIn : List Cond := Cond.code yX1_isIn cX1_isIn 3 (some .boolean) :: tw_wall
def wsX1_isBefore : List Cond := Cond.code yX1_isBefore cX1_isBefore 3 (some .boolean) :: tw_wall
def wsX1_done : List Cond := Cond.code yX1_done cX1_done 5 (some .int) :: tw_wall
def wsX1_remove : List Cond := Cond.code yX1_remove cX1_remove 3 (some .int) :: tw_wall
def wsX1_bring : List Cond := Cond.code yX1_bring cX1_bring 5 none :: tw_wall
def wsX1_merge : List Cond := Cond.code yX1_merge cX1_merge 6 (some .int) :: tw_wall
def wsX1_length : List Cond := Cond.code yX1_length cX1_length 2 (some .int) :: tw_wall
def wsX1_letter : List Cond := Cond.code yX1_letter cX1_letter 3 (some .int) :: tw_wall
def wsX1_name : List Cond := Cond.code yX1_name cX1_name 3 (some .int) :: tw_wall
def wsX1_has : List Cond := Cond.code yX1_has cX1_has 3 (some .int) :: tw_wall
theorem tw_gV {own C : String} {idx : Nat} {y : MethodName} {cw : Cond} (h1 : Cond.methodLink own idx y ∈ tw_wall) (h2 : Cond.instanceMethod y ∈ tw_wall) (h3 : Cond.selects C y y ∈ tw_wall) (h4 : Cond.initialized C ∈ tw_wall) (h5 : cw ∈ tw_wall) : GoodIn tw_wall (wsV own idx C y (cw :: tw_wall)) := by
  intro w hw
  have : w ∈ tw_wall := by
    simp only [wsV, List.mem_append, List.mem_cons, List.not_mem_nil, or_false] at hw
    rcases hw with (rfl | rfl | rfl | rfl) | rfl | hw
    · exact h1
    · exact h2
    · exact h3
    · exact h4
    · exact h5
    · exact hw
  exact ⟨this, good_of_word (List.mem_filter.mp this).2⟩
theorem tw_gS {own : String} {idx : Nat} {y : MethodName} {cw : Cond} (h1 : Cond.methodLink own idx y ∈ tw_wall) (h2 : Cond.static y ∈ tw_wall) (h4 : Cond.initialized y.cls ∈ tw_wall) (h5 : cw ∈ tw_wall) : GoodIn tw_wall (va_wsS own idx y (cw :: tw_wall)) := by
  intro w hw
  have : w ∈ tw_wall := by
    simp only [va_wsS, List.mem_append, List.mem_cons, List.not_mem_nil, or_false] at hw
    rcases hw with (rfl | rfl | rfl) | rfl | hw
    · exact h1
    · exact h2
    · exact h4
    · exact h5
    · exact hw
  exact ⟨this, good_of_word (List.mem_filter.mp this).2⟩
theorem tw_gI {cw : Cond} (h5 : cw ∈ tw_wall) : GoodIn tw_wall (cw :: tw_wall) := by
  intro w hw
  have : w ∈ tw_wall := by
    rcases List.mem_cons.mp hw with rfl | hw
    · exact h5
    · exact hw
  exact ⟨this, good_of_word (List.mem_filter.mp this).2⟩
end
section
theorem dX0_init_0 : decode cX0_init 0 = .ok (.aload_n 0, 1) := by decide +kernel
theorem dX0_init_1 : decode cX0_init 1 = .ok (.invokespecial 1, 3) := by decide +kernel
theorem dX0_init_4 : decode cX0_init 4 = .ok (.aload_n 0, 1) := by decide +kernel
theorem dX0_init_5 : decode cX0_init 5 = .ok (.sipush 512, 3) := by decide +kernel
theorem dX0_init_8 : decode cX0_init 8 = .ok (.newarray .int, 2) := by decide +kernel
theorem dX0_init_10 : decode cX0_init 10 = .ok (.putfield 9, 3) := by decide +kernel
theorem dX0_init_13 : decode cX0_init 13 = .ok (.aload_n 0, 1) := by decide +kernel
theorem dX0_init_14 : decode cX0_init 14 = .ok (.sipush 512, 3) := by decide +kernel
theorem dX0_init_17 : decode cX0_init 17 = .ok (.newarray .int, 2) := by decide +kernel
theorem dX0_init_19 : decode cX0_init 19 = .ok (.putfield 13, 3) := by decide +kernel
theorem dX0_init_22 : decode cX0_init 22 = .ok (.aload_n 0, 1) := by decide +kernel
theorem dX0_init_23 : decode cX0_init 23 = .ok (.sipush 512, 3) := by decide +kernel
theorem dX0_init_26 : decode cX0_init 26 = .ok (.newarray .int, 2) := by decide +kernel
theorem dX0_init_28 : decode cX0_init 28 = .ok (.putfield 16, 3) := by decide +kernel
theorem dX0_init_31 : decode cX0_init 31 = .ok (.aload_n 0, 1) := by decide +kernel
theorem dX0_init_32 : decode cX0_init 32 = .ok (.iconst 4, 1) := by decide +kernel
theorem dX0_init_33 : decode cX0_init 33 = .ok (.sipush 512, 3) := by decide +kernel
theorem dX0_init_36 : decode cX0_init 36 = .ok (.multianewarray 19 2, 4) := by decide +kernel
theorem dX0_init_40 : decode cX0_init 40 = .ok (.putfield 21, 3) := by decide +kernel
theorem dX0_init_43 : decode cX0_init 43 = .ok (.aload_n 0, 1) := by decide +kernel
theorem dX0_init_44 : decode cX0_init 44 = .ok (.iconst 0, 1) := by decide +kernel
theorem dX0_init_45 : decode cX0_init 45 = .ok (.putfield 24, 3) := by decide +kernel
theorem dX0_init_48 : decode cX0_init 48 = .ok (.aload_n 0, 1) := by decide +kernel
theorem dX0_init_49 : decode cX0_init 49 = .ok (.sipush 512, 3) := by decide +kernel
theorem dX0_init_52 : decode cX0_init 52 = .ok (.newarray .int, 2) := by decide +kernel
theorem dX0_init_54 : decode cX0_init 54 = .ok (.putfield 28, 3) := by decide +kernel
theorem dX0_init_57 : decode cX0_init 57 = .ok (.aload_n 0, 1) := by decide +kernel
theorem dX0_init_58 : decode cX0_init 58 = .ok (.sipush 512, 3) := by decide +kernel
theorem dX0_init_61 : decode cX0_init 61 = .ok (.newarray .int, 2) := by decide +kernel
theorem dX0_init_63 : decode cX0_init 63 = .ok (.putfield 31, 3) := by decide +kernel
theorem dX0_init_66 : decode cX0_init 66 = .ok (.aload_n 0, 1) := by decide +kernel
theorem dX0_init_67 : decode cX0_init 67 = .ok (.sipush 512, 3) := by decide +kernel
theorem dX0_init_70 : decode cX0_init 70 = .ok (.newarray .int, 2) := by decide +kernel
theorem dX0_init_72 : decode cX0_init 72 = .ok (.putfield 34, 3) := by decide +kernel
theorem dX0_init_75 : decode cX0_init 75 = .ok (.aload_n 0, 1) := by decide +kernel
theorem dX0_init_76 : decode cX0_init 76 = .ok (.sipush 512, 3) := by decide +kernel
theorem dX0_init_79 : decode cX0_init 79 = .ok (.newarray .int, 2) := by decide +kernel
theorem dX0_init_81 : decode cX0_init 81 = .ok (.putfield 37, 3) := by decide +kernel
theorem dX0_init_84 : decode cX0_init 84 = .ok (.aload_n 0, 1) := by decide +kernel
theorem dX0_init_85 : decode cX0_init 85 = .ok (.iconst 0, 1) := by decide +kernel
theorem dX0_init_86 : decode cX0_init 86 = .ok (.putfield 40, 3) := by decide +kernel
theorem dX0_init_89 : decode cX0_init 89 = .ok (.aload_n 0, 1) := by decide +kernel
theorem dX0_init_90 : decode cX0_init 90 = .ok (.iconst 4, 1) := by decide +kernel
theorem dX0_init_91 : decode cX0_init 91 = .ok (.sipush 400, 3) := by decide +kernel
theorem dX0_init_94 : decode cX0_init 94 = .ok (.multianewarray 19 2, 4) := by decide +kernel
theorem dX0_init_98 : decode cX0_init 98 = .ok (.putfield 43, 3) := by decide +kernel
theorem dX0_init_101 : decode cX0_init 101 = .ok (.aload_n 0, 1) := by decide +kernel
theorem dX0_init_102 : decode cX0_init 102 = .ok (.iconst 4, 1) := by decide +kernel
theorem dX0_init_103 : decode cX0_init 103 = .ok (.iconst 4, 1) := by decide +kernel
theorem dX0_init_104 : decode cX0_init 104 = .ok (.multianewarray 19 2, 4) := by decide +kernel
theorem dX0_init_108 : decode cX0_init 108 = .ok (.putfield 46, 3) := by decide +kernel
theorem dX0_init_111 : decode cX0_init 111 = .ok (.aload_n 0, 1) := by decide +kernel
theorem dX0_init_112 : decode cX0_init 112 = .ok (.iconst 4, 1) := by decide +kernel
theorem dX0_init_113 : decode cX0_init 113 = .ok (.newarray .int, 2) := by decide +kernel
theorem dX0_init_115 : decode cX0_init 115 = .ok (.putfield 49, 3) := by decide +kernel
theorem dX0_init_118 : decode cX0_init 118 = .ok (.aload_n 0, 1) := by decide +kernel
theorem dX0_init_119 : decode cX0_init 119 = .ok (.iconst 4, 1) := by decide +kernel
theorem dX0_init_120 : decode cX0_init 120 = .ok (.newarray .int, 2) := by decide +kernel
theorem dX0_init_122 : decode cX0_init 122 = .ok (.putfield 52, 3) := by decide +kernel
theorem dX0_init_125 : decode cX0_init 125 = .ok (.return_, 1) := by decide +kernel
theorem dX0_insert_0 : decode cX0_insert 0 = .ok (.iload_n 1, 1) := by decide +kernel
theorem dX0_insert_1 : decode cX0_insert 1 = .ok (.invokestatic 55, 3) := by decide +kernel
theorem dX0_insert_4 : decode cX0_insert 4 = .ok (.iload_n 2, 1) := by decide +kernel
theorem dX0_insert_5 : decode cX0_insert 5 = .ok (.aload_n 0, 1) := by decide +kernel
theorem dX0_insert_6 : decode cX0_insert 6 = .ok (.getfield 52, 3) := by decide +kernel
theorem dX0_insert_9 : decode cX0_insert 9 = .ok (.iload_n 1, 1) := by decide +kernel
theorem dX0_insert_10 : decode cX0_insert 10 = .ok (.iaload, 1) := by decide +kernel
theorem dX0_insert_11 : decode cX0_insert 11 = .ok (.invokestatic 59, 3) := by decide +kernel
theorem dX0_insert_14 : decode cX0_insert 14 = .ok (.iload_n 3, 1) := by decide +kernel
theorem dX0_insert_15 : decode cX0_insert 15 = .ok (.sipush 255, 3) := by decide +kernel
theorem dX0_insert_18 : decode cX0_insert 18 = .ok (.invokestatic 59, 3) := by decide +kernel
theorem dX0_insert_21 : decode cX0_insert 21 = .ok (.aload_n 0, 1) := by decide +kernel
theorem dX0_insert_22 : decode cX0_insert 22 = .ok (.iload_n 1, 1) := by decide +kernel
theorem dX0_insert_23 : decode cX0_insert 23 = .ok (.invokevirtual 63, 3) := by decide +kernel
theorem dX0_insert_26 : decode cX0_insert 26 = .ok (.iload_n 2, 1) := by decide +kernel
theorem dX0_insert_27 : decode cX0_insert 27 = .ok (.ifCond .ne 7, 3) := by decide +kernel
theorem dX0_insert_30 : decode cX0_insert 30 = .ok (.iconst (-1), 1) := by decide +kernel
theorem dX0_insert_31 : decode cX0_insert 31 = .ok (.goto 11, 3) := by decide +kernel
theorem dX0_insert_34 : decode cX0_insert 34 = .ok (.aload_n 0, 1) := by decide +kernel
theorem dX0_insert_35 : decode cX0_insert 35 = .ok (.iload_n 1, 1) := by decide +kernel
theorem dX0_insert_36 : decode cX0_insert 36 = .ok (.iload_n 2, 1) := by decide +kernel
theorem dX0_insert_37 : decode cX0_insert 37 = .ok (.iconst 1, 1) := by decide +kernel
theorem dX0_insert_38 : decode cX0_insert 38 = .ok (.isub, 1) := by decide +kernel
theorem dX0_insert_39 : decode cX0_insert 39 = .ok (.invokevirtual 66, 3) := by decide +kernel
theorem dX0_insert_42 : decode cX0_insert 42 = .ok (.istore 4, 2) := by decide +kernel
theorem dX0_insert_44 : decode cX0_insert 44 = .ok (.aload_n 0, 1) := by decide +kernel
theorem dX0_insert_45 : decode cX0_insert 45 = .ok (.iload_n 1, 1) := by decide +kernel
theorem dX0_insert_46 : decode cX0_insert 46 = .ok (.iconst (-1), 1) := by decide +kernel
theorem dX0_insert_47 : decode cX0_insert 47 = .ok (.invokevirtual 70, 3) := by decide +kernel
theorem dX0_insert_50 : decode cX0_insert 50 = .ok (.istore 5, 2) := by decide +kernel
theorem dX0_insert_52 : decode cX0_insert 52 = .ok (.aload_n 0, 1) := by decide +kernel
theorem dX0_insert_53 : decode cX0_insert 53 = .ok (.getfield 28, 3) := by decide +kernel
theorem dX0_insert_56 : decode cX0_insert 56 = .ok (.iload 5, 2) := by decide +kernel
theorem dX0_insert_58 : decode cX0_insert 58 = .ok (.iload_n 3, 1) := by decide +kernel
theorem dX0_insert_59 : decode cX0_insert 59 = .ok (.iastore, 1) := by decide +kernel
theorem dX0_insert_60 : decode cX0_insert 60 = .ok (.aload_n 0, 1) := by decide +kernel
theorem dX0_insert_61 : decode cX0_insert 61 = .ok (.getfield 31, 3) := by decide +kernel
theorem dX0_insert_64 : decode cX0_insert 64 = .ok (.iload 5, 2) := by decide +kernel
theorem dX0_insert_66 : decode cX0_insert 66 = .ok (.iconst 4, 1) := by decide +kernel
theorem dX0_insert_67 : decode cX0_insert 67 = .ok (.aload_n 0, 1) := by decide +kernel
theorem dX0_insert_68 : decode cX0_insert 68 = .ok (.getfield 49, 3) := by decide +kernel
theorem dX0_insert_71 : decode cX0_insert 71 = .ok (.iload_n 1, 1) := by decide +kernel
theorem dX0_insert_72 : decode cX0_insert 72 = .ok (.iaload, 1) := by decide +kernel
theorem dX0_insert_73 : decode cX0_insert 73 = .ok (.iconst 1, 1) := by decide +kernel
theorem dX0_insert_74 : decode cX0_insert 74 = .ok (.iadd, 1) := by decide +kernel
theorem dX0_insert_75 : decode cX0_insert 75 = .ok (.imul, 1) := by decide +kernel
theorem dX0_insert_76 : decode cX0_insert 76 = .ok (.iload_n 1, 1) := by decide +kernel
theorem dX0_insert_77 : decode cX0_insert 77 = .ok (.iadd, 1) := by decide +kernel
theorem dX0_insert_78 : decode cX0_insert 78 = .ok (.iastore, 1) := by decide +kernel
theorem dX0_insert_79 : decode cX0_insert 79 = .ok (.aload_n 0, 1) := by decide +kernel
theorem dX0_insert_80 : decode cX0_insert 80 = .ok (.iload 5, 2) := by decide +kernel
theorem dX0_insert_82 : decode cX0_insert 82 = .ok (.iload 4, 2) := by decide +kernel
theorem dX0_insert_84 : decode cX0_insert 84 = .ok (.invokevirtual 73, 3) := by decide +kernel
theorem dX0_insert_87 : decode cX0_insert 87 = .ok (.aload_n 0, 1) := by decide +kernel
theorem dX0_insert_88 : decode cX0_insert 88 = .ok (.iload_n 1, 1) := by decide +kernel
theorem dX0_insert_89 : decode cX0_insert 89 = .ok (.iload 5, 2) := by decide +kernel
theorem dX0_insert_91 : decode cX0_insert 91 = .ok (.invokevirtual 76, 3) := by decide +kernel
theorem dX0_insert_94 : decode cX0_insert 94 = .ok (.aload_n 0, 1) := by decide +kernel
theorem dX0_insert_95 : decode cX0_insert 95 = .ok (.getfield 13, 3) := by decide +kernel
theorem dX0_insert_98 : decode cX0_insert 98 = .ok (.iload 5, 2) := by decide +kernel
theorem dX0_insert_100 : decode cX0_insert 100 = .ok (.iaload, 1) := by decide +kernel
theorem dX0_insert_101 : decode cX0_insert 101 = .ok (.ireturn, 1) := by decide +kernel
theorem dX0_remove_0 : decode cX0_remove 0 = .ok (.iload_n 1, 1) := by decide +kernel
theorem dX0_remove_1 : decode cX0_remove 1 = .ok (.invokestatic 55, 3) := by decide +kernel
theorem dX0_remove_4 : decode cX0_remove 4 = .ok (.aload_n 0, 1) := by decide +kernel
theorem dX0_remove_5 : decode cX0_remove 5 = .ok (.iload_n 1, 1) := by decide +kernel
theorem dX0_remove_6 : decode cX0_remove 6 = .ok (.iload_n 2, 1) := by decide +kernel
theorem dX0_remove_7 : decode cX0_remove 7 = .ok (.invokevirtual 66, 3) := by decide +kernel
theorem dX0_remove_10 : decode cX0_remove 10 = .ok (.istore_n 3, 1) := by decide +kernel
theorem dX0_remove_11 : decode cX0_remove 11 = .ok (.iload_n 3, 1) := by decide +kernel
theorem dX0_remove_12 : decode cX0_remove 12 = .ok (.iconst (-1), 1) := by decide +kernel
theorem dX0_remove_13 : decode cX0_remove 13 = .ok (.if_icmp .ne 13, 3) := by decide +kernel
theorem dX0_remove_16 : decode cX0_remove 16 = .ok (.new 79, 3) := by decide +kernel
theorem dX0_remove_19 : decode cX0_remove 19 = .ok (.dup, 1) := by decide +kernel
theorem dX0_remove_20 : decode cX0_remove 20 = .ok (.ldc 81, 2) := by decide +kernel
theorem dX0_remove_22 : decode cX0_remove 22 = .ok (.invokespecial 83, 3) := by decide +kernel
theorem dX0_remove_25 : decode cX0_remove 25 = .ok (.athrow, 1) := by decide +kernel
theorem dX0_remove_26 : decode cX0_remove 26 = .ok (.aload_n 0, 1) := by decide +kernel
theorem dX0_remove_27 : decode cX0_remove 27 = .ok (.iload_n 1, 1) := by decide +kernel
theorem dX0_remove_28 : decode cX0_remove 28 = .ok (.invokevirtual 63, 3) := by decide +kernel
theorem dX0_remove_31 : decode cX0_remove 31 = .ok (.aload_n 0, 1) := by decide +kernel
theorem dX0_remove_32 : decode cX0_remove 32 = .ok (.iload_n 1, 1) := by decide +kernel
theorem dX0_remove_33 : decode cX0_remove 33 = .ok (.aload_n 0, 1) := by decide +kernel
theorem dX0_remove_34 : decode cX0_remove 34 = .ok (.getfield 37, 3) := by decide +kernel
theorem dX0_remove_37 : decode cX0_remove 37 = .ok (.iload_n 3, 1) := by decide +kernel
theorem dX0_remove_38 : decode cX0_remove 38 = .ok (.iaload, 1) := by decide +kernel
theorem dX0_remove_39 : decode cX0_remove 39 = .ok (.invokevirtual 70, 3) := by decide +kernel
theorem dX0_remove_42 : decode cX0_remove 42 = .ok (.istore 4, 2) := by decide +kernel
theorem dX0_remove_44 : decode cX0_remove 44 = .ok (.aload_n 0, 1) := by decide +kernel
theorem dX0_remove_45 : decode cX0_remove 45 = .ok (.iload_n 1, 1) := by decide +kernel
theorem dX0_remove_46 : decode cX0_remove 46 = .ok (.iload 4, 2) := by decide +kernel
theorem dX0_remove_48 : decode cX0_remove 48 = .ok (.invokevirtual 76, 3) := by decide +kernel
theorem dX0_remove_51 : decode cX0_remove 51 = .ok (.aload_n 0, 1) := by decide +kernel
theorem dX0_remove_52 : decode cX0_remove 52 = .ok (.getfield 13, 3) := by decide +kernel
theorem dX0_remove_55 : decode cX0_remove 55 = .ok (.iload 4, 2) := by decide +kernel
theorem dX0_remove_57 : decode cX0_remove 57 = .ok (.iaload, 1) := by decide +kernel
theorem dX0_remove_58 : decode cX0_remove 58 = .ok (.ireturn, 1) := by decide +kernel
theorem dX0_bring_0 : decode cX0_bring 0 = .ok (.iload_n 1, 1) := by decide +kernel
theorem dX0_bring_1 : decode cX0_bring 1 = .ok (.invokestatic 55, 3) := by decide +kernel
theorem dX0_bring_4 : decode cX0_bring 4 = .ok (.iload_n 3, 1) := by decide +kernel
theorem dX0_bring_5 : decode cX0_bring 5 = .ok (.invokestatic 55, 3) := by decide +kernel
theorem dX0_bring_8 : decode cX0_bring 8 = .ok (.iload_n 1, 1) := by decide +kernel
theorem dX0_bring_9 : decode cX0_bring 9 = .ok (.iload_n 3, 1) := by decide +kernel
theorem dX0_bring_10 : decode cX0_bring 10 = .ok (.if_icmp .ne 13, 3) := by decide +kernel
theorem dX0_bring_13 : decode cX0_bring 13 = .ok (.new 79, 3) := by decide +kernel
theorem dX0_bring_16 : decode cX0_bring 16 = .ok (.dup, 1) := by decide +kernel
theorem dX0_bring_17 : decode cX0_bring 17 = .ok (.ldc 86, 2) := by decide +kernel
theorem dX0_bring_19 : decode cX0_bring 19 = .ok (.invokespecial 83, 3) := by decide +kernel
theorem dX0_bring_22 : decode cX0_bring 22 = .ok (.athrow, 1) := by decide +kernel
theorem dX0_bring_23 : decode cX0_bring 23 = .ok (.iload_n 2, 1) := by decide +kernel
theorem dX0_bring_24 : decode cX0_bring 24 = .ok (.aload_n 0, 1) := by decide +kernel
theorem dX0_bring_25 : decode cX0_bring 25 = .ok (.getfield 46, 3) := by decide +kernel
theorem dX0_bring_28 : decode cX0_bring 28 = .ok (.iload_n 1, 1) := by decide +kernel
theorem dX0_bring_29 : decode cX0_bring 29 = .ok (.aaload, 1) := by decide +kernel
theorem dX0_bring_30 : decode cX0_bring 30 = .ok (.iload_n 1, 1) := by decide +kernel
theorem dX0_bring_31 : decode cX0_bring 31 = .ok (.iaload, 1) := by decide +kernel
theorem dX0_bring_32 : decode cX0_bring 32 = .ok (.iconst 1, 1) := by decide +kernel
theorem dX0_bring_33 : decode cX0_bring 33 = .ok (.isub, 1) := by decide +kernel
theorem dX0_bring_34 : decode cX0_bring 34 = .ok (.invokestatic 59, 3) := by decide +kernel
theorem dX0_bring_37 : decode cX0_bring 37 = .ok (.aload_n 0, 1) := by decide +kernel
theorem dX0_bring_38 : decode cX0_bring 38 = .ok (.getfield 43, 3) := by decide +kernel
theorem dX0_bring_41 : decode cX0_bring 41 = .ok (.iload_n 1, 1) := by decide +kernel
theorem dX0_bring_42 : decode cX0_bring 42 = .ok (.aaload, 1) := by decide +kernel
theorem dX0_bring_43 : decode cX0_bring 43 = .ok (.iload_n 2, 1) := by decide +kernel
theorem dX0_bring_44 : decode cX0_bring 44 = .ok (.iaload, 1) := by decide +kernel
theorem dX0_bring_45 : decode cX0_bring 45 = .ok (.istore 4, 2) := by decide +kernel
theorem dX0_bring_47 : decode cX0_bring 47 = .ok (.aload_n 0, 1) := by decide +kernel
theorem dX0_bring_48 : decode cX0_bring 48 = .ok (.iload_n 3, 1) := by decide +kernel
theorem dX0_bring_49 : decode cX0_bring 49 = .ok (.iload 4, 2) := by decide +kernel
theorem dX0_bring_51 : decode cX0_bring 51 = .ok (.invokevirtual 88, 3) := by decide +kernel
theorem dX0_bring_54 : decode cX0_bring 54 = .ok (.ifCond .eq 4, 3) := by decide +kernel
theorem dX0_bring_57 : decode cX0_bring 57 = .ok (.return_, 1) := by decide +kernel
theorem dX0_bring_58 : decode cX0_bring 58 = .ok (.aload_n 0, 1) := by decide +kernel
theorem dX0_bring_59 : decode cX0_bring 59 = .ok (.iload_n 3, 1) := by decide +kernel
theorem dX0_bring_60 : decode cX0_bring 60 = .ok (.iload 4, 2) := by decide +kernel
theorem dX0_bring_62 : decode cX0_bring 62 = .ok (.invokevirtual 92, 3) := by decide +kernel
theorem dX0_bring_65 : decode cX0_bring 65 = .ok (.ifCond .ne 13, 3) := by decide +kernel
theorem dX0_bring_68 : decode cX0_bring 68 = .ok (.new 95, 3) := by decide +kernel
theorem dX0_bring_71 : decode cX0_bring 71 = .ok (.dup, 1) := by decide +kernel
theorem dX0_bring_72 : decode cX0_bring 72 = .ok (.ldc 97, 2) := by decide +kernel
theorem dX0_bring_74 : decode cX0_bring 74 = .ok (.invokespecial 99, 3) := by decide +kernel
theorem dX0_bring_77 : decode cX0_bring 77 = .ok (.athrow, 1) := by decide +kernel
theorem dX0_bring_78 : decode cX0_bring 78 = .ok (.aload_n 0, 1) := by decide +kernel
theorem dX0_bring_79 : decode cX0_bring 79 = .ok (.iload_n 3, 1) := by decide +kernel
theorem dX0_bring_80 : decode cX0_bring 80 = .ok (.iload 4, 2) := by decide +kernel
theorem dX0_bring_82 : decode cX0_bring 82 = .ok (.invokevirtual 76, 3) := by decide +kernel
theorem dX0_bring_85 : decode cX0_bring 85 = .ok (.return_, 1) := by decide +kernel
theorem dX0_merge_0 : decode cX0_merge 0 = .ok (.iload_n 1, 1) := by decide +kernel
theorem dX0_merge_1 : decode cX0_merge 1 = .ok (.invokestatic 55, 3) := by decide +kernel
theorem dX0_merge_4 : decode cX0_merge 4 = .ok (.iload_n 2, 1) := by decide +kernel
theorem dX0_merge_5 : decode cX0_merge 5 = .ok (.invokestatic 55, 3) := by decide +kernel
theorem dX0_merge_8 : decode cX0_merge 8 = .ok (.iconst 0, 1) := by decide +kernel
theorem dX0_merge_9 : decode cX0_merge 9 = .ok (.istore_n 3, 1) := by decide +kernel
theorem dX0_merge_10 : decode cX0_merge 10 = .ok (.iconst 0, 1) := by decide +kernel
theorem dX0_merge_11 : decode cX0_merge 11 = .ok (.istore 4, 2) := by decide +kernel
theorem dX0_merge_13 : decode cX0_merge 13 = .ok (.iload 4, 2) := by decide +kernel
theorem dX0_merge_15 : decode cX0_merge 15 = .ok (.aload_n 0, 1) := by decide +kernel
theorem dX0_merge_16 : decode cX0_merge 16 = .ok (.getfield 24, 3) := by decide +kernel
theorem dX0_merge_19 : decode cX0_merge 19 = .ok (.if_icmp .ge 39, 3) := by decide +kernel
theorem dX0_merge_22 : decode cX0_merge 22 = .ok (.aload_n 0, 1) := by decide +kernel
theorem dX0_merge_23 : decode cX0_merge 23 = .ok (.iload_n 1, 1) := by decide +kernel
theorem dX0_merge_24 : decode cX0_merge 24 = .ok (.iload 4, 2) := by decide +kernel
theorem dX0_merge_26 : decode cX0_merge 26 = .ok (.invokevirtual 88, 3) := by decide +kernel
theorem dX0_merge_29 : decode cX0_merge 29 = .ok (.ifCond .eq 23, 3) := by decide +kernel
theorem dX0_merge_32 : decode cX0_merge 32 = .ok (.aload_n 0, 1) := by decide +kernel
theorem dX0_merge_33 : decode cX0_merge 33 = .ok (.iload_n 2, 1) := by decide +kernel
theorem dX0_merge_34 : decode cX0_merge 34 = .ok (.iload 4, 2) := by decide +kernel
theorem dX0_merge_36 : decode cX0_merge 36 = .ok (.invokevirtual 88, 3) := by decide +kernel
theorem dX0_merge_39 : decode cX0_merge 39 = .ok (.ifCond .ne 13, 3) := by decide +kernel
theorem dX0_merge_42 : decode cX0_merge 42 = .ok (.aload_n 0, 1) := by decide +kernel
theorem dX0_merge_43 : decode cX0_merge 43 = .ok (.iload_n 2, 1) := by decide +kernel
theorem dX0_merge_44 : decode cX0_merge 44 = .ok (.iload 4, 2) := by decide +kernel
theorem dX0_merge_46 : decode cX0_merge 46 = .ok (.invokevirtual 76, 3) := by decide +kernel
theorem dX0_merge_49 : decode cX0_merge 49 = .ok (.iinc 3 1, 3) := by decide +kernel
theorem dX0_merge_52 : decode cX0_merge 52 = .ok (.iinc 4 1, 3) := by decide +kernel
theorem dX0_merge_55 : decode cX0_merge 55 = .ok (.goto (-42), 3) := by decide +kernel
theorem dX0_merge_58 : decode cX0_merge 58 = .ok (.iload_n 3, 1) := by decide +kernel
theorem dX0_merge_59 : decode cX0_merge 59 = .ok (.ireturn, 1) := by decide +kernel
theorem dX0_length_0 : decode cX0_length 0 = .ok (.iload_n 1, 1) := by decide +kernel
theorem dX0_length_1 : decode cX0_length 1 = .ok (.invokestatic 55, 3) := by decide +kernel
theorem dX0_length_4 : decode cX0_length 4 = .ok (.aload_n 0, 1) := by decide +kernel
theorem dX0_length_5 : decode cX0_length 5 = .ok (.getfield 52, 3) := by decide +kernel
theorem dX0_length_8 : decode cX0_length 8 = .ok (.iload_n 1, 1) := by decide +kernel
theorem dX0_length_9 : decode cX0_length 9 = .ok (.iaload, 1) := by decide +kernel
theorem dX0_length_10 : decode cX0_length 10 = .ok (.ireturn, 1) := by decide +kernel
theorem dX0_letter_0 : decode cX0_letter 0 = .ok (.aload_n 0, 1) := by decide +kernel
theorem dX0_letter_1 : decode cX0_letter 1 = .ok (.iload_n 1, 1) := by decide +kernel
theorem dX0_letter_2 : decode cX0_letter 2 = .ok (.iload_n 2, 1) := by decide +kernel
theorem dX0_letter_3 : decode cX0_letter 3 = .ok (.invokevirtual 100, 3) := by decide +kernel
theorem dX0_letter_6 : decode cX0_letter 6 = .ok (.istore_n 3, 1) := by decide +kernel
theorem dX0_letter_7 : decode cX0_letter 7 = .ok (.iload_n 3, 1) := by decide +kernel
theorem dX0_letter_8 : decode cX0_letter 8 = .ok (.iconst (-1), 1) := by decide +kernel
theorem dX0_letter_9 : decode cX0_letter 9 = .ok (.if_icmp .ne 7, 3) := by decide +kernel
theorem dX0_letter_12 : decode cX0_letter 12 = .ok (.iconst (-1), 1) := by decide +kernel
theorem dX0_letter_13 : decode cX0_letter 13 = .ok (.goto 14, 3) := by decide +kernel
theorem dX0_letter_16 : decode cX0_letter 16 = .ok (.aload_n 0, 1) := by decide +kernel
theorem dX0_letter_17 : decode cX0_letter 17 = .ok (.getfield 28, 3) := by decide +kernel
theorem dX0_letter_20 : decode cX0_letter 20 = .ok (.aload_n 0, 1) := by decide +kernel
theorem dX0_letter_21 : decode cX0_letter 21 = .ok (.getfield 37, 3) := by decide +kernel
theorem dX0_letter_24 : decode cX0_letter 24 = .ok (.iload_n 3, 1) := by decide +kernel
theorem dX0_letter_25 : decode cX0_letter 25 = .ok (.iaload, 1) := by decide +kernel
theorem dX0_letter_26 : decode cX0_letter 26 = .ok (.iaload, 1) := by decide +kernel
theorem dX0_letter_27 : decode cX0_letter 27 = .ok (.ireturn, 1) := by decide +kernel
theorem dX0_name_0 : decode cX0_name 0 = .ok (.aload_n 0, 1) := by decide +kernel
theorem dX0_name_1 : decode cX0_name 1 = .ok (.iload_n 1, 1) := by decide +kernel
theorem dX0_name_2 : decode cX0_name 2 = .ok (.iload_n 2, 1) := by decide +kernel
theorem dX0_name_3 : decode cX0_name 3 = .ok (.invokevirtual 100, 3) := by decide +kernel
theorem dX0_name_6 : decode cX0_name 6 = .ok (.istore_n 3, 1) := by decide +kernel
theorem dX0_name_7 : decode cX0_name 7 = .ok (.iload_n 3, 1) := by decide +kernel
theorem dX0_name_8 : decode cX0_name 8 = .ok (.iconst (-1), 1) := by decide +kernel
theorem dX0_name_9 : decode cX0_name 9 = .ok (.if_icmp .ne 7, 3) := by decide +kernel
theorem dX0_name_12 : decode cX0_name 12 = .ok (.iconst (-1), 1) := by decide +kernel
theorem dX0_name_13 : decode cX0_name 13 = .ok (.goto 14, 3) := by decide +kernel
theorem dX0_name_16 : decode cX0_name 16 = .ok (.aload_n 0, 1) := by decide +kernel
theorem dX0_name_17 : decode cX0_name 17 = .ok (.getfield 31, 3) := by decide +kernel
theorem dX0_name_20 : decode cX0_name 20 = .ok (.aload_n 0, 1) := by decide +kernel
theorem dX0_name_21 : decode cX0_name 21 = .ok (.getfield 37, 3) := by decide +kernel
theorem dX0_name_24 : decode cX0_name 24 = .ok (.iload_n 3, 1) := by decide +kernel
theorem dX0_name_25 : decode cX0_name 25 = .ok (.iaload, 1) := by decide +kernel
theorem dX0_name_26 : decode cX0_name 26 = .ok (.iaload, 1) := by decide +kernel
theorem dX0_name_27 : decode cX0_name 27 = .ok (.ireturn, 1) := by decide +kernel
theorem dX0_has_0 : decode cX0_has 0 = .ok (.iload_n 1, 1) := by decide +kernel
theorem dX0_has_1 : decode cX0_has 1 = .ok (.invokestatic 55, 3) := by decide +kernel
theorem dX0_has_4 : decode cX0_has 4 = .ok (.iload_n 2, 1) := by decide +kernel
theorem dX0_has_5 : decode cX0_has 5 = .ok (.invokestatic 55, 3) := by decide +kernel
theorem dX0_has_8 : decode cX0_has 8 = .ok (.aload_n 0, 1) := by decide +kernel
theorem dX0_has_9 : decode cX0_has 9 = .ok (.getfield 46, 3) := by decide +kernel
theorem dX0_has_12 : decode cX0_has 12 = .ok (.iload_n 1, 1) := by decide +kernel
theorem dX0_has_13 : decode cX0_has 13 = .ok (.aaload, 1) := by decide +kernel
theorem dX0_has_14 : decode cX0_has 14 = .ok (.iload_n 2, 1) := by decide +kernel
theorem dX0_has_15 : decode cX0_has 15 = .ok (.iaload, 1) := by decide +kernel
theorem dX0_has_16 : decode cX0_has 16 = .ok (.ireturn, 1) := by decide +kernel
theorem dX0_checkCopy_0 : decode cX0_checkCopy 0 = .ok (.iload_n 0, 1) := by decide +kernel
theorem dX0_checkCopy_1 : decode cX0_checkCopy 1 = .ok (.iconst 3, 1) := by decide +kernel
theorem dX0_checkCopy_2 : decode cX0_checkCopy 2 = .ok (.invokestatic 59, 3) := by decide +kernel
theorem dX0_checkCopy_5 : decode cX0_checkCopy 5 = .ok (.return_, 1) := by decide +kernel
theorem dX0_checkUpTo_0 : decode cX0_checkUpTo 0 = .ok (.iload_n 0, 1) := by decide +kernel
theorem dX0_checkUpTo_1 : decode cX0_checkUpTo 1 = .ok (.ifCond .lt 8, 3) := by decide +kernel
theorem dX0_checkUpTo_4 : decode cX0_checkUpTo 4 = .ok (.iload_n 0, 1) := by decide +kernel
theorem dX0_checkUpTo_5 : decode cX0_checkUpTo 5 = .ok (.iload_n 1, 1) := by decide +kernel
theorem dX0_checkUpTo_6 : decode cX0_checkUpTo 6 = .ok (.if_icmp .le 13, 3) := by decide +kernel
theorem dX0_checkUpTo_9 : decode cX0_checkUpTo 9 = .ok (.new 79, 3) := by decide +kernel
theorem dX0_checkUpTo_12 : decode cX0_checkUpTo 12 = .ok (.dup, 1) := by decide +kernel
theorem dX0_checkUpTo_13 : decode cX0_checkUpTo 13 = .ok (.ldc 103, 2) := by decide +kernel
theorem dX0_checkUpTo_15 : decode cX0_checkUpTo 15 = .ok (.invokespecial 83, 3) := by decide +kernel
theorem dX0_checkUpTo_18 : decode cX0_checkUpTo 18 = .ok (.athrow, 1) := by decide +kernel
theorem dX0_checkUpTo_19 : decode cX0_checkUpTo 19 = .ok (.return_, 1) := by decide +kernel
theorem dX0_checkRoom_0 : decode cX0_checkRoom 0 = .ok (.aload_n 0, 1) := by decide +kernel
theorem dX0_checkRoom_1 : decode cX0_checkRoom 1 = .ok (.getfield 46, 3) := by decide +kernel
theorem dX0_checkRoom_4 : decode cX0_checkRoom 4 = .ok (.iload_n 1, 1) := by decide +kernel
theorem dX0_checkRoom_5 : decode cX0_checkRoom 5 = .ok (.aaload, 1) := by decide +kernel
theorem dX0_checkRoom_6 : decode cX0_checkRoom 6 = .ok (.iload_n 1, 1) := by decide +kernel
theorem dX0_checkRoom_7 : decode cX0_checkRoom 7 = .ok (.iaload, 1) := by decide +kernel
theorem dX0_checkRoom_8 : decode cX0_checkRoom 8 = .ok (.sipush 400, 3) := by decide +kernel
theorem dX0_checkRoom_11 : decode cX0_checkRoom 11 = .ok (.if_icmp .ge 13, 3) := by decide +kernel
theorem dX0_checkRoom_14 : decode cX0_checkRoom 14 = .ok (.aload_n 0, 1) := by decide +kernel
theorem dX0_checkRoom_15 : decode cX0_checkRoom 15 = .ok (.getfield 24, 3) := by decide +kernel
theorem dX0_checkRoom_18 : decode cX0_checkRoom 18 = .ok (.sipush 512, 3) := by decide +kernel
theorem dX0_checkRoom_21 : decode cX0_checkRoom 21 = .ok (.if_icmp .lt 13, 3) := by decide +kernel
theorem dX0_checkRoom_24 : decode cX0_checkRoom 24 = .ok (.new 95, 3) := by decide +kernel
theorem dX0_checkRoom_27 : decode cX0_checkRoom 27 = .ok (.dup, 1) := by decide +kernel
theorem dX0_checkRoom_28 : decode cX0_checkRoom 28 = .ok (.ldc 105, 2) := by decide +kernel
theorem dX0_checkRoom_30 : decode cX0_checkRoom 30 = .ok (.invokespecial 99, 3) := by decide +kernel
theorem dX0_checkRoom_33 : decode cX0_checkRoom 33 = .ok (.athrow, 1) := by decide +kernel
theorem dX0_checkRoom_34 : decode cX0_checkRoom 34 = .ok (.return_, 1) := by decide +kernel
theorem dX0_placeToRead_0 : decode cX0_placeToRead 0 = .ok (.iload_n 1, 1) := by decide +kernel
theorem dX0_placeToRead_1 : decode cX0_placeToRead 1 = .ok (.invokestatic 55, 3) := by decide +kernel
theorem dX0_placeToRead_4 : decode cX0_placeToRead 4 = .ok (.iload_n 2, 1) := by decide +kernel
theorem dX0_placeToRead_5 : decode cX0_placeToRead 5 = .ok (.ldc 109, 2) := by decide +kernel
theorem dX0_placeToRead_7 : decode cX0_placeToRead 7 = .ok (.invokestatic 59, 3) := by decide +kernel
theorem dX0_placeToRead_10 : decode cX0_placeToRead 10 = .ok (.aload_n 0, 1) := by decide +kernel
theorem dX0_placeToRead_11 : decode cX0_placeToRead 11 = .ok (.iload_n 1, 1) := by decide +kernel
theorem dX0_placeToRead_12 : decode cX0_placeToRead 12 = .ok (.iload_n 2, 1) := by decide +kernel
theorem dX0_placeToRead_13 : decode cX0_placeToRead 13 = .ok (.invokevirtual 66, 3) := by decide +kernel
theorem dX0_placeToRead_16 : decode cX0_placeToRead 16 = .ok (.ireturn, 1) := by decide +kernel
theorem dX0_placeOf_0 : decode cX0_placeOf 0 = .ok (.iconst 0, 1) := by decide +kernel
theorem dX0_placeOf_1 : decode cX0_placeOf 1 = .ok (.istore_n 3, 1) := by decide +kernel
theorem dX0_placeOf_2 : decode cX0_placeOf 2 = .ok (.iconst 0, 1) := by decide +kernel
theorem dX0_placeOf_3 : decode cX0_placeOf 3 = .ok (.istore 4, 2) := by decide +kernel
theorem dX0_placeOf_5 : decode cX0_placeOf 5 = .ok (.iload 4, 2) := by decide +kernel
theorem dX0_placeOf_7 : decode cX0_placeOf 7 = .ok (.aload_n 0, 1) := by decide +kernel
theorem dX0_placeOf_8 : decode cX0_placeOf 8 = .ok (.getfield 40, 3) := by decide +kernel
theorem dX0_placeOf_11 : decode cX0_placeOf 11 = .ok (.if_icmp .ge 35, 3) := by decide +kernel
theorem dX0_placeOf_14 : decode cX0_placeOf 14 = .ok (.aload_n 0, 1) := by decide +kernel
theorem dX0_placeOf_15 : decode cX0_placeOf 15 = .ok (.iload_n 1, 1) := by decide +kernel
theorem dX0_placeOf_16 : decode cX0_placeOf 16 = .ok (.aload_n 0, 1) := by decide +kernel
theorem dX0_placeOf_17 : decode cX0_placeOf 17 = .ok (.getfield 37, 3) := by decide +kernel
theorem dX0_placeOf_20 : decode cX0_placeOf 20 = .ok (.iload 4, 2) := by decide +kernel
theorem dX0_placeOf_22 : decode cX0_placeOf 22 = .ok (.iaload, 1) := by decide +kernel
theorem dX0_placeOf_23 : decode cX0_placeOf 23 = .ok (.invokevirtual 110, 3) := by decide +kernel
theorem dX0_placeOf_26 : decode cX0_placeOf 26 = .ok (.ifCond .eq 14, 3) := by decide +kernel
theorem dX0_placeOf_29 : decode cX0_placeOf 29 = .ok (.iload_n 3, 1) := by decide +kernel
theorem dX0_placeOf_30 : decode cX0_placeOf 30 = .ok (.iload_n 2, 1) := by decide +kernel
theorem dX0_placeOf_31 : decode cX0_placeOf 31 = .ok (.if_icmp .ne 6, 3) := by decide +kernel
theorem dX0_placeOf_34 : decode cX0_placeOf 34 = .ok (.iload 4, 2) := by decide +kernel
theorem dX0_placeOf_36 : decode cX0_placeOf 36 = .ok (.ireturn, 1) := by decide +kernel
theorem dX0_placeOf_37 : decode cX0_placeOf 37 = .ok (.iinc 3 1, 3) := by decide +kernel
theorem dX0_placeOf_40 : decode cX0_placeOf 40 = .ok (.iinc 4 1, 3) := by decide +kernel
theorem dX0_placeOf_43 : decode cX0_placeOf 43 = .ok (.goto (-38), 3) := by decide +kernel
theorem dX0_placeOf_46 : decode cX0_placeOf 46 = .ok (.iconst (-1), 1) := by decide +kernel
theorem dX0_placeOf_47 : decode cX0_placeOf 47 = .ok (.ireturn, 1) := by decide +kernel
theorem dX0_isShown_0 : decode cX0_isShown 0 = .ok (.aload_n 0, 1) := by decide +kernel
theorem dX0_isShown_1 : decode cX0_isShown 1 = .ok (.getfield 34, 3) := by decide +kernel
theorem dX0_isShown_4 : decode cX0_isShown 4 = .ok (.iload_n 2, 1) := by decide +kernel
theorem dX0_isShown_5 : decode cX0_isShown 5 = .ok (.iaload, 1) := by decide +kernel
theorem dX0_isShown_6 : decode cX0_isShown 6 = .ok (.iconst 1, 1) := by decide +kernel
theorem dX0_isShown_7 : decode cX0_isShown 7 = .ok (.iload_n 1, 1) := by decide +kernel
theorem dX0_isShown_8 : decode cX0_isShown 8 = .ok (.ishl, 1) := by decide +kernel
theorem dX0_isShown_9 : decode cX0_isShown 9 = .ok (.iand, 1) := by decide +kernel
theorem dX0_isShown_10 : decode cX0_isShown 10 = .ok (.ifCond .eq 7, 3) := by decide +kernel
theorem dX0_isShown_13 : decode cX0_isShown 13 = .ok (.iconst 1, 1) := by decide +kernel
theorem dX0_isShown_14 : decode cX0_isShown 14 = .ok (.goto 4, 3) := by decide +kernel
theorem dX0_isShown_17 : decode cX0_isShown 17 = .ok (.iconst 0, 1) := by decide +kernel
theorem dX0_isShown_18 : decode cX0_isShown 18 = .ok (.ireturn, 1) := by decide +kernel
theorem dX0_isIn_0 : decode cX0_isIn 0 = .ok (.aload_n 0, 1) := by decide +kernel
theorem dX0_isIn_1 : decode cX0_isIn 1 = .ok (.getfield 13, 3) := by decide +kernel
theorem dX0_isIn_4 : decode cX0_isIn 4 = .ok (.iload_n 2, 1) := by decide +kernel
theorem dX0_isIn_5 : decode cX0_isIn 5 = .ok (.iaload, 1) := by decide +kernel
theorem dX0_isIn_6 : decode cX0_isIn 6 = .ok (.aload_n 0, 1) := by decide +kernel
theorem dX0_isIn_7 : decode cX0_isIn 7 = .ok (.getfield 46, 3) := by decide +kernel
theorem dX0_isIn_10 : decode cX0_isIn 10 = .ok (.iload_n 1, 1) := by decide +kernel
theorem dX0_isIn_11 : decode cX0_isIn 11 = .ok (.aaload, 1) := by decide +kernel
theorem dX0_isIn_12 : decode cX0_isIn 12 = .ok (.aload_n 0, 1) := by decide +kernel
theorem dX0_isIn_13 : decode cX0_isIn 13 = .ok (.getfield 9, 3) := by decide +kernel
theorem dX0_isIn_16 : decode cX0_isIn 16 = .ok (.iload_n 2, 1) := by decide +kernel
theorem dX0_isIn_17 : decode cX0_isIn 17 = .ok (.iaload, 1) := by decide +kernel
theorem dX0_isIn_18 : decode cX0_isIn 18 = .ok (.iaload, 1) := by decide +kernel
theorem dX0_isIn_19 : decode cX0_isIn 19 = .ok (.if_icmp .ge 7, 3) := by decide +kernel
theorem dX0_isIn_22 : decode cX0_isIn 22 = .ok (.iconst 1, 1) := by decide +kernel
theorem dX0_isIn_23 : decode cX0_isIn 23 = .ok (.goto 4, 3) := by decide +kernel
theorem dX0_isIn_26 : decode cX0_isIn 26 = .ok (.iconst 0, 1) := by decide +kernel
theorem dX0_isIn_27 : decode cX0_isIn 27 = .ok (.ireturn, 1) := by decide +kernel
theorem dX0_canCome_0 : decode cX0_canCome 0 = .ok (.iconst 0, 1) := by decide +kernel
theorem dX0_canCome_1 : decode cX0_canCome 1 = .ok (.istore_n 3, 1) := by decide +kernel
theorem dX0_canCome_2 : decode cX0_canCome 2 = .ok (.iload_n 3, 1) := by decide +kernel
theorem dX0_canCome_3 : decode cX0_canCome 3 = .ok (.iconst 4, 1) := by decide +kernel
theorem dX0_canCome_4 : decode cX0_canCome 4 = .ok (.if_icmp .ge 30, 3) := by decide +kernel
theorem dX0_canCome_7 : decode cX0_canCome 7 = .ok (.aload_n 0, 1) := by decide +kernel
theorem dX0_canCome_8 : decode cX0_canCome 8 = .ok (.getfield 46, 3) := by decide +kernel
theorem dX0_canCome_11 : decode cX0_canCome 11 = .ok (.iload_n 1, 1) := by decide +kernel
theorem dX0_canCome_12 : decode cX0_canCome 12 = .ok (.aaload, 1) := by decide +kernel
theorem dX0_canCome_13 : decode cX0_canCome 13 = .ok (.iload_n 3, 1) := by decide +kernel
theorem dX0_canCome_14 : decode cX0_canCome 14 = .ok (.iaload, 1) := by decide +kernel
theorem dX0_canCome_15 : decode cX0_canCome 15 = .ok (.aload_n 0, 1) := by decide +kernel
theorem dX0_canCome_16 : decode cX0_canCome 16 = .ok (.getfield 21, 3) := by decide +kernel
theorem dX0_canCome_19 : decode cX0_canCome 19 = .ok (.iload_n 3, 1) := by decide +kernel
theorem dX0_canCome_20 : decode cX0_canCome 20 = .ok (.aaload, 1) := by decide +kernel
theorem dX0_canCome_21 : decode cX0_canCome 21 = .ok (.iload_n 2, 1) := by decide +kernel
theorem dX0_canCome_22 : decode cX0_canCome 22 = .ok (.iaload, 1) := by decide +kernel
theorem dX0_canCome_23 : decode cX0_canCome 23 = .ok (.if_icmp .ge 5, 3) := by decide +kernel
theorem dX0_canCome_26 : decode cX0_canCome 26 = .ok (.iconst 0, 1) := by decide +kernel
theorem dX0_canCome_27 : decode cX0_canCome 27 = .ok (.ireturn, 1) := by decide +kernel
theorem dX0_canCome_28 : decode cX0_canCome 28 = .ok (.iinc 3 1, 3) := by decide +kernel
theorem dX0_canCome_31 : decode cX0_canCome 31 = .ok (.goto (-29), 3) := by decide +kernel
theorem dX0_canCome_34 : decode cX0_canCome 34 = .ok (.iconst 1, 1) := by decide +kernel
theorem dX0_canCome_35 : decode cX0_canCome 35 = .ok (.ireturn, 1) := by decide +kernel
theorem dX0_addChange_0 : decode cX0_addChange 0 = .ok (.aload_n 0, 1) := by decide +kernel
theorem dX0_addChange_1 : decode cX0_addChange 1 = .ok (.getfield 24, 3) := by decide +kernel
theorem dX0_addChange_4 : decode cX0_addChange 4 = .ok (.istore_n 3, 1) := by decide +kernel
theorem dX0_addChange_5 : decode cX0_addChange 5 = .ok (.aload_n 0, 1) := by decide +kernel
theorem dX0_addChange_6 : decode cX0_addChange 6 = .ok (.getfield 9, 3) := by decide +kernel
theorem dX0_addChange_9 : decode cX0_addChange 9 = .ok (.iload_n 3, 1) := by decide +kernel
theorem dX0_addChange_10 : decode cX0_addChange 10 = .ok (.iload_n 1, 1) := by decide +kernel
theorem dX0_addChange_11 : decode cX0_addChange 11 = .ok (.iastore, 1) := by decide +kernel
theorem dX0_addChange_12 : decode cX0_addChange 12 = .ok (.aload_n 0, 1) := by decide +kernel
theorem dX0_addChange_13 : decode cX0_addChange 13 = .ok (.getfield 13, 3) := by decide +kernel
theorem dX0_addChange_16 : decode cX0_addChange 16 = .ok (.iload_n 3, 1) := by decide +kernel
theorem dX0_addChange_17 : decode cX0_addChange 17 = .ok (.aload_n 0, 1) := by decide +kernel
theorem dX0_addChange_18 : decode cX0_addChange 18 = .ok (.getfield 46, 3) := by decide +kernel
theorem dX0_addChange_21 : decode cX0_addChange 21 = .ok (.iload_n 1, 1) := by decide +kernel
theorem dX0_addChange_22 : decode cX0_addChange 22 = .ok (.aaload, 1) := by decide +kernel
theorem dX0_addChange_23 : decode cX0_addChange 23 = .ok (.iload_n 1, 1) := by decide +kernel
theorem dX0_addChange_24 : decode cX0_addChange 24 = .ok (.iaload, 1) := by decide +kernel
theorem dX0_addChange_25 : decode cX0_addChange 25 = .ok (.iastore, 1) := by decide +kernel
theorem dX0_addChange_26 : decode cX0_addChange 26 = .ok (.aload_n 0, 1) := by decide +kernel
theorem dX0_addChange_27 : decode cX0_addChange 27 = .ok (.getfield 16, 3) := by decide +kernel
theorem dX0_addChange_30 : decode cX0_addChange 30 = .ok (.iload_n 3, 1) := by decide +kernel
theorem dX0_addChange_31 : decode cX0_addChange 31 = .ok (.iload_n 2, 1) := by decide +kernel
theorem dX0_addChange_32 : decode cX0_addChange 32 = .ok (.iastore, 1) := by decide +kernel
theorem dX0_addChange_33 : decode cX0_addChange 33 = .ok (.iconst 0, 1) := by decide +kernel
theorem dX0_addChange_34 : decode cX0_addChange 34 = .ok (.istore 4, 2) := by decide +kernel
theorem dX0_addChange_36 : decode cX0_addChange 36 = .ok (.iload 4, 2) := by decide +kernel
theorem dX0_addChange_38 : decode cX0_addChange 38 = .ok (.iconst 4, 1) := by decide +kernel
theorem dX0_addChange_39 : decode cX0_addChange 39 = .ok (.if_icmp .ge 27, 3) := by decide +kernel
theorem dX0_addChange_42 : decode cX0_addChange 42 = .ok (.aload_n 0, 1) := by decide +kernel
theorem dX0_addChange_43 : decode cX0_addChange 43 = .ok (.getfield 21, 3) := by decide +kernel
theorem dX0_addChange_46 : decode cX0_addChange 46 = .ok (.iload 4, 2) := by decide +kernel
theorem dX0_addChange_48 : decode cX0_addChange 48 = .ok (.aaload, 1) := by decide +kernel
theorem dX0_addChange_49 : decode cX0_addChange 49 = .ok (.iload_n 3, 1) := by decide +kernel
theorem dX0_addChange_50 : decode cX0_addChange 50 = .ok (.aload_n 0, 1) := by decide +kernel
theorem dX0_addChange_51 : decode cX0_addChange 51 = .ok (.getfield 46, 3) := by decide +kernel
theorem dX0_addChange_54 : decode cX0_addChange 54 = .ok (.iload_n 1, 1) := by decide +kernel
theorem dX0_addChange_55 : decode cX0_addChange 55 = .ok (.aaload, 1) := by decide +kernel
theorem dX0_addChange_56 : decode cX0_addChange 56 = .ok (.iload 4, 2) := by decide +kernel
theorem dX0_addChange_58 : decode cX0_addChange 58 = .ok (.iaload, 1) := by decide +kernel
theorem dX0_addChange_59 : decode cX0_addChange 59 = .ok (.iastore, 1) := by decide +kernel
theorem dX0_addChange_60 : decode cX0_addChange 60 = .ok (.iinc 4 1, 3) := by decide +kernel
theorem dX0_addChange_63 : decode cX0_addChange 63 = .ok (.goto (-27), 3) := by decide +kernel
theorem dX0_addChange_66 : decode cX0_addChange 66 = .ok (.aload_n 0, 1) := by decide +kernel
theorem dX0_addChange_67 : decode cX0_addChange 67 = .ok (.getfield 43, 3) := by decide +kernel
theorem dX0_addChange_70 : decode cX0_addChange 70 = .ok (.iload_n 1, 1) := by decide +kernel
theorem dX0_addChange_71 : decode cX0_addChange 71 = .ok (.aaload, 1) := by decide +kernel
theorem dX0_addChange_72 : decode cX0_addChange 72 = .ok (.aload_n 0, 1) := by decide +kernel
theorem dX0_addChange_73 : decode cX0_addChange 73 = .ok (.getfield 13, 3) := by decide +kernel
theorem dX0_addChange_76 : decode cX0_addChange 76 = .ok (.iload_n 3, 1) := by decide +kernel
theorem dX0_addChange_77 : decode cX0_addChange 77 = .ok (.iaload, 1) := by decide +kernel
theorem dX0_addChange_78 : decode cX0_addChange 78 = .ok (.iload_n 3, 1) := by decide +kernel
theorem dX0_addChange_79 : decode cX0_addChange 79 = .ok (.iastore, 1) := by decide +kernel
theorem dX0_addChange_80 : decode cX0_addChange 80 = .ok (.aload_n 0, 1) := by decide +kernel
theorem dX0_addChange_81 : decode cX0_addChange 81 = .ok (.dup, 1) := by decide +kernel
theorem dX0_addChange_82 : decode cX0_addChange 82 = .ok (.getfield 24, 3) := by decide +kernel
theorem dX0_addChange_85 : decode cX0_addChange 85 = .ok (.iconst 1, 1) := by decide +kernel
theorem dX0_addChange_86 : decode cX0_addChange 86 = .ok (.iadd, 1) := by decide +kernel
theorem dX0_addChange_87 : decode cX0_addChange 87 = .ok (.putfield 24, 3) := by decide +kernel
theorem dX0_addChange_90 : decode cX0_addChange 90 = .ok (.iload_n 3, 1) := by decide +kernel
theorem dX0_addChange_91 : decode cX0_addChange 91 = .ok (.ireturn, 1) := by decide +kernel
theorem dX0_weave_0 : decode cX0_weave 0 = .ok (.iload_n 2, 1) := by decide +kernel
theorem dX0_weave_1 : decode cX0_weave 1 = .ok (.iconst 1, 1) := by decide +kernel
theorem dX0_weave_2 : decode cX0_weave 2 = .ok (.iadd, 1) := by decide +kernel
theorem dX0_weave_3 : decode cX0_weave 3 = .ok (.istore_n 3, 1) := by decide +kernel
theorem dX0_weave_4 : decode cX0_weave 4 = .ok (.iload_n 3, 1) := by decide +kernel
theorem dX0_weave_5 : decode cX0_weave 5 = .ok (.aload_n 0, 1) := by decide +kernel
theorem dX0_weave_6 : decode cX0_weave 6 = .ok (.getfield 40, 3) := by decide +kernel
theorem dX0_weave_9 : decode cX0_weave 9 = .ok (.if_icmp .ge 29, 3) := by decide +kernel
theorem dX0_weave_12 : decode cX0_weave 12 = .ok (.aload_n 0, 1) := by decide +kernel
theorem dX0_weave_13 : decode cX0_weave 13 = .ok (.getfield 31, 3) := by decide +kernel
theorem dX0_weave_16 : decode cX0_weave 16 = .ok (.aload_n 0, 1) := by decide +kernel
theorem dX0_weave_17 : decode cX0_weave 17 = .ok (.getfield 37, 3) := by decide +kernel
theorem dX0_weave_20 : decode cX0_weave 20 = .ok (.iload_n 3, 1) := by decide +kernel
theorem dX0_weave_21 : decode cX0_weave 21 = .ok (.iaload, 1) := by decide +kernel
theorem dX0_weave_22 : decode cX0_weave 22 = .ok (.iaload, 1) := by decide +kernel
theorem dX0_weave_23 : decode cX0_weave 23 = .ok (.aload_n 0, 1) := by decide +kernel
theorem dX0_weave_24 : decode cX0_weave 24 = .ok (.getfield 31, 3) := by decide +kernel
theorem dX0_weave_27 : decode cX0_weave 27 = .ok (.iload_n 1, 1) := by decide +kernel
theorem dX0_weave_28 : decode cX0_weave 28 = .ok (.iaload, 1) := by decide +kernel
theorem dX0_weave_29 : decode cX0_weave 29 = .ok (.if_icmp .le 9, 3) := by decide +kernel
theorem dX0_weave_32 : decode cX0_weave 32 = .ok (.iinc 3 1, 3) := by decide +kernel
theorem dX0_weave_35 : decode cX0_weave 35 = .ok (.goto (-31), 3) := by decide +kernel
theorem dX0_weave_38 : decode cX0_weave 38 = .ok (.aload_n 0, 1) := by decide +kernel
theorem dX0_weave_39 : decode cX0_weave 39 = .ok (.getfield 37, 3) := by decide +kernel
theorem dX0_weave_42 : decode cX0_weave 42 = .ok (.iload_n 3, 1) := by decide +kernel
theorem dX0_weave_43 : decode cX0_weave 43 = .ok (.aload_n 0, 1) := by decide +kernel
theorem dX0_weave_44 : decode cX0_weave 44 = .ok (.getfield 37, 3) := by decide +kernel
theorem dX0_weave_47 : decode cX0_weave 47 = .ok (.iload_n 3, 1) := by decide +kernel
theorem dX0_weave_48 : decode cX0_weave 48 = .ok (.iconst 1, 1) := by decide +kernel
theorem dX0_weave_49 : decode cX0_weave 49 = .ok (.iadd, 1) := by decide +kernel
theorem dX0_weave_50 : decode cX0_weave 50 = .ok (.aload_n 0, 1) := by decide +kernel
theorem dX0_weave_51 : decode cX0_weave 51 = .ok (.getfield 40, 3) := by decide +kernel
theorem dX0_weave_54 : decode cX0_weave 54 = .ok (.iload_n 3, 1) := by decide +kernel
theorem dX0_weave_55 : decode cX0_weave 55 = .ok (.isub, 1) := by decide +kernel
theorem dX0_weave_56 : decode cX0_weave 56 = .ok (.invokestatic 113, 3) := by decide +kernel
theorem dX0_weave_59 : decode cX0_weave 59 = .ok (.aload_n 0, 1) := by decide +kernel
theorem dX0_weave_60 : decode cX0_weave 60 = .ok (.getfield 37, 3) := by decide +kernel
theorem dX0_weave_63 : decode cX0_weave 63 = .ok (.iload_n 3, 1) := by decide +kernel
theorem dX0_weave_64 : decode cX0_weave 64 = .ok (.iload_n 1, 1) := by decide +kernel
theorem dX0_weave_65 : decode cX0_weave 65 = .ok (.iastore, 1) := by decide +kernel
theorem dX0_weave_66 : decode cX0_weave 66 = .ok (.aload_n 0, 1) := by decide +kernel
theorem dX0_weave_67 : decode cX0_weave 67 = .ok (.dup, 1) := by decide +kernel
theorem dX0_weave_68 : decode cX0_weave 68 = .ok (.getfield 40, 3) := by decide +kernel
theorem dX0_weave_71 : decode cX0_weave 71 = .ok (.iconst 1, 1) := by decide +kernel
theorem dX0_weave_72 : decode cX0_weave 72 = .ok (.iadd, 1) := by decide +kernel
theorem dX0_weave_73 : decode cX0_weave 73 = .ok (.putfield 40, 3) := by decide +kernel
theorem dX0_weave_76 : decode cX0_weave 76 = .ok (.return_, 1) := by decide +kernel
theorem dX0_receive_0 : decode cX0_receive 0 = .ok (.aload_n 0, 1) := by decide +kernel
theorem dX0_receive_1 : decode cX0_receive 1 = .ok (.getfield 46, 3) := by decide +kernel
theorem dX0_receive_4 : decode cX0_receive 4 = .ok (.iload_n 1, 1) := by decide +kernel
theorem dX0_receive_5 : decode cX0_receive 5 = .ok (.aaload, 1) := by decide +kernel
theorem dX0_receive_6 : decode cX0_receive 6 = .ok (.aload_n 0, 1) := by decide +kernel
theorem dX0_receive_7 : decode cX0_receive 7 = .ok (.getfield 9, 3) := by decide +kernel
theorem dX0_receive_10 : decode cX0_receive 10 = .ok (.iload_n 2, 1) := by decide +kernel
theorem dX0_receive_11 : decode cX0_receive 11 = .ok (.iaload, 1) := by decide +kernel
theorem dX0_receive_12 : decode cX0_receive 12 = .ok (.aload_n 0, 1) := by decide +kernel
theorem dX0_receive_13 : decode cX0_receive 13 = .ok (.getfield 13, 3) := by decide +kernel
theorem dX0_receive_16 : decode cX0_receive 16 = .ok (.iload_n 2, 1) := by decide +kernel
theorem dX0_receive_17 : decode cX0_receive 17 = .ok (.iaload, 1) := by decide +kernel
theorem dX0_receive_18 : decode cX0_receive 18 = .ok (.iconst 1, 1) := by decide +kernel
theorem dX0_receive_19 : decode cX0_receive 19 = .ok (.iadd, 1) := by decide +kernel
theorem dX0_receive_20 : decode cX0_receive 20 = .ok (.iastore, 1) := by decide +kernel
theorem dX0_receive_21 : decode cX0_receive 21 = .ok (.aload_n 0, 1) := by decide +kernel
theorem dX0_receive_22 : decode cX0_receive 22 = .ok (.getfield 16, 3) := by decide +kernel
theorem dX0_receive_25 : decode cX0_receive 25 = .ok (.iload_n 2, 1) := by decide +kernel
theorem dX0_receive_26 : decode cX0_receive 26 = .ok (.iaload, 1) := by decide +kernel
theorem dX0_receive_27 : decode cX0_receive 27 = .ok (.iconst (-1), 1) := by decide +kernel
theorem dX0_receive_28 : decode cX0_receive 28 = .ok (.if_icmp .ne 12, 3) := by decide +kernel
theorem dX0_receive_31 : decode cX0_receive 31 = .ok (.aload_n 0, 1) := by decide +kernel
theorem dX0_receive_32 : decode cX0_receive 32 = .ok (.iload_n 1, 1) := by decide +kernel
theorem dX0_receive_33 : decode cX0_receive 33 = .ok (.iload_n 2, 1) := by decide +kernel
theorem dX0_receive_34 : decode cX0_receive 34 = .ok (.invokevirtual 119, 3) := by decide +kernel
theorem dX0_receive_37 : decode cX0_receive 37 = .ok (.goto 14, 3) := by decide +kernel
theorem dX0_receive_40 : decode cX0_receive 40 = .ok (.aload_n 0, 1) := by decide +kernel
theorem dX0_receive_41 : decode cX0_receive 41 = .ok (.iload_n 1, 1) := by decide +kernel
theorem dX0_receive_42 : decode cX0_receive 42 = .ok (.aload_n 0, 1) := by decide +kernel
theorem dX0_receive_43 : decode cX0_receive 43 = .ok (.getfield 16, 3) := by decide +kernel
theorem dX0_receive_46 : decode cX0_receive 46 = .ok (.iload_n 2, 1) := by decide +kernel
theorem dX0_receive_47 : decode cX0_receive 47 = .ok (.iaload, 1) := by decide +kernel
theorem dX0_receive_48 : decode cX0_receive 48 = .ok (.invokevirtual 122, 3) := by decide +kernel
theorem dX0_receive_51 : decode cX0_receive 51 = .ok (.return_, 1) := by decide +kernel
theorem dX0_showLetter_0 : decode cX0_showLetter 0 = .ok (.aload_n 0, 1) := by decide +kernel
theorem dX0_showLetter_1 : decode cX0_showLetter 1 = .ok (.getfield 34, 3) := by decide +kernel
theorem dX0_showLetter_4 : decode cX0_showLetter 4 = .ok (.iload_n 2, 1) := by decide +kernel
theorem dX0_showLetter_5 : decode cX0_showLetter 5 = .ok (.dup2, 1) := by decide +kernel
theorem dX0_showLetter_6 : decode cX0_showLetter 6 = .ok (.iaload, 1) := by decide +kernel
theorem dX0_showLetter_7 : decode cX0_showLetter 7 = .ok (.iconst 1, 1) := by decide +kernel
theorem dX0_showLetter_8 : decode cX0_showLetter 8 = .ok (.iload_n 1, 1) := by decide +kernel
theorem dX0_showLetter_9 : decode cX0_showLetter 9 = .ok (.ishl, 1) := by decide +kernel
theorem dX0_showLetter_10 : decode cX0_showLetter 10 = .ok (.ior, 1) := by decide +kernel
theorem dX0_showLetter_11 : decode cX0_showLetter 11 = .ok (.iastore, 1) := by decide +kernel
theorem dX0_showLetter_12 : decode cX0_showLetter 12 = .ok (.aload_n 0, 1) := by decide +kernel
theorem dX0_showLetter_13 : decode cX0_showLetter 13 = .ok (.getfield 52, 3) := by decide +kernel
theorem dX0_showLetter_16 : decode cX0_showLetter 16 = .ok (.iload_n 1, 1) := by decide +kernel
theorem dX0_showLetter_17 : decode cX0_showLetter 17 = .ok (.dup2, 1) := by decide +kernel
theorem dX0_showLetter_18 : decode cX0_showLetter 18 = .ok (.iaload, 1) := by decide +kernel
theorem dX0_showLetter_19 : decode cX0_showLetter 19 = .ok (.iconst 1, 1) := by decide +kernel
theorem dX0_showLetter_20 : decode cX0_showLetter 20 = .ok (.iadd, 1) := by decide +kernel
theorem dX0_showLetter_21 : decode cX0_showLetter 21 = .ok (.iastore, 1) := by decide +kernel
theorem dX0_showLetter_22 : decode cX0_showLetter 22 = .ok (.aload_n 0, 1) := by decide +kernel
theorem dX0_showLetter_23 : decode cX0_showLetter 23 = .ok (.getfield 49, 3) := by decide +kernel
theorem dX0_showLetter_26 : decode cX0_showLetter 26 = .ok (.iload_n 1, 1) := by decide +kernel
theorem dX0_showLetter_27 : decode cX0_showLetter 27 = .ok (.aload_n 0, 1) := by decide +kernel
theorem dX0_showLetter_28 : decode cX0_showLetter 28 = .ok (.getfield 49, 3) := by decide +kernel
theorem dX0_showLetter_31 : decode cX0_showLetter 31 = .ok (.iload_n 1, 1) := by decide +kernel
theorem dX0_showLetter_32 : decode cX0_showLetter 32 = .ok (.iaload, 1) := by decide +kernel
theorem dX0_showLetter_33 : decode cX0_showLetter 33 = .ok (.aload_n 0, 1) := by decide +kernel
theorem dX0_showLetter_34 : decode cX0_showLetter 34 = .ok (.getfield 31, 3) := by decide +kernel
theorem dX0_showLetter_37 : decode cX0_showLetter 37 = .ok (.iload_n 2, 1) := by decide +kernel
theorem dX0_showLetter_38 : decode cX0_showLetter 38 = .ok (.iaload, 1) := by decide +kernel
theorem dX0_showLetter_39 : decode cX0_showLetter 39 = .ok (.iconst 4, 1) := by decide +kernel
theorem dX0_showLetter_40 : decode cX0_showLetter 40 = .ok (.idiv, 1) := by decide +kernel
theorem dX0_showLetter_41 : decode cX0_showLetter 41 = .ok (.invokestatic 125, 3) := by decide +kernel
theorem dX0_showLetter_44 : decode cX0_showLetter 44 = .ok (.iastore, 1) := by decide +kernel
theorem dX0_showLetter_45 : decode cX0_showLetter 45 = .ok (.return_, 1) := by decide +kernel
theorem dX0_hideLetter_0 : decode cX0_hideLetter 0 = .ok (.aload_n 0, 1) := by decide +kernel
theorem dX0_hideLetter_1 : decode cX0_hideLetter 1 = .ok (.iload_n 1, 1) := by decide +kernel
theorem dX0_hideLetter_2 : decode cX0_hideLetter 2 = .ok (.iload_n 2, 1) := by decide +kernel
theorem dX0_hideLetter_3 : decode cX0_hideLetter 3 = .ok (.invokevirtual 110, 3) := by decide +kernel
theorem dX0_hideLetter_6 : decode cX0_hideLetter 6 = .ok (.ifCond .eq 27, 3) := by decide +kernel
theorem dX0_hideLetter_9 : decode cX0_hideLetter 9 = .ok (.aload_n 0, 1) := by decide +kernel
theorem dX0_hideLetter_10 : decode cX0_hideLetter 10 = .ok (.getfield 34, 3) := by decide +kernel
theorem dX0_hideLetter_13 : decode cX0_hideLetter 13 = .ok (.iload_n 2, 1) := by decide +kernel
theorem dX0_hideLetter_14 : decode cX0_hideLetter 14 = .ok (.dup2, 1) := by decide +kernel
theorem dX0_hideLetter_15 : decode cX0_hideLetter 15 = .ok (.iaload, 1) := by decide +kernel
theorem dX0_hideLetter_16 : decode cX0_hideLetter 16 = .ok (.iconst 1, 1) := by decide +kernel
theorem dX0_hideLetter_17 : decode cX0_hideLetter 17 = .ok (.iload_n 1, 1) := by decide +kernel
theorem dX0_hideLetter_18 : decode cX0_hideLetter 18 = .ok (.ishl, 1) := by decide +kernel
theorem dX0_hideLetter_19 : decode cX0_hideLetter 19 = .ok (.iconst (-1), 1) := by decide +kernel
theorem dX0_hideLetter_20 : decode cX0_hideLetter 20 = .ok (.ixor, 1) := by decide +kernel
theorem dX0_hideLetter_21 : decode cX0_hideLetter 21 = .ok (.iand, 1) := by decide +kernel
theorem dX0_hideLetter_22 : decode cX0_hideLetter 22 = .ok (.iastore, 1) := by decide +kernel
theorem dX0_hideLetter_23 : decode cX0_hideLetter 23 = .ok (.aload_n 0, 1) := by decide +kernel
theorem dX0_hideLetter_24 : decode cX0_hideLetter 24 = .ok (.getfield 52, 3) := by decide +kernel
theorem dX0_hideLetter_27 : decode cX0_hideLetter 27 = .ok (.iload_n 1, 1) := by decide +kernel
theorem dX0_hideLetter_28 : decode cX0_hideLetter 28 = .ok (.dup2, 1) := by decide +kernel
theorem dX0_hideLetter_29 : decode cX0_hideLetter 29 = .ok (.iaload, 1) := by decide +kernel
theorem dX0_hideLetter_30 : decode cX0_hideLetter 30 = .ok (.iconst 1, 1) := by decide +kernel
theorem dX0_hideLetter_31 : decode cX0_hideLetter 31 = .ok (.isub, 1) := by decide +kernel
theorem dX0_hideLetter_32 : decode cX0_hideLetter 32 = .ok (.iastore, 1) := by decide +kernel
theorem dX0_hideLetter_33 : decode cX0_hideLetter 33 = .ok (.return_, 1) := by decide +kernel
end
section
theorem dX1_init_0 : decode cX1_init 0 = .ok (.aload_n 0, 1) := by decide +kernel
theorem dX1_init_1 : decode cX1_init 1 = .ok (.invokespecial 3, 3) := by decide +kernel
theorem dX1_init_4 : decode cX1_init 4 = .ok (.aload_n 0, 1) := by decide +kernel
theorem dX1_init_5 : decode cX1_init 5 = .ok (.sipush 1601, 3) := by decide +kernel
theorem dX1_init_8 : decode cX1_init 8 = .ok (.newarray .int, 2) := by decide +kernel
theorem dX1_init_10 : decode cX1_init 10 = .ok (.putfield 9, 3) := by decide +kernel
theorem dX1_init_13 : decode cX1_init 13 = .ok (.aload_n 0, 1) := by decide +kernel
theorem dX1_init_14 : decode cX1_init 14 = .ok (.sipush 1601, 3) := by decide +kernel
theorem dX1_init_17 : decode cX1_init 17 = .ok (.newarray .int, 2) := by decide +kernel
theorem dX1_init_19 : decode cX1_init 19 = .ok (.putfield 13, 3) := by decide +kernel
theorem dX1_init_22 : decode cX1_init 22 = .ok (.aload_n 0, 1) := by decide +kernel
theorem dX1_init_23 : decode cX1_init 23 = .ok (.sipush 1601, 3) := by decide +kernel
theorem dX1_init_26 : decode cX1_init 26 = .ok (.newarray .int, 2) := by decide +kernel
theorem dX1_init_28 : decode cX1_init 28 = .ok (.putfield 16, 3) := by decide +kernel
theorem dX1_init_31 : decode cX1_init 31 = .ok (.aload_n 0, 1) := by decide +kernel
theorem dX1_init_32 : decode cX1_init 32 = .ok (.sipush 1601, 3) := by decide +kernel
theorem dX1_init_35 : decode cX1_init 35 = .ok (.newarray .int, 2) := by decide +kernel
theorem dX1_init_37 : decode cX1_init 37 = .ok (.putfield 19, 3) := by decide +kernel
theorem dX1_init_40 : decode cX1_init 40 = .ok (.aload_n 0, 1) := by decide +kernel
theorem dX1_init_41 : decode cX1_init 41 = .ok (.sipush 1601, 3) := by decide +kernel
theorem dX1_init_44 : decode cX1_init 44 = .ok (.newarray .int, 2) := by decide +kernel
theorem dX1_init_46 : decode cX1_init 46 = .ok (.putfield 22, 3) := by decide +kernel
theorem dX1_init_49 : decode cX1_init 49 = .ok (.aload_n 0, 1) := by decide +kernel
theorem dX1_init_50 : decode cX1_init 50 = .ok (.sipush 1601, 3) := by decide +kernel
theorem dX1_init_53 : decode cX1_init 53 = .ok (.newarray .int, 2) := by decide +kernel
theorem dX1_init_55 : decode cX1_init 55 = .ok (.putfield 25, 3) := by decide +kernel
theorem dX1_init_58 : decode cX1_init 58 = .ok (.aload_n 0, 1) := by decide +kernel
theorem dX1_init_59 : decode cX1_init 59 = .ok (.sipush 1601, 3) := by decide +kernel
theorem dX1_init_62 : decode cX1_init 62 = .ok (.newarray .int, 2) := by decide +kernel
theorem dX1_init_64 : decode cX1_init 64 = .ok (.putfield 28, 3) := by decide +kernel
theorem dX1_init_67 : decode cX1_init 67 = .ok (.aload_n 0, 1) := by decide +kernel
theorem dX1_init_68 : decode cX1_init 68 = .ok (.iconst 1, 1) := by decide +kernel
theorem dX1_init_69 : decode cX1_init 69 = .ok (.putfield 31, 3) := by decide +kernel
theorem dX1_init_72 : decode cX1_init 72 = .ok (.aload_n 0, 1) := by decide +kernel
theorem dX1_init_73 : decode cX1_init 73 = .ok (.sipush 1600, 3) := by decide +kernel
theorem dX1_init_76 : decode cX1_init 76 = .ok (.newarray .int, 2) := by decide +kernel
theorem dX1_init_78 : decode cX1_init 78 = .ok (.putfield 35, 3) := by decide +kernel
theorem dX1_init_81 : decode cX1_init 81 = .ok (.aload_n 0, 1) := by decide +kernel
theorem dX1_init_82 : decode cX1_init 82 = .ok (.sipush 6400, 3) := by decide +kernel
theorem dX1_init_85 : decode cX1_init 85 = .ok (.newarray .int, 2) := by decide +kernel
theorem dX1_init_87 : decode cX1_init 87 = .ok (.putfield 38, 3) := by decide +kernel
theorem dX1_init_90 : decode cX1_init 90 = .ok (.aload_n 0, 1) := by decide +kernel
theorem dX1_init_91 : decode cX1_init 91 = .ok (.iconst 4, 1) := by decide +kernel
theorem dX1_init_92 : decode cX1_init 92 = .ok (.newarray .int, 2) := by decide +kernel
theorem dX1_init_94 : decode cX1_init 94 = .ok (.putfield 41, 3) := by decide +kernel
theorem dX1_init_97 : decode cX1_init 97 = .ok (.aload_n 0, 1) := by decide +kernel
theorem dX1_init_98 : decode cX1_init 98 = .ok (.bipush 16, 2) := by decide +kernel
theorem dX1_init_100 : decode cX1_init 100 = .ok (.newarray .int, 2) := by decide +kernel
theorem dX1_init_102 : decode cX1_init 102 = .ok (.putfield 44, 3) := by decide +kernel
theorem dX1_init_105 : decode cX1_init 105 = .ok (.aload_n 0, 1) := by decide +kernel
theorem dX1_init_106 : decode cX1_init 106 = .ok (.sipush 1601, 3) := by decide +kernel
theorem dX1_init_109 : decode cX1_init 109 = .ok (.newarray .int, 2) := by decide +kernel
theorem dX1_init_111 : decode cX1_init 111 = .ok (.putfield 47, 3) := by decide +kernel
theorem dX1_init_114 : decode cX1_init 114 = .ok (.aload_n 0, 1) := by decide +kernel
theorem dX1_init_115 : decode cX1_init 115 = .ok (.sipush 1601, 3) := by decide +kernel
theorem dX1_init_118 : decode cX1_init 118 = .ok (.newarray .boolean, 2) := by decide +kernel
theorem dX1_init_120 : decode cX1_init 120 = .ok (.putfield 50, 3) := by decide +kernel
theorem dX1_init_123 : decode cX1_init 123 = .ok (.aload_n 0, 1) := by decide +kernel
theorem dX1_init_124 : decode cX1_init 124 = .ok (.iconst (-1), 1) := by decide +kernel
theorem dX1_init_125 : decode cX1_init 125 = .ok (.putfield 54, 3) := by decide +kernel
theorem dX1_init_128 : decode cX1_init 128 = .ok (.return_, 1) := by decide +kernel
theorem dX1_thrown_0 : decode cX1_thrown 0 = .ok (.aload_n 0, 1) := by decide +kernel
theorem dX1_thrown_1 : decode cX1_thrown 1 = .ok (.getfield 57, 3) := by decide +kernel
theorem dX1_thrown_4 : decode cX1_thrown 4 = .ok (.ireturn, 1) := by decide +kernel
theorem dX1_bad_0 : decode cX1_bad 0 = .ok (.aload_n 0, 1) := by decide +kernel
theorem dX1_bad_1 : decode cX1_bad 1 = .ok (.iload_n 1, 1) := by decide +kernel
theorem dX1_bad_2 : decode cX1_bad 2 = .ok (.ifCond .eq 7, 3) := by decide +kernel
theorem dX1_bad_5 : decode cX1_bad 5 = .ok (.iconst 1, 1) := by decide +kernel
theorem dX1_bad_6 : decode cX1_bad 6 = .ok (.goto 4, 3) := by decide +kernel
theorem dX1_bad_9 : decode cX1_bad 9 = .ok (.iconst 0, 1) := by decide +kernel
theorem dX1_bad_10 : decode cX1_bad 10 = .ok (.putfield 57, 3) := by decide +kernel
theorem dX1_bad_13 : decode cX1_bad 13 = .ok (.iload_n 1, 1) := by decide +kernel
theorem dX1_bad_14 : decode cX1_bad 14 = .ok (.ireturn, 1) := by decide +kernel
theorem dX1_isCopy_0 : decode cX1_isCopy 0 = .ok (.iload_n 0, 1) := by decide +kernel
theorem dX1_isCopy_1 : decode cX1_isCopy 1 = .ok (.ifCond .lt 12, 3) := by decide +kernel
theorem dX1_isCopy_4 : decode cX1_isCopy 4 = .ok (.iload_n 0, 1) := by decide +kernel
theorem dX1_isCopy_5 : decode cX1_isCopy 5 = .ok (.iconst 4, 1) := by decide +kernel
theorem dX1_isCopy_6 : decode cX1_isCopy 6 = .ok (.if_icmp .ge 7, 3) := by decide +kernel
theorem dX1_isCopy_9 : decode cX1_isCopy 9 = .ok (.iconst 1, 1) := by decide +kernel
theorem dX1_isCopy_10 : decode cX1_isCopy 10 = .ok (.goto 4, 3) := by decide +kernel
theorem dX1_isCopy_13 : decode cX1_isCopy 13 = .ok (.iconst 0, 1) := by decide +kernel
theorem dX1_isCopy_14 : decode cX1_isCopy 14 = .ok (.ireturn, 1) := by decide +kernel
theorem dX1_isIn_0 : decode cX1_isIn 0 = .ok (.aload_n 0, 1) := by decide +kernel
theorem dX1_isIn_1 : decode cX1_isIn 1 = .ok (.getfield 16, 3) := by decide +kernel
theorem dX1_isIn_4 : decode cX1_isIn 4 = .ok (.iload_n 2, 1) := by decide +kernel
theorem dX1_isIn_5 : decode cX1_isIn 5 = .ok (.iaload, 1) := by decide +kernel
theorem dX1_isIn_6 : decode cX1_isIn 6 = .ok (.aload_n 0, 1) := by decide +kernel
theorem dX1_isIn_7 : decode cX1_isIn 7 = .ok (.getfield 44, 3) := by decide +kernel
theorem dX1_isIn_10 : decode cX1_isIn 10 = .ok (.iconst 4, 1) := by decide +kernel
theorem dX1_isIn_11 : decode cX1_isIn 11 = .ok (.iload_n 1, 1) := by decide +kernel
theorem dX1_isIn_12 : decode cX1_isIn 12 = .ok (.imul, 1) := by decide +kernel
theorem dX1_isIn_13 : decode cX1_isIn 13 = .ok (.aload_n 0, 1) := by decide +kernel
theorem dX1_isIn_14 : decode cX1_isIn 14 = .ok (.getfield 13, 3) := by decide +kernel
theorem dX1_isIn_17 : decode cX1_isIn 17 = .ok (.iload_n 2, 1) := by decide +kernel
theorem dX1_isIn_18 : decode cX1_isIn 18 = .ok (.iaload, 1) := by decide +kernel
theorem dX1_isIn_19 : decode cX1_isIn 19 = .ok (.iadd, 1) := by decide +kernel
theorem dX1_isIn_20 : decode cX1_isIn 20 = .ok (.iaload, 1) := by decide +kernel
theorem dX1_isIn_21 : decode cX1_isIn 21 = .ok (.if_icmp .ge 7, 3) := by decide +kernel
theorem dX1_isIn_24 : decode cX1_isIn 24 = .ok (.iconst 1, 1) := by decide +kernel
theorem dX1_isIn_25 : decode cX1_isIn 25 = .ok (.goto 4, 3) := by decide +kernel
theorem dX1_isIn_28 : decode cX1_isIn 28 = .ok (.iconst 0, 1) := by decide +kernel
theorem dX1_isIn_29 : decode cX1_isIn 29 = .ok (.ireturn, 1) := by decide +kernel
theorem dX1_look_0 : decode cX1_look 0 = .ok (.aload_n 0, 1) := by decide +kernel
theorem dX1_look_1 : decode cX1_look 1 = .ok (.getfield 54, 3) := by decide +kernel
theorem dX1_look_4 : decode cX1_look 4 = .ok (.iload_n 1, 1) := by decide +kernel
theorem dX1_look_5 : decode cX1_look 5 = .ok (.if_icmp .ne 4, 3) := by decide +kernel
theorem dX1_look_8 : decode cX1_look 8 = .ok (.return_, 1) := by decide +kernel
theorem dX1_look_9 : decode cX1_look 9 = .ok (.aload_n 0, 1) := by decide +kernel
theorem dX1_look_10 : decode cX1_look 10 = .ok (.iload_n 1, 1) := by decide +kernel
theorem dX1_look_11 : decode cX1_look 11 = .ok (.putfield 54, 3) := by decide +kernel
theorem dX1_look_14 : decode cX1_look 14 = .ok (.aload_n 0, 1) := by decide +kernel
theorem dX1_look_15 : decode cX1_look 15 = .ok (.iconst 0, 1) := by decide +kernel
theorem dX1_look_16 : decode cX1_look 16 = .ok (.putfield 60, 3) := by decide +kernel
theorem dX1_look_19 : decode cX1_look 19 = .ok (.iconst 0, 1) := by decide +kernel
theorem dX1_look_20 : decode cX1_look 20 = .ok (.istore_n 2, 1) := by decide +kernel
theorem dX1_look_21 : decode cX1_look 21 = .ok (.iload_n 2, 1) := by decide +kernel
theorem dX1_look_22 : decode cX1_look 22 = .ok (.aload_n 0, 1) := by decide +kernel
theorem dX1_look_23 : decode cX1_look 23 = .ok (.getfield 31, 3) := by decide +kernel
theorem dX1_look_26 : decode cX1_look 26 = .ok (.if_icmp .ge 16, 3) := by decide +kernel
theorem dX1_look_29 : decode cX1_look 29 = .ok (.aload_n 0, 1) := by decide +kernel
theorem dX1_look_30 : decode cX1_look 30 = .ok (.getfield 50, 3) := by decide +kernel
theorem dX1_look_33 : decode cX1_look 33 = .ok (.iload_n 2, 1) := by decide +kernel
theorem dX1_look_34 : decode cX1_look 34 = .ok (.iconst 0, 1) := by decide +kernel
theorem dX1_look_35 : decode cX1_look 35 = .ok (.bastore, 1) := by decide +kernel
theorem dX1_look_36 : decode cX1_look 36 = .ok (.iinc 2 1, 3) := by decide +kernel
theorem dX1_look_39 : decode cX1_look 39 = .ok (.goto (-18), 3) := by decide +kernel
theorem dX1_look_42 : decode cX1_look 42 = .ok (.iconst 0, 1) := by decide +kernel
theorem dX1_look_43 : decode cX1_look 43 = .ok (.istore_n 2, 1) := by decide +kernel
theorem dX1_look_44 : decode cX1_look 44 = .ok (.iload_n 2, 1) := by decide +kernel
theorem dX1_look_45 : decode cX1_look 45 = .ok (.iconst 4, 1) := by decide +kernel
theorem dX1_look_46 : decode cX1_look 46 = .ok (.if_icmp .ge 65, 3) := by decide +kernel
theorem dX1_look_49 : decode cX1_look 49 = .ok (.iconst 0, 1) := by decide +kernel
theorem dX1_look_50 : decode cX1_look 50 = .ok (.istore_n 3, 1) := by decide +kernel
theorem dX1_look_51 : decode cX1_look 51 = .ok (.iload_n 3, 1) := by decide +kernel
theorem dX1_look_52 : decode cX1_look 52 = .ok (.aload_n 0, 1) := by decide +kernel
theorem dX1_look_53 : decode cX1_look 53 = .ok (.getfield 44, 3) := by decide +kernel
theorem dX1_look_56 : decode cX1_look 56 = .ok (.iconst 4, 1) := by decide +kernel
theorem dX1_look_57 : decode cX1_look 57 = .ok (.iload_n 1, 1) := by decide +kernel
theorem dX1_look_58 : decode cX1_look 58 = .ok (.imul, 1) := by decide +kernel
theorem dX1_look_59 : decode cX1_look 59 = .ok (.iload_n 2, 1) := by decide +kernel
theorem dX1_look_60 : decode cX1_look 60 = .ok (.iadd, 1) := by decide +kernel
theorem dX1_look_61 : decode cX1_look 61 = .ok (.iaload, 1) := by decide +kernel
theorem dX1_look_62 : decode cX1_look 62 = .ok (.if_icmp .ge 43, 3) := by decide +kernel
theorem dX1_look_65 : decode cX1_look 65 = .ok (.aload_n 0, 1) := by decide +kernel
theorem dX1_look_66 : decode cX1_look 66 = .ok (.getfield 35, 3) := by decide +kernel
theorem dX1_look_69 : decode cX1_look 69 = .ok (.sipush 400, 3) := by decide +kernel
theorem dX1_look_72 : decode cX1_look 72 = .ok (.iload_n 2, 1) := by decide +kernel
theorem dX1_look_73 : decode cX1_look 73 = .ok (.imul, 1) := by decide +kernel
theorem dX1_look_74 : decode cX1_look 74 = .ok (.iload_n 3, 1) := by decide +kernel
theorem dX1_look_75 : decode cX1_look 75 = .ok (.iadd, 1) := by decide +kernel
theorem dX1_look_76 : decode cX1_look 76 = .ok (.iaload, 1) := by decide +kernel
theorem dX1_look_77 : decode cX1_look 77 = .ok (.ifCond .ge 22, 3) := by decide +kernel
theorem dX1_look_80 : decode cX1_look 80 = .ok (.aload_n 0, 1) := by decide +kernel
theorem dX1_look_81 : decode cX1_look 81 = .ok (.getfield 50, 3) := by decide +kernel
theorem dX1_look_84 : decode cX1_look 84 = .ok (.aload_n 0, 1) := by decide +kernel
theorem dX1_look_85 : decode cX1_look 85 = .ok (.getfield 35, 3) := by decide +kernel
theorem dX1_look_88 : decode cX1_look 88 = .ok (.sipush 400, 3) := by decide +kernel
theorem dX1_look_91 : decode cX1_look 91 = .ok (.iload_n 2, 1) := by decide +kernel
theorem dX1_look_92 : decode cX1_look 92 = .ok (.imul, 1) := by decide +kernel
theorem dX1_look_93 : decode cX1_look 93 = .ok (.iload_n 3, 1) := by decide +kernel
theorem dX1_look_94 : decode cX1_look 94 = .ok (.iadd, 1) := by decide +kernel
theorem dX1_look_95 : decode cX1_look 95 = .ok (.iaload, 1) := by decide +kernel
theorem dX1_look_96 : decode cX1_look 96 = .ok (.ineg, 1) := by decide +kernel
theorem dX1_look_97 : decode cX1_look 97 = .ok (.iconst 1, 1) := by decide +kernel
theorem dX1_look_98 : decode cX1_look 98 = .ok (.bastore, 1) := by decide +kernel
theorem dX1_look_99 : decode cX1_look 99 = .ok (.iinc 3 1, 3) := by decide +kernel
theorem dX1_look_102 : decode cX1_look 102 = .ok (.goto (-51), 3) := by decide +kernel
theorem dX1_look_105 : decode cX1_look 105 = .ok (.iinc 2 1, 3) := by decide +kernel
theorem dX1_look_108 : decode cX1_look 108 = .ok (.goto (-64), 3) := by decide +kernel
theorem dX1_look_111 : decode cX1_look 111 = .ok (.iconst 0, 1) := by decide +kernel
theorem dX1_look_112 : decode cX1_look 112 = .ok (.istore_n 2, 1) := by decide +kernel
theorem dX1_look_113 : decode cX1_look 113 = .ok (.iconst 1, 1) := by decide +kernel
theorem dX1_look_114 : decode cX1_look 114 = .ok (.istore_n 3, 1) := by decide +kernel
theorem dX1_look_115 : decode cX1_look 115 = .ok (.iload_n 3, 1) := by decide +kernel
theorem dX1_look_116 : decode cX1_look 116 = .ok (.ifCond .eq 12, 3) := by decide +kernel
theorem dX1_look_119 : decode cX1_look 119 = .ok (.aload_n 0, 1) := by decide +kernel
theorem dX1_look_120 : decode cX1_look 120 = .ok (.getfield 22, 3) := by decide +kernel
theorem dX1_look_123 : decode cX1_look 123 = .ok (.iload_n 2, 1) := by decide +kernel
theorem dX1_look_124 : decode cX1_look 124 = .ok (.iaload, 1) := by decide +kernel
theorem dX1_look_125 : decode cX1_look 125 = .ok (.goto 9, 3) := by decide +kernel
theorem dX1_look_128 : decode cX1_look 128 = .ok (.aload_n 0, 1) := by decide +kernel
theorem dX1_look_129 : decode cX1_look 129 = .ok (.getfield 25, 3) := by decide +kernel
theorem dX1_look_132 : decode cX1_look 132 = .ok (.iload_n 2, 1) := by decide +kernel
theorem dX1_look_133 : decode cX1_look 133 = .ok (.iaload, 1) := by decide +kernel
theorem dX1_look_134 : decode cX1_look 134 = .ok (.istore 4, 2) := by decide +kernel
theorem dX1_look_136 : decode cX1_look 136 = .ok (.iload 4, 2) := by decide +kernel
theorem dX1_look_138 : decode cX1_look 138 = .ok (.ifCond .eq 25, 3) := by decide +kernel
theorem dX1_look_141 : decode cX1_look 141 = .ok (.aload_n 0, 1) := by decide +kernel
theorem dX1_look_142 : decode cX1_look 142 = .ok (.iload_n 1, 1) := by decide +kernel
theorem dX1_look_143 : decode cX1_look 143 = .ok (.iload 4, 2) := by decide +kernel
theorem dX1_look_145 : decode cX1_look 145 = .ok (.invokevirtual 63, 3) := by decide +kernel
theorem dX1_look_148 : decode cX1_look 148 = .ok (.ifCond .ne 15, 3) := by decide +kernel
theorem dX1_look_151 : decode cX1_look 151 = .ok (.aload_n 0, 1) := by decide +kernel
theorem dX1_look_152 : decode cX1_look 152 = .ok (.getfield 25, 3) := by decide +kernel
theorem dX1_look_155 : decode cX1_look 155 = .ok (.iload 4, 2) := by decide +kernel
theorem dX1_look_157 : decode cX1_look 157 = .ok (.iaload, 1) := by decide +kernel
theorem dX1_look_158 : decode cX1_look 158 = .ok (.istore 4, 2) := by decide +kernel
theorem dX1_look_160 : decode cX1_look 160 = .ok (.goto (-24), 3) := by decide +kernel
theorem dX1_look_163 : decode cX1_look 163 = .ok (.iload 4, 2) := by decide +kernel
theorem dX1_look_165 : decode cX1_look 165 = .ok (.ifCond .ne 29, 3) := by decide +kernel
theorem dX1_look_168 : decode cX1_look 168 = .ok (.iload_n 3, 1) := by decide +kernel
theorem dX1_look_169 : decode cX1_look 169 = .ok (.ifCond .eq 13, 3) := by decide +kernel
theorem dX1_look_172 : decode cX1_look 172 = .ok (.iload_n 2, 1) := by decide +kernel
theorem dX1_look_173 : decode cX1_look 173 = .ok (.ifCond .ne 4, 3) := by decide +kernel
theorem dX1_look_176 : decode cX1_look 176 = .ok (.return_, 1) := by decide +kernel
theorem dX1_look_177 : decode cX1_look 177 = .ok (.iconst 0, 1) := by decide +kernel
theorem dX1_look_178 : decode cX1_look 178 = .ok (.istore_n 3, 1) := by decide +kernel
theorem dX1_look_179 : decode cX1_look 179 = .ok (.goto (-64), 3) := by decide +kernel
theorem dX1_look_182 : decode cX1_look 182 = .ok (.aload_n 0, 1) := by decide +kernel
theorem dX1_look_183 : decode cX1_look 183 = .ok (.getfield 28, 3) := by decide +kernel
theorem dX1_look_186 : decode cX1_look 186 = .ok (.iload_n 2, 1) := by decide +kernel
theorem dX1_look_187 : decode cX1_look 187 = .ok (.iaload, 1) := by decide +kernel
theorem dX1_look_188 : decode cX1_look 188 = .ok (.istore_n 2, 1) := by decide +kernel
theorem dX1_look_189 : decode cX1_look 189 = .ok (.iload_n 2, 1) := by decide +kernel
theorem dX1_look_190 : decode cX1_look 190 = .ok (.ifCond .ne (-75), 3) := by decide +kernel
theorem dX1_look_193 : decode cX1_look 193 = .ok (.return_, 1) := by decide +kernel
theorem dX1_look_194 : decode cX1_look 194 = .ok (.iload 4, 2) := by decide +kernel
theorem dX1_look_196 : decode cX1_look 196 = .ok (.istore_n 2, 1) := by decide +kernel
theorem dX1_look_197 : decode cX1_look 197 = .ok (.iconst 1, 1) := by decide +kernel
theorem dX1_look_198 : decode cX1_look 198 = .ok (.istore_n 3, 1) := by decide +kernel
theorem dX1_look_199 : decode cX1_look 199 = .ok (.aload_n 0, 1) := by decide +kernel
theorem dX1_look_200 : decode cX1_look 200 = .ok (.getfield 50, 3) := by decide +kernel
theorem dX1_look_203 : decode cX1_look 203 = .ok (.iload_n 2, 1) := by decide +kernel
theorem dX1_look_204 : decode cX1_look 204 = .ok (.baload, 1) := by decide +kernel
theorem dX1_look_205 : decode cX1_look 205 = .ok (.ifCond .ne 23, 3) := by decide +kernel
theorem dX1_look_208 : decode cX1_look 208 = .ok (.aload_n 0, 1) := by decide +kernel
theorem dX1_look_209 : decode cX1_look 209 = .ok (.getfield 47, 3) := by decide +kernel
theorem dX1_look_212 : decode cX1_look 212 = .ok (.aload_n 0, 1) := by decide +kernel
theorem dX1_look_213 : decode cX1_look 213 = .ok (.getfield 60, 3) := by decide +kernel
theorem dX1_look_216 : decode cX1_look 216 = .ok (.iload_n 2, 1) := by decide +kernel
theorem dX1_look_217 : decode cX1_look 217 = .ok (.iastore, 1) := by decide +kernel
theorem dX1_look_218 : decode cX1_look 218 = .ok (.aload_n 0, 1) := by decide +kernel
theorem dX1_look_219 : decode cX1_look 219 = .ok (.dup, 1) := by decide +kernel
theorem dX1_look_220 : decode cX1_look 220 = .ok (.getfield 60, 3) := by decide +kernel
theorem dX1_look_223 : decode cX1_look 223 = .ok (.iconst 1, 1) := by decide +kernel
theorem dX1_look_224 : decode cX1_look 224 = .ok (.iadd, 1) := by decide +kernel
theorem dX1_look_225 : decode cX1_look 225 = .ok (.putfield 60, 3) := by decide +kernel
theorem dX1_look_228 : decode cX1_look 228 = .ok (.goto (-113), 3) := by decide +kernel
theorem dX1_isBefore_0 : decode cX1_isBefore 0 = .ok (.aload_n 0, 1) := by decide +kernel
theorem dX1_isBefore_1 : decode cX1_isBefore 1 = .ok (.getfield 9, 3) := by decide +kernel
theorem dX1_isBefore_4 : decode cX1_isBefore 4 = .ok (.iload_n 1, 1) := by decide +kernel
theorem dX1_isBefore_5 : decode cX1_isBefore 5 = .ok (.iaload, 1) := by decide +kernel
theorem dX1_isBefore_6 : decode cX1_isBefore 6 = .ok (.aload_n 0, 1) := by decide +kernel
theorem dX1_isBefore_7 : decode cX1_isBefore 7 = .ok (.getfield 9, 3) := by decide +kernel
theorem dX1_isBefore_10 : decode cX1_isBefore 10 = .ok (.iload_n 2, 1) := by decide +kernel
theorem dX1_isBefore_11 : decode cX1_isBefore 11 = .ok (.iaload, 1) := by decide +kernel
theorem dX1_isBefore_12 : decode cX1_isBefore 12 = .ok (.if_icmp .gt 33, 3) := by decide +kernel
theorem dX1_isBefore_15 : decode cX1_isBefore 15 = .ok (.aload_n 0, 1) := by decide +kernel
theorem dX1_isBefore_16 : decode cX1_isBefore 16 = .ok (.getfield 9, 3) := by decide +kernel
theorem dX1_isBefore_19 : decode cX1_isBefore 19 = .ok (.iload_n 1, 1) := by decide +kernel
theorem dX1_isBefore_20 : decode cX1_isBefore 20 = .ok (.iaload, 1) := by decide +kernel
theorem dX1_isBefore_21 : decode cX1_isBefore 21 = .ok (.aload_n 0, 1) := by decide +kernel
theorem dX1_isBefore_22 : decode cX1_isBefore 22 = .ok (.getfield 9, 3) := by decide +kernel
theorem dX1_isBefore_25 : decode cX1_isBefore 25 = .ok (.iload_n 2, 1) := by decide +kernel
theorem dX1_isBefore_26 : decode cX1_isBefore 26 = .ok (.iaload, 1) := by decide +kernel
theorem dX1_isBefore_27 : decode cX1_isBefore 27 = .ok (.if_icmp .ne 22, 3) := by decide +kernel
theorem dX1_isBefore_30 : decode cX1_isBefore 30 = .ok (.aload_n 0, 1) := by decide +kernel
theorem dX1_isBefore_31 : decode cX1_isBefore 31 = .ok (.getfield 13, 3) := by decide +kernel
theorem dX1_isBefore_34 : decode cX1_isBefore 34 = .ok (.iload_n 1, 1) := by decide +kernel
theorem dX1_isBefore_35 : decode cX1_isBefore 35 = .ok (.iaload, 1) := by decide +kernel
theorem dX1_isBefore_36 : decode cX1_isBefore 36 = .ok (.aload_n 0, 1) := by decide +kernel
theorem dX1_isBefore_37 : decode cX1_isBefore 37 = .ok (.getfield 13, 3) := by decide +kernel
theorem dX1_isBefore_40 : decode cX1_isBefore 40 = .ok (.iload_n 2, 1) := by decide +kernel
theorem dX1_isBefore_41 : decode cX1_isBefore 41 = .ok (.iaload, 1) := by decide +kernel
theorem dX1_isBefore_42 : decode cX1_isBefore 42 = .ok (.if_icmp .le 7, 3) := by decide +kernel
theorem dX1_isBefore_45 : decode cX1_isBefore 45 = .ok (.iconst 1, 1) := by decide +kernel
theorem dX1_isBefore_46 : decode cX1_isBefore 46 = .ok (.goto 4, 3) := by decide +kernel
theorem dX1_isBefore_49 : decode cX1_isBefore 49 = .ok (.iconst 0, 1) := by decide +kernel
theorem dX1_isBefore_50 : decode cX1_isBefore 50 = .ok (.ireturn, 1) := by decide +kernel
theorem dX1_done_0 : decode cX1_done 0 = .ok (.aload_n 0, 1) := by decide +kernel
theorem dX1_done_1 : decode cX1_done 1 = .ok (.getfield 41, 3) := by decide +kernel
theorem dX1_done_4 : decode cX1_done 4 = .ok (.iload_n 1, 1) := by decide +kernel
theorem dX1_done_5 : decode cX1_done 5 = .ok (.iaload, 1) := by decide +kernel
theorem dX1_done_6 : decode cX1_done 6 = .ok (.istore_n 3, 1) := by decide +kernel
theorem dX1_done_7 : decode cX1_done 7 = .ok (.aload_n 0, 1) := by decide +kernel
theorem dX1_done_8 : decode cX1_done 8 = .ok (.getfield 35, 3) := by decide +kernel
theorem dX1_done_11 : decode cX1_done 11 = .ok (.sipush 400, 3) := by decide +kernel
theorem dX1_done_14 : decode cX1_done 14 = .ok (.iload_n 1, 1) := by decide +kernel
theorem dX1_done_15 : decode cX1_done 15 = .ok (.imul, 1) := by decide +kernel
theorem dX1_done_16 : decode cX1_done 16 = .ok (.iload_n 3, 1) := by decide +kernel
theorem dX1_done_17 : decode cX1_done 17 = .ok (.iadd, 1) := by decide +kernel
theorem dX1_done_18 : decode cX1_done 18 = .ok (.iload_n 2, 1) := by decide +kernel
theorem dX1_done_19 : decode cX1_done 19 = .ok (.iastore, 1) := by decide +kernel
theorem dX1_done_20 : decode cX1_done 20 = .ok (.iconst 0, 1) := by decide +kernel
theorem dX1_done_21 : decode cX1_done 21 = .ok (.istore 4, 2) := by decide +kernel
theorem dX1_done_23 : decode cX1_done 23 = .ok (.iload 4, 2) := by decide +kernel
theorem dX1_done_25 : decode cX1_done 25 = .ok (.iconst 4, 1) := by decide +kernel
theorem dX1_done_26 : decode cX1_done 26 = .ok (.if_icmp .ge 37, 3) := by decide +kernel
theorem dX1_done_29 : decode cX1_done 29 = .ok (.aload_n 0, 1) := by decide +kernel
theorem dX1_done_30 : decode cX1_done 30 = .ok (.getfield 38, 3) := by decide +kernel
theorem dX1_done_33 : decode cX1_done 33 = .ok (.sipush 400, 3) := by decide +kernel
theorem dX1_done_36 : decode cX1_done 36 = .ok (.iload_n 1, 1) := by decide +kernel
theorem dX1_done_37 : decode cX1_done 37 = .ok (.imul, 1) := by decide +kernel
theorem dX1_done_38 : decode cX1_done 38 = .ok (.iload_n 3, 1) := by decide +kernel
theorem dX1_done_39 : decode cX1_done 39 = .ok (.iadd, 1) := by decide +kernel
theorem dX1_done_40 : decode cX1_done 40 = .ok (.iconst 4, 1) := by decide +kernel
theorem dX1_done_41 : decode cX1_done 41 = .ok (.imul, 1) := by decide +kernel
theorem dX1_done_42 : decode cX1_done 42 = .ok (.iload 4, 2) := by decide +kernel
theorem dX1_done_44 : decode cX1_done 44 = .ok (.iadd, 1) := by decide +kernel
theorem dX1_done_45 : decode cX1_done 45 = .ok (.aload_n 0, 1) := by decide +kernel
theorem dX1_done_46 : decode cX1_done 46 = .ok (.getfield 44, 3) := by decide +kernel
theorem dX1_done_49 : decode cX1_done 49 = .ok (.iconst 4, 1) := by decide +kernel
theorem dX1_done_50 : decode cX1_done 50 = .ok (.iload_n 1, 1) := by decide +kernel
theorem dX1_done_51 : decode cX1_done 51 = .ok (.imul, 1) := by decide +kernel
theorem dX1_done_52 : decode cX1_done 52 = .ok (.iload 4, 2) := by decide +kernel
theorem dX1_done_54 : decode cX1_done 54 = .ok (.iadd, 1) := by decide +kernel
theorem dX1_done_55 : decode cX1_done 55 = .ok (.iaload, 1) := by decide +kernel
theorem dX1_done_56 : decode cX1_done 56 = .ok (.iastore, 1) := by decide +kernel
theorem dX1_done_57 : decode cX1_done 57 = .ok (.iinc 4 1, 3) := by decide +kernel
theorem dX1_done_60 : decode cX1_done 60 = .ok (.goto (-37), 3) := by decide +kernel
theorem dX1_done_63 : decode cX1_done 63 = .ok (.aload_n 0, 1) := by decide +kernel
theorem dX1_done_64 : decode cX1_done 64 = .ok (.getfield 41, 3) := by decide +kernel
theorem dX1_done_67 : decode cX1_done 67 = .ok (.iload_n 1, 1) := by decide +kernel
theorem dX1_done_68 : decode cX1_done 68 = .ok (.dup2, 1) := by decide +kernel
theorem dX1_done_69 : decode cX1_done 69 = .ok (.iaload, 1) := by decide +kernel
theorem dX1_done_70 : decode cX1_done 70 = .ok (.iconst 1, 1) := by decide +kernel
theorem dX1_done_71 : decode cX1_done 71 = .ok (.iadd, 1) := by decide +kernel
theorem dX1_done_72 : decode cX1_done 72 = .ok (.iastore, 1) := by decide +kernel
theorem dX1_done_73 : decode cX1_done 73 = .ok (.aload_n 0, 1) := by decide +kernel
theorem dX1_done_74 : decode cX1_done 74 = .ok (.getfield 44, 3) := by decide +kernel
theorem dX1_done_77 : decode cX1_done 77 = .ok (.iconst 4, 1) := by decide +kernel
theorem dX1_done_78 : decode cX1_done 78 = .ok (.iload_n 1, 1) := by decide +kernel
theorem dX1_done_79 : decode cX1_done 79 = .ok (.imul, 1) := by decide +kernel
theorem dX1_done_80 : decode cX1_done 80 = .ok (.iload_n 1, 1) := by decide +kernel
theorem dX1_done_81 : decode cX1_done 81 = .ok (.iadd, 1) := by decide +kernel
theorem dX1_done_82 : decode cX1_done 82 = .ok (.dup2, 1) := by decide +kernel
theorem dX1_done_83 : decode cX1_done 83 = .ok (.iaload, 1) := by decide +kernel
theorem dX1_done_84 : decode cX1_done 84 = .ok (.iconst 1, 1) := by decide +kernel
theorem dX1_done_85 : decode cX1_done 85 = .ok (.iadd, 1) := by decide +kernel
theorem dX1_done_86 : decode cX1_done 86 = .ok (.iastore, 1) := by decide +kernel
theorem dX1_done_87 : decode cX1_done 87 = .ok (.aload_n 0, 1) := by decide +kernel
theorem dX1_done_88 : decode cX1_done 88 = .ok (.iconst (-1), 1) := by decide +kernel
theorem dX1_done_89 : decode cX1_done 89 = .ok (.putfield 54, 3) := by decide +kernel
theorem dX1_done_92 : decode cX1_done 92 = .ok (.iload_n 3, 1) := by decide +kernel
theorem dX1_done_93 : decode cX1_done 93 = .ok (.ireturn, 1) := by decide +kernel
theorem dX1_insert_0 : decode cX1_insert 0 = .ok (.aload_n 0, 1) := by decide +kernel
theorem dX1_insert_1 : decode cX1_insert 1 = .ok (.iload_n 1, 1) := by decide +kernel
theorem dX1_insert_2 : decode cX1_insert 2 = .ok (.invokestatic 67, 3) := by decide +kernel
theorem dX1_insert_5 : decode cX1_insert 5 = .ok (.ifCond .eq 14, 3) := by decide +kernel
theorem dX1_insert_8 : decode cX1_insert 8 = .ok (.iload_n 3, 1) := by decide +kernel
theorem dX1_insert_9 : decode cX1_insert 9 = .ok (.ifCond .lt 10, 3) := by decide +kernel
theorem dX1_insert_12 : decode cX1_insert 12 = .ok (.iload_n 3, 1) := by decide +kernel
theorem dX1_insert_13 : decode cX1_insert 13 = .ok (.sipush 255, 3) := by decide +kernel
theorem dX1_insert_16 : decode cX1_insert 16 = .ok (.if_icmp .le 7, 3) := by decide +kernel
theorem dX1_insert_19 : decode cX1_insert 19 = .ok (.iconst 1, 1) := by decide +kernel
theorem dX1_insert_20 : decode cX1_insert 20 = .ok (.goto 4, 3) := by decide +kernel
theorem dX1_insert_23 : decode cX1_insert 23 = .ok (.iconst 0, 1) := by decide +kernel
theorem dX1_insert_24 : decode cX1_insert 24 = .ok (.invokevirtual 71, 3) := by decide +kernel
theorem dX1_insert_27 : decode cX1_insert 27 = .ok (.ifCond .eq 5, 3) := by decide +kernel
theorem dX1_insert_30 : decode cX1_insert 30 = .ok (.iconst 0, 1) := by decide +kernel
theorem dX1_insert_31 : decode cX1_insert 31 = .ok (.ireturn, 1) := by decide +kernel
theorem dX1_insert_32 : decode cX1_insert 32 = .ok (.aload_n 0, 1) := by decide +kernel
theorem dX1_insert_33 : decode cX1_insert 33 = .ok (.iload_n 1, 1) := by decide +kernel
theorem dX1_insert_34 : decode cX1_insert 34 = .ok (.invokevirtual 75, 3) := by decide +kernel
theorem dX1_insert_37 : decode cX1_insert 37 = .ok (.aload_n 0, 1) := by decide +kernel
theorem dX1_insert_38 : decode cX1_insert 38 = .ok (.iload_n 2, 1) := by decide +kernel
theorem dX1_insert_39 : decode cX1_insert 39 = .ok (.ifCond .lt 11, 3) := by decide +kernel
theorem dX1_insert_42 : decode cX1_insert 42 = .ok (.iload_n 2, 1) := by decide +kernel
theorem dX1_insert_43 : decode cX1_insert 43 = .ok (.aload_n 0, 1) := by decide +kernel
theorem dX1_insert_44 : decode cX1_insert 44 = .ok (.getfield 60, 3) := by decide +kernel
theorem dX1_insert_47 : decode cX1_insert 47 = .ok (.if_icmp .le 7, 3) := by decide +kernel
theorem dX1_insert_50 : decode cX1_insert 50 = .ok (.iconst 1, 1) := by decide +kernel
theorem dX1_insert_51 : decode cX1_insert 51 = .ok (.goto 4, 3) := by decide +kernel
theorem dX1_insert_54 : decode cX1_insert 54 = .ok (.iconst 0, 1) := by decide +kernel
theorem dX1_insert_55 : decode cX1_insert 55 = .ok (.invokevirtual 71, 3) := by decide +kernel
theorem dX1_insert_58 : decode cX1_insert 58 = .ok (.ifCond .eq 5, 3) := by decide +kernel
theorem dX1_insert_61 : decode cX1_insert 61 = .ok (.iconst 0, 1) := by decide +kernel
theorem dX1_insert_62 : decode cX1_insert 62 = .ok (.ireturn, 1) := by decide +kernel
theorem dX1_insert_63 : decode cX1_insert 63 = .ok (.aload_n 0, 1) := by decide +kernel
theorem dX1_insert_64 : decode cX1_insert 64 = .ok (.getfield 41, 3) := by decide +kernel
theorem dX1_insert_67 : decode cX1_insert 67 = .ok (.iload_n 1, 1) := by decide +kernel
theorem dX1_insert_68 : decode cX1_insert 68 = .ok (.iaload, 1) := by decide +kernel
theorem dX1_insert_69 : decode cX1_insert 69 = .ok (.sipush 400, 3) := by decide +kernel
theorem dX1_insert_72 : decode cX1_insert 72 = .ok (.if_icmp .ne 10, 3) := by decide +kernel
theorem dX1_insert_75 : decode cX1_insert 75 = .ok (.aload_n 0, 1) := by decide +kernel
theorem dX1_insert_76 : decode cX1_insert 76 = .ok (.iconst 2, 1) := by decide +kernel
theorem dX1_insert_77 : decode cX1_insert 77 = .ok (.putfield 57, 3) := by decide +kernel
theorem dX1_insert_80 : decode cX1_insert 80 = .ok (.iconst 0, 1) := by decide +kernel
theorem dX1_insert_81 : decode cX1_insert 81 = .ok (.ireturn, 1) := by decide +kernel
theorem dX1_insert_82 : decode cX1_insert 82 = .ok (.iconst 0, 1) := by decide +kernel
theorem dX1_insert_83 : decode cX1_insert 83 = .ok (.istore 4, 2) := by decide +kernel
theorem dX1_insert_85 : decode cX1_insert 85 = .ok (.iconst 1, 1) := by decide +kernel
theorem dX1_insert_86 : decode cX1_insert 86 = .ok (.istore 5, 2) := by decide +kernel
theorem dX1_insert_88 : decode cX1_insert 88 = .ok (.iload 5, 2) := by decide +kernel
theorem dX1_insert_90 : decode cX1_insert 90 = .ok (.aload_n 0, 1) := by decide +kernel
theorem dX1_insert_91 : decode cX1_insert 91 = .ok (.getfield 31, 3) := by decide +kernel
theorem dX1_insert_94 : decode cX1_insert 94 = .ok (.if_icmp .ge 40, 3) := by decide +kernel
theorem dX1_insert_97 : decode cX1_insert 97 = .ok (.aload_n 0, 1) := by decide +kernel
theorem dX1_insert_98 : decode cX1_insert 98 = .ok (.iload_n 1, 1) := by decide +kernel
theorem dX1_insert_99 : decode cX1_insert 99 = .ok (.iload 5, 2) := by decide +kernel
theorem dX1_insert_101 : decode cX1_insert 101 = .ok (.invokevirtual 63, 3) := by decide +kernel
theorem dX1_insert_104 : decode cX1_insert 104 = .ok (.ifCond .eq 24, 3) := by decide +kernel
theorem dX1_insert_107 : decode cX1_insert 107 = .ok (.aload_n 0, 1) := by decide +kernel
theorem dX1_insert_108 : decode cX1_insert 108 = .ok (.getfield 9, 3) := by decide +kernel
theorem dX1_insert_111 : decode cX1_insert 111 = .ok (.iload 5, 2) := by decide +kernel
theorem dX1_insert_113 : decode cX1_insert 113 = .ok (.iaload, 1) := by decide +kernel
theorem dX1_insert_114 : decode cX1_insert 114 = .ok (.iload 4, 2) := by decide +kernel
theorem dX1_insert_116 : decode cX1_insert 116 = .ok (.if_icmp .le 12, 3) := by decide +kernel
theorem dX1_insert_119 : decode cX1_insert 119 = .ok (.aload_n 0, 1) := by decide +kernel
theorem dX1_insert_120 : decode cX1_insert 120 = .ok (.getfield 9, 3) := by decide +kernel
theorem dX1_insert_123 : decode cX1_insert 123 = .ok (.iload 5, 2) := by decide +kernel
theorem dX1_insert_125 : decode cX1_insert 125 = .ok (.iaload, 1) := by decide +kernel
theorem dX1_insert_126 : decode cX1_insert 126 = .ok (.istore 4, 2) := by decide +kernel
theorem dX1_insert_128 : decode cX1_insert 128 = .ok (.iinc 5 1, 3) := by decide +kernel
theorem dX1_insert_131 : decode cX1_insert 131 = .ok (.goto (-43), 3) := by decide +kernel
theorem dX1_insert_134 : decode cX1_insert 134 = .ok (.aload_n 0, 1) := by decide +kernel
theorem dX1_insert_135 : decode cX1_insert 135 = .ok (.getfield 31, 3) := by decide +kernel
theorem dX1_insert_138 : decode cX1_insert 138 = .ok (.istore 5, 2) := by decide +kernel
theorem dX1_insert_140 : decode cX1_insert 140 = .ok (.aload_n 0, 1) := by decide +kernel
theorem dX1_insert_141 : decode cX1_insert 141 = .ok (.dup, 1) := by decide +kernel
theorem dX1_insert_142 : decode cX1_insert 142 = .ok (.getfield 31, 3) := by decide +kernel
theorem dX1_insert_145 : decode cX1_insert 145 = .ok (.iconst 1, 1) := by decide +kernel
theorem dX1_insert_146 : decode cX1_insert 146 = .ok (.iadd, 1) := by decide +kernel
theorem dX1_insert_147 : decode cX1_insert 147 = .ok (.putfield 31, 3) := by decide +kernel
theorem dX1_insert_150 : decode cX1_insert 150 = .ok (.aload_n 0, 1) := by decide +kernel
theorem dX1_insert_151 : decode cX1_insert 151 = .ok (.getfield 9, 3) := by decide +kernel
theorem dX1_insert_154 : decode cX1_insert 154 = .ok (.iload 5, 2) := by decide +kernel
theorem dX1_insert_156 : decode cX1_insert 156 = .ok (.iload 4, 2) := by decide +kernel
theorem dX1_insert_158 : decode cX1_insert 158 = .ok (.iconst 1, 1) := by decide +kernel
theorem dX1_insert_159 : decode cX1_insert 159 = .ok (.iadd, 1) := by decide +kernel
theorem dX1_insert_160 : decode cX1_insert 160 = .ok (.iastore, 1) := by decide +kernel
theorem dX1_insert_161 : decode cX1_insert 161 = .ok (.aload_n 0, 1) := by decide +kernel
theorem dX1_insert_162 : decode cX1_insert 162 = .ok (.getfield 13, 3) := by decide +kernel
theorem dX1_insert_165 : decode cX1_insert 165 = .ok (.iload 5, 2) := by decide +kernel
theorem dX1_insert_167 : decode cX1_insert 167 = .ok (.iload_n 1, 1) := by decide +kernel
theorem dX1_insert_168 : decode cX1_insert 168 = .ok (.iastore, 1) := by decide +kernel
theorem dX1_insert_169 : decode cX1_insert 169 = .ok (.aload_n 0, 1) := by decide +kernel
theorem dX1_insert_170 : decode cX1_insert 170 = .ok (.getfield 16, 3) := by decide +kernel
theorem dX1_insert_173 : decode cX1_insert 173 = .ok (.iload 5, 2) := by decide +kernel
theorem dX1_insert_175 : decode cX1_insert 175 = .ok (.aload_n 0, 1) := by decide +kernel
theorem dX1_insert_176 : decode cX1_insert 176 = .ok (.getfield 41, 3) := by decide +kernel
theorem dX1_insert_179 : decode cX1_insert 179 = .ok (.iload_n 1, 1) := by decide +kernel
theorem dX1_insert_180 : decode cX1_insert 180 = .ok (.iaload, 1) := by decide +kernel
theorem dX1_insert_181 : decode cX1_insert 181 = .ok (.iastore, 1) := by decide +kernel
theorem dX1_insert_182 : decode cX1_insert 182 = .ok (.aload_n 0, 1) := by decide +kernel
theorem dX1_insert_183 : decode cX1_insert 183 = .ok (.getfield 19, 3) := by decide +kernel
theorem dX1_insert_186 : decode cX1_insert 186 = .ok (.iload 5, 2) := by decide +kernel
theorem dX1_insert_188 : decode cX1_insert 188 = .ok (.iload_n 3, 1) := by decide +kernel
theorem dX1_insert_189 : decode cX1_insert 189 = .ok (.iastore, 1) := by decide +kernel
theorem dX1_insert_190 : decode cX1_insert 190 = .ok (.iload_n 2, 1) := by decide +kernel
theorem dX1_insert_191 : decode cX1_insert 191 = .ok (.ifCond .ne 7, 3) := by decide +kernel
theorem dX1_insert_194 : decode cX1_insert 194 = .ok (.iconst 0, 1) := by decide +kernel
theorem dX1_insert_195 : decode cX1_insert 195 = .ok (.goto 11, 3) := by decide +kernel
theorem dX1_insert_198 : decode cX1_insert 198 = .ok (.aload_n 0, 1) := by decide +kernel
theorem dX1_insert_199 : decode cX1_insert 199 = .ok (.getfield 47, 3) := by decide +kernel
theorem dX1_insert_202 : decode cX1_insert 202 = .ok (.iload_n 2, 1) := by decide +kernel
theorem dX1_insert_203 : decode cX1_insert 203 = .ok (.iconst 1, 1) := by decide +kernel
theorem dX1_insert_204 : decode cX1_insert 204 = .ok (.isub, 1) := by decide +kernel
theorem dX1_insert_205 : decode cX1_insert 205 = .ok (.iaload, 1) := by decide +kernel
theorem dX1_insert_206 : decode cX1_insert 206 = .ok (.istore 6, 2) := by decide +kernel
theorem dX1_insert_208 : decode cX1_insert 208 = .ok (.aload_n 0, 1) := by decide +kernel
theorem dX1_insert_209 : decode cX1_insert 209 = .ok (.getfield 28, 3) := by decide +kernel
theorem dX1_insert_212 : decode cX1_insert 212 = .ok (.iload 5, 2) := by decide +kernel
theorem dX1_insert_214 : decode cX1_insert 214 = .ok (.iload 6, 2) := by decide +kernel
theorem dX1_insert_216 : decode cX1_insert 216 = .ok (.iastore, 1) := by decide +kernel
theorem dX1_insert_217 : decode cX1_insert 217 = .ok (.iconst 0, 1) := by decide +kernel
theorem dX1_insert_218 : decode cX1_insert 218 = .ok (.istore 7, 2) := by decide +kernel
theorem dX1_insert_220 : decode cX1_insert 220 = .ok (.aload_n 0, 1) := by decide +kernel
theorem dX1_insert_221 : decode cX1_insert 221 = .ok (.getfield 22, 3) := by decide +kernel
theorem dX1_insert_224 : decode cX1_insert 224 = .ok (.iload 6, 2) := by decide +kernel
theorem dX1_insert_226 : decode cX1_insert 226 = .ok (.iaload, 1) := by decide +kernel
theorem dX1_insert_227 : decode cX1_insert 227 = .ok (.istore 8, 2) := by decide +kernel
theorem dX1_insert_229 : decode cX1_insert 229 = .ok (.iload 8, 2) := by decide +kernel
theorem dX1_insert_231 : decode cX1_insert 231 = .ok (.ifCond .eq 30, 3) := by decide +kernel
theorem dX1_insert_234 : decode cX1_insert 234 = .ok (.aload_n 0, 1) := by decide +kernel
theorem dX1_insert_235 : decode cX1_insert 235 = .ok (.iload 8, 2) := by decide +kernel
theorem dX1_insert_237 : decode cX1_insert 237 = .ok (.iload 5, 2) := by decide +kernel
theorem dX1_insert_239 : decode cX1_insert 239 = .ok (.invokevirtual 79, 3) := by decide +kernel
theorem dX1_insert_242 : decode cX1_insert 242 = .ok (.ifCond .eq 19, 3) := by decide +kernel
theorem dX1_insert_245 : decode cX1_insert 245 = .ok (.iload 8, 2) := by decide +kernel
theorem dX1_insert_247 : decode cX1_insert 247 = .ok (.istore 7, 2) := by decide +kernel
theorem dX1_insert_249 : decode cX1_insert 249 = .ok (.aload_n 0, 1) := by decide +kernel
theorem dX1_insert_250 : decode cX1_insert 250 = .ok (.getfield 25, 3) := by decide +kernel
theorem dX1_insert_253 : decode cX1_insert 253 = .ok (.iload 8, 2) := by decide +kernel
theorem dX1_insert_255 : decode cX1_insert 255 = .ok (.iaload, 1) := by decide +kernel
theorem dX1_insert_256 : decode cX1_insert 256 = .ok (.istore 8, 2) := by decide +kernel
theorem dX1_insert_258 : decode cX1_insert 258 = .ok (.goto (-29), 3) := by decide +kernel
theorem dX1_insert_261 : decode cX1_insert 261 = .ok (.aload_n 0, 1) := by decide +kernel
theorem dX1_insert_262 : decode cX1_insert 262 = .ok (.getfield 25, 3) := by decide +kernel
theorem dX1_insert_265 : decode cX1_insert 265 = .ok (.iload 5, 2) := by decide +kernel
theorem dX1_insert_267 : decode cX1_insert 267 = .ok (.iload 8, 2) := by decide +kernel
theorem dX1_insert_269 : decode cX1_insert 269 = .ok (.iastore, 1) := by decide +kernel
theorem dX1_insert_270 : decode cX1_insert 270 = .ok (.iload 7, 2) := by decide +kernel
theorem dX1_insert_272 : decode cX1_insert 272 = .ok (.ifCond .ne 15, 3) := by decide +kernel
theorem dX1_insert_275 : decode cX1_insert 275 = .ok (.aload_n 0, 1) := by decide +kernel
theorem dX1_insert_276 : decode cX1_insert 276 = .ok (.getfield 22, 3) := by decide +kernel
theorem dX1_insert_279 : decode cX1_insert 279 = .ok (.iload 6, 2) := by decide +kernel
theorem dX1_insert_281 : decode cX1_insert 281 = .ok (.iload 5, 2) := by decide +kernel
theorem dX1_insert_283 : decode cX1_insert 283 = .ok (.iastore, 1) := by decide +kernel
theorem dX1_insert_284 : decode cX1_insert 284 = .ok (.goto 12, 3) := by decide +kernel
theorem dX1_insert_287 : decode cX1_insert 287 = .ok (.aload_n 0, 1) := by decide +kernel
theorem dX1_insert_288 : decode cX1_insert 288 = .ok (.getfield 25, 3) := by decide +kernel
theorem dX1_insert_291 : decode cX1_insert 291 = .ok (.iload 7, 2) := by decide +kernel
theorem dX1_insert_293 : decode cX1_insert 293 = .ok (.iload 5, 2) := by decide +kernel
theorem dX1_insert_295 : decode cX1_insert 295 = .ok (.iastore, 1) := by decide +kernel
theorem dX1_insert_296 : decode cX1_insert 296 = .ok (.aload_n 0, 1) := by decide +kernel
theorem dX1_insert_297 : decode cX1_insert 297 = .ok (.iload_n 1, 1) := by decide +kernel
theorem dX1_insert_298 : decode cX1_insert 298 = .ok (.iload 5, 2) := by decide +kernel
theorem dX1_insert_300 : decode cX1_insert 300 = .ok (.invokevirtual 82, 3) := by decide +kernel
theorem dX1_insert_303 : decode cX1_insert 303 = .ok (.ireturn, 1) := by decide +kernel
theorem dX1_remove_0 : decode cX1_remove 0 = .ok (.aload_n 0, 1) := by decide +kernel
theorem dX1_remove_1 : decode cX1_remove 1 = .ok (.iload_n 1, 1) := by decide +kernel
theorem dX1_remove_2 : decode cX1_remove 2 = .ok (.invokestatic 67, 3) := by decide +kernel
theorem dX1_remove_5 : decode cX1_remove 5 = .ok (.ifCond .ne 7, 3) := by decide +kernel
theorem dX1_remove_8 : decode cX1_remove 8 = .ok (.iconst 1, 1) := by decide +kernel
theorem dX1_remove_9 : decode cX1_remove 9 = .ok (.goto 4, 3) := by decide +kernel
theorem dX1_remove_12 : decode cX1_remove 12 = .ok (.iconst 0, 1) := by decide +kernel
theorem dX1_remove_13 : decode cX1_remove 13 = .ok (.invokevirtual 71, 3) := by decide +kernel
theorem dX1_remove_16 : decode cX1_remove 16 = .ok (.ifCond .eq 5, 3) := by decide +kernel
theorem dX1_remove_19 : decode cX1_remove 19 = .ok (.iconst 0, 1) := by decide +kernel
theorem dX1_remove_20 : decode cX1_remove 20 = .ok (.ireturn, 1) := by decide +kernel
theorem dX1_remove_21 : decode cX1_remove 21 = .ok (.aload_n 0, 1) := by decide +kernel
theorem dX1_remove_22 : decode cX1_remove 22 = .ok (.iload_n 1, 1) := by decide +kernel
theorem dX1_remove_23 : decode cX1_remove 23 = .ok (.invokevirtual 75, 3) := by decide +kernel
theorem dX1_remove_26 : decode cX1_remove 26 = .ok (.aload_n 0, 1) := by decide +kernel
theorem dX1_remove_27 : decode cX1_remove 27 = .ok (.iload_n 2, 1) := by decide +kernel
theorem dX1_remove_28 : decode cX1_remove 28 = .ok (.ifCond .lt 11, 3) := by decide +kernel
theorem dX1_remove_31 : decode cX1_remove 31 = .ok (.iload_n 2, 1) := by decide +kernel
theorem dX1_remove_32 : decode cX1_remove 32 = .ok (.aload_n 0, 1) := by decide +kernel
theorem dX1_remove_33 : decode cX1_remove 33 = .ok (.getfield 60, 3) := by decide +kernel
theorem dX1_remove_36 : decode cX1_remove 36 = .ok (.if_icmp .lt 7, 3) := by decide +kernel
theorem dX1_remove_39 : decode cX1_remove 39 = .ok (.iconst 1, 1) := by decide +kernel
theorem dX1_remove_40 : decode cX1_remove 40 = .ok (.goto 4, 3) := by decide +kernel
theorem dX1_remove_43 : decode cX1_remove 43 = .ok (.iconst 0, 1) := by decide +kernel
theorem dX1_remove_44 : decode cX1_remove 44 = .ok (.invokevirtual 71, 3) := by decide +kernel
theorem dX1_remove_47 : decode cX1_remove 47 = .ok (.ifCond .eq 5, 3) := by decide +kernel
theorem dX1_remove_50 : decode cX1_remove 50 = .ok (.iconst 0, 1) := by decide +kernel
theorem dX1_remove_51 : decode cX1_remove 51 = .ok (.ireturn, 1) := by decide +kernel
theorem dX1_remove_52 : decode cX1_remove 52 = .ok (.aload_n 0, 1) := by decide +kernel
theorem dX1_remove_53 : decode cX1_remove 53 = .ok (.getfield 41, 3) := by decide +kernel
theorem dX1_remove_56 : decode cX1_remove 56 = .ok (.iload_n 1, 1) := by decide +kernel
theorem dX1_remove_57 : decode cX1_remove 57 = .ok (.iaload, 1) := by decide +kernel
theorem dX1_remove_58 : decode cX1_remove 58 = .ok (.sipush 400, 3) := by decide +kernel
theorem dX1_remove_61 : decode cX1_remove 61 = .ok (.if_icmp .ne 10, 3) := by decide +kernel
theorem dX1_remove_64 : decode cX1_remove 64 = .ok (.aload_n 0, 1) := by decide +kernel
theorem dX1_remove_65 : decode cX1_remove 65 = .ok (.iconst 2, 1) := by decide +kernel
theorem dX1_remove_66 : decode cX1_remove 66 = .ok (.putfield 57, 3) := by decide +kernel
theorem dX1_remove_69 : decode cX1_remove 69 = .ok (.iconst 0, 1) := by decide +kernel
theorem dX1_remove_70 : decode cX1_remove 70 = .ok (.ireturn, 1) := by decide +kernel
theorem dX1_remove_71 : decode cX1_remove 71 = .ok (.aload_n 0, 1) := by decide +kernel
theorem dX1_remove_72 : decode cX1_remove 72 = .ok (.iload_n 1, 1) := by decide +kernel
theorem dX1_remove_73 : decode cX1_remove 73 = .ok (.aload_n 0, 1) := by decide +kernel
theorem dX1_remove_74 : decode cX1_remove 74 = .ok (.getfield 47, 3) := by decide +kernel
theorem dX1_remove_77 : decode cX1_remove 77 = .ok (.iload_n 2, 1) := by decide +kernel
theorem dX1_remove_78 : decode cX1_remove 78 = .ok (.iaload, 1) := by decide +kernel
theorem dX1_remove_79 : decode cX1_remove 79 = .ok (.ineg, 1) := by decide +kernel
theorem dX1_remove_80 : decode cX1_remove 80 = .ok (.invokevirtual 82, 3) := by decide +kernel
theorem dX1_remove_83 : decode cX1_remove 83 = .ok (.ireturn, 1) := by decide +kernel
theorem dX1_bring_0 : decode cX1_bring 0 = .ok (.aload_n 0, 1) := by decide +kernel
theorem dX1_bring_1 : decode cX1_bring 1 = .ok (.iload_n 1, 1) := by decide +kernel
theorem dX1_bring_2 : decode cX1_bring 2 = .ok (.invokestatic 67, 3) := by decide +kernel
theorem dX1_bring_5 : decode cX1_bring 5 = .ok (.ifCond .eq 29, 3) := by decide +kernel
theorem dX1_bring_8 : decode cX1_bring 8 = .ok (.iload_n 3, 1) := by decide +kernel
theorem dX1_bring_9 : decode cX1_bring 9 = .ok (.invokestatic 67, 3) := by decide +kernel
theorem dX1_bring_12 : decode cX1_bring 12 = .ok (.ifCond .eq 22, 3) := by decide +kernel
theorem dX1_bring_15 : decode cX1_bring 15 = .ok (.iload_n 1, 1) := by decide +kernel
theorem dX1_bring_16 : decode cX1_bring 16 = .ok (.iload_n 3, 1) := by decide +kernel
theorem dX1_bring_17 : decode cX1_bring 17 = .ok (.if_icmp .eq 17, 3) := by decide +kernel
theorem dX1_bring_20 : decode cX1_bring 20 = .ok (.iload_n 2, 1) := by decide +kernel
theorem dX1_bring_21 : decode cX1_bring 21 = .ok (.ifCond .lt 13, 3) := by decide +kernel
theorem dX1_bring_24 : decode cX1_bring 24 = .ok (.iload_n 2, 1) := by decide +kernel
theorem dX1_bring_25 : decode cX1_bring 25 = .ok (.aload_n 0, 1) := by decide +kernel
theorem dX1_bring_26 : decode cX1_bring 26 = .ok (.getfield 41, 3) := by decide +kernel
theorem dX1_bring_29 : decode cX1_bring 29 = .ok (.iload_n 1, 1) := by decide +kernel
theorem dX1_bring_30 : decode cX1_bring 30 = .ok (.iaload, 1) := by decide +kernel
theorem dX1_bring_31 : decode cX1_bring 31 = .ok (.if_icmp .lt 7, 3) := by decide +kernel
theorem dX1_bring_34 : decode cX1_bring 34 = .ok (.iconst 1, 1) := by decide +kernel
theorem dX1_bring_35 : decode cX1_bring 35 = .ok (.goto 4, 3) := by decide +kernel
theorem dX1_bring_38 : decode cX1_bring 38 = .ok (.iconst 0, 1) := by decide +kernel
theorem dX1_bring_39 : decode cX1_bring 39 = .ok (.invokevirtual 71, 3) := by decide +kernel
theorem dX1_bring_42 : decode cX1_bring 42 = .ok (.ifCond .eq 4, 3) := by decide +kernel
theorem dX1_bring_45 : decode cX1_bring 45 = .ok (.return_, 1) := by decide +kernel
theorem dX1_bring_46 : decode cX1_bring 46 = .ok (.iload_n 2, 1) := by decide +kernel
theorem dX1_bring_47 : decode cX1_bring 47 = .ok (.aload_n 0, 1) := by decide +kernel
theorem dX1_bring_48 : decode cX1_bring 48 = .ok (.getfield 44, 3) := by decide +kernel
theorem dX1_bring_51 : decode cX1_bring 51 = .ok (.iconst 4, 1) := by decide +kernel
theorem dX1_bring_52 : decode cX1_bring 52 = .ok (.iload_n 3, 1) := by decide +kernel
theorem dX1_bring_53 : decode cX1_bring 53 = .ok (.imul, 1) := by decide +kernel
theorem dX1_bring_54 : decode cX1_bring 54 = .ok (.iload_n 1, 1) := by decide +kernel
theorem dX1_bring_55 : decode cX1_bring 55 = .ok (.iadd, 1) := by decide +kernel
theorem dX1_bring_56 : decode cX1_bring 56 = .ok (.iaload, 1) := by decide +kernel
theorem dX1_bring_57 : decode cX1_bring 57 = .ok (.if_icmp .ge 4, 3) := by decide +kernel
theorem dX1_bring_60 : decode cX1_bring 60 = .ok (.return_, 1) := by decide +kernel
theorem dX1_bring_61 : decode cX1_bring 61 = .ok (.iconst 0, 1) := by decide +kernel
theorem dX1_bring_62 : decode cX1_bring 62 = .ok (.istore 4, 2) := by decide +kernel
theorem dX1_bring_64 : decode cX1_bring 64 = .ok (.iload 4, 2) := by decide +kernel
theorem dX1_bring_66 : decode cX1_bring 66 = .ok (.iconst 4, 1) := by decide +kernel
theorem dX1_bring_67 : decode cX1_bring 67 = .ok (.if_icmp .ge 45, 3) := by decide +kernel
theorem dX1_bring_70 : decode cX1_bring 70 = .ok (.aload_n 0, 1) := by decide +kernel
theorem dX1_bring_71 : decode cX1_bring 71 = .ok (.getfield 38, 3) := by decide +kernel
theorem dX1_bring_74 : decode cX1_bring 74 = .ok (.sipush 400, 3) := by decide +kernel
theorem dX1_bring_77 : decode cX1_bring 77 = .ok (.iload_n 1, 1) := by decide +kernel
theorem dX1_bring_78 : decode cX1_bring 78 = .ok (.imul, 1) := by decide +kernel
theorem dX1_bring_79 : decode cX1_bring 79 = .ok (.iload_n 2, 1) := by decide +kernel
theorem dX1_bring_80 : decode cX1_bring 80 = .ok (.iadd, 1) := by decide +kernel
theorem dX1_bring_81 : decode cX1_bring 81 = .ok (.iconst 4, 1) := by decide +kernel
theorem dX1_bring_82 : decode cX1_bring 82 = .ok (.imul, 1) := by decide +kernel
theorem dX1_bring_83 : decode cX1_bring 83 = .ok (.iload 4, 2) := by decide +kernel
theorem dX1_bring_85 : decode cX1_bring 85 = .ok (.iadd, 1) := by decide +kernel
theorem dX1_bring_86 : decode cX1_bring 86 = .ok (.iaload, 1) := by decide +kernel
theorem dX1_bring_87 : decode cX1_bring 87 = .ok (.aload_n 0, 1) := by decide +kernel
theorem dX1_bring_88 : decode cX1_bring 88 = .ok (.getfield 44, 3) := by decide +kernel
theorem dX1_bring_91 : decode cX1_bring 91 = .ok (.iconst 4, 1) := by decide +kernel
theorem dX1_bring_92 : decode cX1_bring 92 = .ok (.iload_n 3, 1) := by decide +kernel
theorem dX1_bring_93 : decode cX1_bring 93 = .ok (.imul, 1) := by decide +kernel
theorem dX1_bring_94 : decode cX1_bring 94 = .ok (.iload 4, 2) := by decide +kernel
theorem dX1_bring_96 : decode cX1_bring 96 = .ok (.iadd, 1) := by decide +kernel
theorem dX1_bring_97 : decode cX1_bring 97 = .ok (.iaload, 1) := by decide +kernel
theorem dX1_bring_98 : decode cX1_bring 98 = .ok (.if_icmp .le 8, 3) := by decide +kernel
theorem dX1_bring_101 : decode cX1_bring 101 = .ok (.aload_n 0, 1) := by decide +kernel
theorem dX1_bring_102 : decode cX1_bring 102 = .ok (.iconst 2, 1) := by decide +kernel
theorem dX1_bring_103 : decode cX1_bring 103 = .ok (.putfield 57, 3) := by decide +kernel
theorem dX1_bring_106 : decode cX1_bring 106 = .ok (.iinc 4 1, 3) := by decide +kernel
theorem dX1_bring_109 : decode cX1_bring 109 = .ok (.goto (-45), 3) := by decide +kernel
theorem dX1_bring_112 : decode cX1_bring 112 = .ok (.aload_n 0, 1) := by decide +kernel
theorem dX1_bring_113 : decode cX1_bring 113 = .ok (.getfield 57, 3) := by decide +kernel
theorem dX1_bring_116 : decode cX1_bring 116 = .ok (.ifCond .eq 4, 3) := by decide +kernel
theorem dX1_bring_119 : decode cX1_bring 119 = .ok (.return_, 1) := by decide +kernel
theorem dX1_bring_120 : decode cX1_bring 120 = .ok (.aload_n 0, 1) := by decide +kernel
theorem dX1_bring_121 : decode cX1_bring 121 = .ok (.getfield 44, 3) := by decide +kernel
theorem dX1_bring_124 : decode cX1_bring 124 = .ok (.iconst 4, 1) := by decide +kernel
theorem dX1_bring_125 : decode cX1_bring 125 = .ok (.iload_n 3, 1) := by decide +kernel
theorem dX1_bring_126 : decode cX1_bring 126 = .ok (.imul, 1) := by decide +kernel
theorem dX1_bring_127 : decode cX1_bring 127 = .ok (.iload_n 1, 1) := by decide +kernel
theorem dX1_bring_128 : decode cX1_bring 128 = .ok (.iadd, 1) := by decide +kernel
theorem dX1_bring_129 : decode cX1_bring 129 = .ok (.iload_n 2, 1) := by decide +kernel
theorem dX1_bring_130 : decode cX1_bring 130 = .ok (.iconst 1, 1) := by decide +kernel
theorem dX1_bring_131 : decode cX1_bring 131 = .ok (.iadd, 1) := by decide +kernel
theorem dX1_bring_132 : decode cX1_bring 132 = .ok (.iastore, 1) := by decide +kernel
theorem dX1_bring_133 : decode cX1_bring 133 = .ok (.aload_n 0, 1) := by decide +kernel
theorem dX1_bring_134 : decode cX1_bring 134 = .ok (.iconst (-1), 1) := by decide +kernel
theorem dX1_bring_135 : decode cX1_bring 135 = .ok (.putfield 54, 3) := by decide +kernel
theorem dX1_bring_138 : decode cX1_bring 138 = .ok (.return_, 1) := by decide +kernel
theorem dX1_merge_0 : decode cX1_merge 0 = .ok (.aload_n 0, 1) := by decide +kernel
theorem dX1_merge_1 : decode cX1_merge 1 = .ok (.iload_n 1, 1) := by decide +kernel
theorem dX1_merge_2 : decode cX1_merge 2 = .ok (.invokestatic 67, 3) := by decide +kernel
theorem dX1_merge_5 : decode cX1_merge 5 = .ok (.ifCond .eq 10, 3) := by decide +kernel
theorem dX1_merge_8 : decode cX1_merge 8 = .ok (.iload_n 2, 1) := by decide +kernel
theorem dX1_merge_9 : decode cX1_merge 9 = .ok (.invokestatic 67, 3) := by decide +kernel
theorem dX1_merge_12 : decode cX1_merge 12 = .ok (.ifCond .ne 7, 3) := by decide +kernel
theorem dX1_merge_15 : decode cX1_merge 15 = .ok (.iconst 1, 1) := by decide +kernel
theorem dX1_merge_16 : decode cX1_merge 16 = .ok (.goto 4, 3) := by decide +kernel
theorem dX1_merge_19 : decode cX1_merge 19 = .ok (.iconst 0, 1) := by decide +kernel
theorem dX1_merge_20 : decode cX1_merge 20 = .ok (.invokevirtual 71, 3) := by decide +kernel
theorem dX1_merge_23 : decode cX1_merge 23 = .ok (.ifCond .eq 5, 3) := by decide +kernel
theorem dX1_merge_26 : decode cX1_merge 26 = .ok (.iconst 0, 1) := by decide +kernel
theorem dX1_merge_27 : decode cX1_merge 27 = .ok (.ireturn, 1) := by decide +kernel
theorem dX1_merge_28 : decode cX1_merge 28 = .ok (.iconst 0, 1) := by decide +kernel
theorem dX1_merge_29 : decode cX1_merge 29 = .ok (.istore_n 3, 1) := by decide +kernel
theorem dX1_merge_30 : decode cX1_merge 30 = .ok (.iconst 0, 1) := by decide +kernel
theorem dX1_merge_31 : decode cX1_merge 31 = .ok (.istore 4, 2) := by decide +kernel
theorem dX1_merge_33 : decode cX1_merge 33 = .ok (.iload 4, 2) := by decide +kernel
theorem dX1_merge_35 : decode cX1_merge 35 = .ok (.iconst 4, 1) := by decide +kernel
theorem dX1_merge_36 : decode cX1_merge 36 = .ok (.if_icmp .ge 63, 3) := by decide +kernel
theorem dX1_merge_39 : decode cX1_merge 39 = .ok (.aload_n 0, 1) := by decide +kernel
theorem dX1_merge_40 : decode cX1_merge 40 = .ok (.getfield 44, 3) := by decide +kernel
theorem dX1_merge_43 : decode cX1_merge 43 = .ok (.iconst 4, 1) := by decide +kernel
theorem dX1_merge_44 : decode cX1_merge 44 = .ok (.iload_n 1, 1) := by decide +kernel
theorem dX1_merge_45 : decode cX1_merge 45 = .ok (.imul, 1) := by decide +kernel
theorem dX1_merge_46 : decode cX1_merge 46 = .ok (.iload 4, 2) := by decide +kernel
theorem dX1_merge_48 : decode cX1_merge 48 = .ok (.iadd, 1) := by decide +kernel
theorem dX1_merge_49 : decode cX1_merge 49 = .ok (.iaload, 1) := by decide +kernel
theorem dX1_merge_50 : decode cX1_merge 50 = .ok (.aload_n 0, 1) := by decide +kernel
theorem dX1_merge_51 : decode cX1_merge 51 = .ok (.getfield 44, 3) := by decide +kernel
theorem dX1_merge_54 : decode cX1_merge 54 = .ok (.iconst 4, 1) := by decide +kernel
theorem dX1_merge_55 : decode cX1_merge 55 = .ok (.iload_n 2, 1) := by decide +kernel
theorem dX1_merge_56 : decode cX1_merge 56 = .ok (.imul, 1) := by decide +kernel
theorem dX1_merge_57 : decode cX1_merge 57 = .ok (.iload 4, 2) := by decide +kernel
theorem dX1_merge_59 : decode cX1_merge 59 = .ok (.iadd, 1) := by decide +kernel
theorem dX1_merge_60 : decode cX1_merge 60 = .ok (.iaload, 1) := by decide +kernel
theorem dX1_merge_61 : decode cX1_merge 61 = .ok (.isub, 1) := by decide +kernel
theorem dX1_merge_62 : decode cX1_merge 62 = .ok (.istore 5, 2) := by decide +kernel
theorem dX1_merge_64 : decode cX1_merge 64 = .ok (.iload 5, 2) := by decide +kernel
theorem dX1_merge_66 : decode cX1_merge 66 = .ok (.ifCond .gt 6, 3) := by decide +kernel
theorem dX1_merge_69 : decode cX1_merge 69 = .ok (.goto 24, 3) := by decide +kernel
theorem dX1_merge_72 : decode cX1_merge 72 = .ok (.iload_n 3, 1) := by decide +kernel
theorem dX1_merge_73 : decode cX1_merge 73 = .ok (.iload 5, 2) := by decide +kernel
theorem dX1_merge_75 : decode cX1_merge 75 = .ok (.iadd, 1) := by decide +kernel
theorem dX1_merge_76 : decode cX1_merge 76 = .ok (.istore_n 3, 1) := by decide +kernel
theorem dX1_merge_77 : decode cX1_merge 77 = .ok (.aload_n 0, 1) := by decide +kernel
theorem dX1_merge_78 : decode cX1_merge 78 = .ok (.getfield 44, 3) := by decide +kernel
theorem dX1_merge_81 : decode cX1_merge 81 = .ok (.iconst 4, 1) := by decide +kernel
theorem dX1_merge_82 : decode cX1_merge 82 = .ok (.iload_n 2, 1) := by decide +kernel
theorem dX1_merge_83 : decode cX1_merge 83 = .ok (.imul, 1) := by decide +kernel
theorem dX1_merge_84 : decode cX1_merge 84 = .ok (.iload 4, 2) := by decide +kernel
theorem dX1_merge_86 : decode cX1_merge 86 = .ok (.iadd, 1) := by decide +kernel
theorem dX1_merge_87 : decode cX1_merge 87 = .ok (.dup2, 1) := by decide +kernel
theorem dX1_merge_88 : decode cX1_merge 88 = .ok (.iaload, 1) := by decide +kernel
theorem dX1_merge_89 : decode cX1_merge 89 = .ok (.iload 5, 2) := by decide +kernel
theorem dX1_merge_91 : decode cX1_merge 91 = .ok (.iadd, 1) := by decide +kernel
theorem dX1_merge_92 : decode cX1_merge 92 = .ok (.iastore, 1) := by decide +kernel
theorem dX1_merge_93 : decode cX1_merge 93 = .ok (.iinc 4 1, 3) := by decide +kernel
theorem dX1_merge_96 : decode cX1_merge 96 = .ok (.goto (-63), 3) := by decide +kernel
theorem dX1_merge_99 : decode cX1_merge 99 = .ok (.aload_n 0, 1) := by decide +kernel
theorem dX1_merge_100 : decode cX1_merge 100 = .ok (.iconst (-1), 1) := by decide +kernel
theorem dX1_merge_101 : decode cX1_merge 101 = .ok (.putfield 54, 3) := by decide +kernel
theorem dX1_merge_104 : decode cX1_merge 104 = .ok (.iload_n 3, 1) := by decide +kernel
theorem dX1_merge_105 : decode cX1_merge 105 = .ok (.ireturn, 1) := by decide +kernel
theorem dX1_length_0 : decode cX1_length 0 = .ok (.aload_n 0, 1) := by decide +kernel
theorem dX1_length_1 : decode cX1_length 1 = .ok (.iload_n 1, 1) := by decide +kernel
theorem dX1_length_2 : decode cX1_length 2 = .ok (.invokestatic 67, 3) := by decide +kernel
theorem dX1_length_5 : decode cX1_length 5 = .ok (.ifCond .ne 7, 3) := by decide +kernel
theorem dX1_length_8 : decode cX1_length 8 = .ok (.iconst 1, 1) := by decide +kernel
theorem dX1_length_9 : decode cX1_length 9 = .ok (.goto 4, 3) := by decide +kernel
theorem dX1_length_12 : decode cX1_length 12 = .ok (.iconst 0, 1) := by decide +kernel
theorem dX1_length_13 : decode cX1_length 13 = .ok (.invokevirtual 71, 3) := by decide +kernel
theorem dX1_length_16 : decode cX1_length 16 = .ok (.ifCond .eq 5, 3) := by decide +kernel
theorem dX1_length_19 : decode cX1_length 19 = .ok (.iconst 0, 1) := by decide +kernel
theorem dX1_length_20 : decode cX1_length 20 = .ok (.ireturn, 1) := by decide +kernel
theorem dX1_length_21 : decode cX1_length 21 = .ok (.aload_n 0, 1) := by decide +kernel
theorem dX1_length_22 : decode cX1_length 22 = .ok (.iload_n 1, 1) := by decide +kernel
theorem dX1_length_23 : decode cX1_length 23 = .ok (.invokevirtual 75, 3) := by decide +kernel
theorem dX1_length_26 : decode cX1_length 26 = .ok (.aload_n 0, 1) := by decide +kernel
theorem dX1_length_27 : decode cX1_length 27 = .ok (.getfield 60, 3) := by decide +kernel
theorem dX1_length_30 : decode cX1_length 30 = .ok (.ireturn, 1) := by decide +kernel
theorem dX1_letter_0 : decode cX1_letter 0 = .ok (.aload_n 0, 1) := by decide +kernel
theorem dX1_letter_1 : decode cX1_letter 1 = .ok (.iload_n 1, 1) := by decide +kernel
theorem dX1_letter_2 : decode cX1_letter 2 = .ok (.invokestatic 67, 3) := by decide +kernel
theorem dX1_letter_5 : decode cX1_letter 5 = .ok (.ifCond .eq 7, 3) := by decide +kernel
theorem dX1_letter_8 : decode cX1_letter 8 = .ok (.iload_n 2, 1) := by decide +kernel
theorem dX1_letter_9 : decode cX1_letter 9 = .ok (.ifCond .ge 7, 3) := by decide +kernel
theorem dX1_letter_12 : decode cX1_letter 12 = .ok (.iconst 1, 1) := by decide +kernel
theorem dX1_letter_13 : decode cX1_letter 13 = .ok (.goto 4, 3) := by decide +kernel
theorem dX1_letter_16 : decode cX1_letter 16 = .ok (.iconst 0, 1) := by decide +kernel
theorem dX1_letter_17 : decode cX1_letter 17 = .ok (.invokevirtual 71, 3) := by decide +kernel
theorem dX1_letter_20 : decode cX1_letter 20 = .ok (.ifCond .eq 5, 3) := by decide +kernel
theorem dX1_letter_23 : decode cX1_letter 23 = .ok (.iconst 0, 1) := by decide +kernel
theorem dX1_letter_24 : decode cX1_letter 24 = .ok (.ireturn, 1) := by decide +kernel
theorem dX1_letter_25 : decode cX1_letter 25 = .ok (.aload_n 0, 1) := by decide +kernel
theorem dX1_letter_26 : decode cX1_letter 26 = .ok (.iload_n 1, 1) := by decide +kernel
theorem dX1_letter_27 : decode cX1_letter 27 = .ok (.invokevirtual 75, 3) := by decide +kernel
theorem dX1_letter_30 : decode cX1_letter 30 = .ok (.iload_n 2, 1) := by decide +kernel
theorem dX1_letter_31 : decode cX1_letter 31 = .ok (.aload_n 0, 1) := by decide +kernel
theorem dX1_letter_32 : decode cX1_letter 32 = .ok (.getfield 60, 3) := by decide +kernel
theorem dX1_letter_35 : decode cX1_letter 35 = .ok (.if_icmp .ge 17, 3) := by decide +kernel
theorem dX1_letter_38 : decode cX1_letter 38 = .ok (.aload_n 0, 1) := by decide +kernel
theorem dX1_letter_39 : decode cX1_letter 39 = .ok (.getfield 19, 3) := by decide +kernel
theorem dX1_letter_42 : decode cX1_letter 42 = .ok (.aload_n 0, 1) := by decide +kernel
theorem dX1_letter_43 : decode cX1_letter 43 = .ok (.getfield 47, 3) := by decide +kernel
theorem dX1_letter_46 : decode cX1_letter 46 = .ok (.iload_n 2, 1) := by decide +kernel
theorem dX1_letter_47 : decode cX1_letter 47 = .ok (.iaload, 1) := by decide +kernel
theorem dX1_letter_48 : decode cX1_letter 48 = .ok (.iaload, 1) := by decide +kernel
theorem dX1_letter_49 : decode cX1_letter 49 = .ok (.goto 4, 3) := by decide +kernel
theorem dX1_letter_52 : decode cX1_letter 52 = .ok (.iconst (-1), 1) := by decide +kernel
theorem dX1_letter_53 : decode cX1_letter 53 = .ok (.ireturn, 1) := by decide +kernel
theorem dX1_name_0 : decode cX1_name 0 = .ok (.aload_n 0, 1) := by decide +kernel
theorem dX1_name_1 : decode cX1_name 1 = .ok (.iload_n 1, 1) := by decide +kernel
theorem dX1_name_2 : decode cX1_name 2 = .ok (.invokestatic 67, 3) := by decide +kernel
theorem dX1_name_5 : decode cX1_name 5 = .ok (.ifCond .eq 7, 3) := by decide +kernel
theorem dX1_name_8 : decode cX1_name 8 = .ok (.iload_n 2, 1) := by decide +kernel
theorem dX1_name_9 : decode cX1_name 9 = .ok (.ifCond .ge 7, 3) := by decide +kernel
theorem dX1_name_12 : decode cX1_name 12 = .ok (.iconst 1, 1) := by decide +kernel
theorem dX1_name_13 : decode cX1_name 13 = .ok (.goto 4, 3) := by decide +kernel
theorem dX1_name_16 : decode cX1_name 16 = .ok (.iconst 0, 1) := by decide +kernel
theorem dX1_name_17 : decode cX1_name 17 = .ok (.invokevirtual 71, 3) := by decide +kernel
theorem dX1_name_20 : decode cX1_name 20 = .ok (.ifCond .eq 5, 3) := by decide +kernel
theorem dX1_name_23 : decode cX1_name 23 = .ok (.iconst 0, 1) := by decide +kernel
theorem dX1_name_24 : decode cX1_name 24 = .ok (.ireturn, 1) := by decide +kernel
theorem dX1_name_25 : decode cX1_name 25 = .ok (.aload_n 0, 1) := by decide +kernel
theorem dX1_name_26 : decode cX1_name 26 = .ok (.iload_n 1, 1) := by decide +kernel
theorem dX1_name_27 : decode cX1_name 27 = .ok (.invokevirtual 75, 3) := by decide +kernel
theorem dX1_name_30 : decode cX1_name 30 = .ok (.iload_n 2, 1) := by decide +kernel
theorem dX1_name_31 : decode cX1_name 31 = .ok (.aload_n 0, 1) := by decide +kernel
theorem dX1_name_32 : decode cX1_name 32 = .ok (.getfield 60, 3) := by decide +kernel
theorem dX1_name_35 : decode cX1_name 35 = .ok (.if_icmp .ge 31, 3) := by decide +kernel
theorem dX1_name_38 : decode cX1_name 38 = .ok (.iconst 4, 1) := by decide +kernel
theorem dX1_name_39 : decode cX1_name 39 = .ok (.aload_n 0, 1) := by decide +kernel
theorem dX1_name_40 : decode cX1_name 40 = .ok (.getfield 9, 3) := by decide +kernel
theorem dX1_name_43 : decode cX1_name 43 = .ok (.aload_n 0, 1) := by decide +kernel
theorem dX1_name_44 : decode cX1_name 44 = .ok (.getfield 47, 3) := by decide +kernel
theorem dX1_name_47 : decode cX1_name 47 = .ok (.iload_n 2, 1) := by decide +kernel
theorem dX1_name_48 : decode cX1_name 48 = .ok (.iaload, 1) := by decide +kernel
theorem dX1_name_49 : decode cX1_name 49 = .ok (.iaload, 1) := by decide +kernel
theorem dX1_name_50 : decode cX1_name 50 = .ok (.imul, 1) := by decide +kernel
theorem dX1_name_51 : decode cX1_name 51 = .ok (.aload_n 0, 1) := by decide +kernel
theorem dX1_name_52 : decode cX1_name 52 = .ok (.getfield 13, 3) := by decide +kernel
theorem dX1_name_55 : decode cX1_name 55 = .ok (.aload_n 0, 1) := by decide +kernel
theorem dX1_name_56 : decode cX1_name 56 = .ok (.getfield 47, 3) := by decide +kernel
theorem dX1_name_59 : decode cX1_name 59 = .ok (.iload_n 2, 1) := by decide +kernel
theorem dX1_name_60 : decode cX1_name 60 = .ok (.iaload, 1) := by decide +kernel
theorem dX1_name_61 : decode cX1_name 61 = .ok (.iaload, 1) := by decide +kernel
theorem dX1_name_62 : decode cX1_name 62 = .ok (.iadd, 1) := by decide +kernel
theorem dX1_name_63 : decode cX1_name 63 = .ok (.goto 4, 3) := by decide +kernel
theorem dX1_name_66 : decode cX1_name 66 = .ok (.iconst (-1), 1) := by decide +kernel
theorem dX1_name_67 : decode cX1_name 67 = .ok (.ireturn, 1) := by decide +kernel
theorem dX1_has_0 : decode cX1_has 0 = .ok (.aload_n 0, 1) := by decide +kernel
theorem dX1_has_1 : decode cX1_has 1 = .ok (.iload_n 1, 1) := by decide +kernel
theorem dX1_has_2 : decode cX1_has 2 = .ok (.invokestatic 67, 3) := by decide +kernel
theorem dX1_has_5 : decode cX1_has 5 = .ok (.ifCond .eq 10, 3) := by decide +kernel
theorem dX1_has_8 : decode cX1_has 8 = .ok (.iload_n 2, 1) := by decide +kernel
theorem dX1_has_9 : decode cX1_has 9 = .ok (.invokestatic 67, 3) := by decide +kernel
theorem dX1_has_12 : decode cX1_has 12 = .ok (.ifCond .ne 7, 3) := by decide +kernel
theorem dX1_has_15 : decode cX1_has 15 = .ok (.iconst 1, 1) := by decide +kernel
theorem dX1_has_16 : decode cX1_has 16 = .ok (.goto 4, 3) := by decide +kernel
theorem dX1_has_19 : decode cX1_has 19 = .ok (.iconst 0, 1) := by decide +kernel
theorem dX1_has_20 : decode cX1_has 20 = .ok (.invokevirtual 71, 3) := by decide +kernel
theorem dX1_has_23 : decode cX1_has 23 = .ok (.ifCond .eq 7, 3) := by decide +kernel
theorem dX1_has_26 : decode cX1_has 26 = .ok (.iconst 0, 1) := by decide +kernel
theorem dX1_has_27 : decode cX1_has 27 = .ok (.goto 13, 3) := by decide +kernel
theorem dX1_has_30 : decode cX1_has 30 = .ok (.aload_n 0, 1) := by decide +kernel
theorem dX1_has_31 : decode cX1_has 31 = .ok (.getfield 44, 3) := by decide +kernel
theorem dX1_has_34 : decode cX1_has 34 = .ok (.iconst 4, 1) := by decide +kernel
theorem dX1_has_35 : decode cX1_has 35 = .ok (.iload_n 1, 1) := by decide +kernel
theorem dX1_has_36 : decode cX1_has 36 = .ok (.imul, 1) := by decide +kernel
theorem dX1_has_37 : decode cX1_has 37 = .ok (.iload_n 2, 1) := by decide +kernel
theorem dX1_has_38 : decode cX1_has 38 = .ok (.iadd, 1) := by decide +kernel
theorem dX1_has_39 : decode cX1_has 39 = .ok (.iaload, 1) := by decide +kernel
theorem dX1_has_40 : decode cX1_has 40 = .ok (.ireturn, 1) := by decide +kernel
end
section
theorem dL_insert_0 : decode cL_insert 0 = .ok (.aload 4, 2) := by decide +kernel
theorem dL_insert_2 : decode cL_insert 2 = .ok (.iconst 0, 1) := by decide +kernel
theorem dL_insert_3 : decode cL_insert 3 = .ok (.aload_n 0, 1) := by decide +kernel
theorem dL_insert_4 : decode cL_insert 4 = .ok (.iload_n 1, 1) := by decide +kernel
theorem dL_insert_5 : decode cL_insert 5 = .ok (.iload_n 2, 1) := by decide +kernel
theorem dL_insert_6 : decode cL_insert 6 = .ok (.iload_n 3, 1) := by decide +kernel
theorem dL_insert_7 : decode cL_insert 7 = .ok (.invokevirtual 7, 3) := by decide +kernel
theorem dL_insert_10 : decode cL_insert 10 = .ok (.i2l, 1) := by decide +kernel
theorem dL_insert_11 : decode cL_insert 11 = .ok (.lastore, 1) := by decide +kernel
theorem dL_insert_12 : decode cL_insert 12 = .ok (.goto 11, 3) := by decide +kernel
theorem dL_insert_15 : decode cL_insert 15 = .ok (.astore 5, 2) := by decide +kernel
theorem dL_insert_17 : decode cL_insert 17 = .ok (.iconst 1, 1) := by decide +kernel
theorem dL_insert_18 : decode cL_insert 18 = .ok (.ireturn, 1) := by decide +kernel
theorem dL_insert_19 : decode cL_insert 19 = .ok (.astore 5, 2) := by decide +kernel
theorem dL_insert_21 : decode cL_insert 21 = .ok (.iconst 2, 1) := by decide +kernel
theorem dL_insert_22 : decode cL_insert 22 = .ok (.ireturn, 1) := by decide +kernel
theorem dL_insert_23 : decode cL_insert 23 = .ok (.iconst 0, 1) := by decide +kernel
theorem dL_insert_24 : decode cL_insert 24 = .ok (.ireturn, 1) := by decide +kernel
theorem dL_remove_0 : decode cL_remove 0 = .ok (.aload_n 3, 1) := by decide +kernel
theorem dL_remove_1 : decode cL_remove 1 = .ok (.iconst 0, 1) := by decide +kernel
theorem dL_remove_2 : decode cL_remove 2 = .ok (.aload_n 0, 1) := by decide +kernel
theorem dL_remove_3 : decode cL_remove 3 = .ok (.iload_n 1, 1) := by decide +kernel
theorem dL_remove_4 : decode cL_remove 4 = .ok (.iload_n 2, 1) := by decide +kernel
theorem dL_remove_5 : decode cL_remove 5 = .ok (.invokevirtual 17, 3) := by decide +kernel
theorem dL_remove_8 : decode cL_remove 8 = .ok (.i2l, 1) := by decide +kernel
theorem dL_remove_9 : decode cL_remove 9 = .ok (.lastore, 1) := by decide +kernel
theorem dL_remove_10 : decode cL_remove 10 = .ok (.goto 11, 3) := by decide +kernel
theorem dL_remove_13 : decode cL_remove 13 = .ok (.astore 4, 2) := by decide +kernel
theorem dL_remove_15 : decode cL_remove 15 = .ok (.iconst 1, 1) := by decide +kernel
theorem dL_remove_16 : decode cL_remove 16 = .ok (.ireturn, 1) := by decide +kernel
theorem dL_remove_17 : decode cL_remove 17 = .ok (.astore 4, 2) := by decide +kernel
theorem dL_remove_19 : decode cL_remove 19 = .ok (.iconst 2, 1) := by decide +kernel
theorem dL_remove_20 : decode cL_remove 20 = .ok (.ireturn, 1) := by decide +kernel
theorem dL_remove_21 : decode cL_remove 21 = .ok (.iconst 0, 1) := by decide +kernel
theorem dL_remove_22 : decode cL_remove 22 = .ok (.ireturn, 1) := by decide +kernel
theorem dL_bring_0 : decode cL_bring 0 = .ok (.aload_n 0, 1) := by decide +kernel
theorem dL_bring_1 : decode cL_bring 1 = .ok (.iload_n 1, 1) := by decide +kernel
theorem dL_bring_2 : decode cL_bring 2 = .ok (.iload_n 2, 1) := by decide +kernel
theorem dL_bring_3 : decode cL_bring 3 = .ok (.iload_n 3, 1) := by decide +kernel
theorem dL_bring_4 : decode cL_bring 4 = .ok (.invokevirtual 21, 3) := by decide +kernel
theorem dL_bring_7 : decode cL_bring 7 = .ok (.goto 11, 3) := by decide +kernel
theorem dL_bring_10 : decode cL_bring 10 = .ok (.astore 4, 2) := by decide +kernel
theorem dL_bring_12 : decode cL_bring 12 = .ok (.iconst 1, 1) := by decide +kernel
theorem dL_bring_13 : decode cL_bring 13 = .ok (.ireturn, 1) := by decide +kernel
theorem dL_bring_14 : decode cL_bring 14 = .ok (.astore 4, 2) := by decide +kernel
theorem dL_bring_16 : decode cL_bring 16 = .ok (.iconst 2, 1) := by decide +kernel
theorem dL_bring_17 : decode cL_bring 17 = .ok (.ireturn, 1) := by decide +kernel
theorem dL_bring_18 : decode cL_bring 18 = .ok (.iconst 0, 1) := by decide +kernel
theorem dL_bring_19 : decode cL_bring 19 = .ok (.ireturn, 1) := by decide +kernel
theorem dL_merge_0 : decode cL_merge 0 = .ok (.aload_n 3, 1) := by decide +kernel
theorem dL_merge_1 : decode cL_merge 1 = .ok (.iconst 0, 1) := by decide +kernel
theorem dL_merge_2 : decode cL_merge 2 = .ok (.aload_n 0, 1) := by decide +kernel
theorem dL_merge_3 : decode cL_merge 3 = .ok (.iload_n 1, 1) := by decide +kernel
theorem dL_merge_4 : decode cL_merge 4 = .ok (.iload_n 2, 1) := by decide +kernel
theorem dL_merge_5 : decode cL_merge 5 = .ok (.invokevirtual 25, 3) := by decide +kernel
theorem dL_merge_8 : decode cL_merge 8 = .ok (.i2l, 1) := by decide +kernel
theorem dL_merge_9 : decode cL_merge 9 = .ok (.lastore, 1) := by decide +kernel
theorem dL_merge_10 : decode cL_merge 10 = .ok (.goto 7, 3) := by decide +kernel
theorem dL_merge_13 : decode cL_merge 13 = .ok (.astore 4, 2) := by decide +kernel
theorem dL_merge_15 : decode cL_merge 15 = .ok (.iconst 1, 1) := by decide +kernel
theorem dL_merge_16 : decode cL_merge 16 = .ok (.ireturn, 1) := by decide +kernel
theorem dL_merge_17 : decode cL_merge 17 = .ok (.iconst 0, 1) := by decide +kernel
theorem dL_merge_18 : decode cL_merge 18 = .ok (.ireturn, 1) := by decide +kernel
theorem dL_length_0 : decode cL_length 0 = .ok (.aload_n 2, 1) := by decide +kernel
theorem dL_length_1 : decode cL_length 1 = .ok (.iconst 0, 1) := by decide +kernel
theorem dL_length_2 : decode cL_length 2 = .ok (.aload_n 0, 1) := by decide +kernel
theorem dL_length_3 : decode cL_length 3 = .ok (.iload_n 1, 1) := by decide +kernel
theorem dL_length_4 : decode cL_length 4 = .ok (.invokevirtual 28, 3) := by decide +kernel
theorem dL_length_7 : decode cL_length 7 = .ok (.i2l, 1) := by decide +kernel
theorem dL_length_8 : decode cL_length 8 = .ok (.lastore, 1) := by decide +kernel
theorem dL_length_9 : decode cL_length 9 = .ok (.goto 6, 3) := by decide +kernel
theorem dL_length_12 : decode cL_length 12 = .ok (.astore_n 3, 1) := by decide +kernel
theorem dL_length_13 : decode cL_length 13 = .ok (.iconst 1, 1) := by decide +kernel
theorem dL_length_14 : decode cL_length 14 = .ok (.ireturn, 1) := by decide +kernel
theorem dL_length_15 : decode cL_length 15 = .ok (.iconst 0, 1) := by decide +kernel
theorem dL_length_16 : decode cL_length 16 = .ok (.ireturn, 1) := by decide +kernel
theorem dL_letter_0 : decode cL_letter 0 = .ok (.aload_n 3, 1) := by decide +kernel
theorem dL_letter_1 : decode cL_letter 1 = .ok (.iconst 0, 1) := by decide +kernel
theorem dL_letter_2 : decode cL_letter 2 = .ok (.aload_n 0, 1) := by decide +kernel
theorem dL_letter_3 : decode cL_letter 3 = .ok (.iload_n 1, 1) := by decide +kernel
theorem dL_letter_4 : decode cL_letter 4 = .ok (.iload_n 2, 1) := by decide +kernel
theorem dL_letter_5 : decode cL_letter 5 = .ok (.invokevirtual 32, 3) := by decide +kernel
theorem dL_letter_8 : decode cL_letter 8 = .ok (.i2l, 1) := by decide +kernel
theorem dL_letter_9 : decode cL_letter 9 = .ok (.lastore, 1) := by decide +kernel
theorem dL_letter_10 : decode cL_letter 10 = .ok (.goto 7, 3) := by decide +kernel
theorem dL_letter_13 : decode cL_letter 13 = .ok (.astore 4, 2) := by decide +kernel
theorem dL_letter_15 : decode cL_letter 15 = .ok (.iconst 1, 1) := by decide +kernel
theorem dL_letter_16 : decode cL_letter 16 = .ok (.ireturn, 1) := by decide +kernel
theorem dL_letter_17 : decode cL_letter 17 = .ok (.iconst 0, 1) := by decide +kernel
theorem dL_letter_18 : decode cL_letter 18 = .ok (.ireturn, 1) := by decide +kernel
theorem dL_name_0 : decode cL_name 0 = .ok (.aload_n 3, 1) := by decide +kernel
theorem dL_name_1 : decode cL_name 1 = .ok (.iconst 0, 1) := by decide +kernel
theorem dL_name_2 : decode cL_name 2 = .ok (.aload_n 0, 1) := by decide +kernel
theorem dL_name_3 : decode cL_name 3 = .ok (.iload_n 1, 1) := by decide +kernel
theorem dL_name_4 : decode cL_name 4 = .ok (.iload_n 2, 1) := by decide +kernel
theorem dL_name_5 : decode cL_name 5 = .ok (.invokevirtual 35, 3) := by decide +kernel
theorem dL_name_8 : decode cL_name 8 = .ok (.i2l, 1) := by decide +kernel
theorem dL_name_9 : decode cL_name 9 = .ok (.lastore, 1) := by decide +kernel
theorem dL_name_10 : decode cL_name 10 = .ok (.goto 7, 3) := by decide +kernel
theorem dL_name_13 : decode cL_name 13 = .ok (.astore 4, 2) := by decide +kernel
theorem dL_name_15 : decode cL_name 15 = .ok (.iconst 1, 1) := by decide +kernel
theorem dL_name_16 : decode cL_name 16 = .ok (.ireturn, 1) := by decide +kernel
theorem dL_name_17 : decode cL_name 17 = .ok (.iconst 0, 1) := by decide +kernel
theorem dL_name_18 : decode cL_name 18 = .ok (.ireturn, 1) := by decide +kernel
theorem dL_has_0 : decode cL_has 0 = .ok (.aload_n 3, 1) := by decide +kernel
theorem dL_has_1 : decode cL_has 1 = .ok (.iconst 0, 1) := by decide +kernel
theorem dL_has_2 : decode cL_has 2 = .ok (.aload_n 0, 1) := by decide +kernel
theorem dL_has_3 : decode cL_has 3 = .ok (.iload_n 1, 1) := by decide +kernel
theorem dL_has_4 : decode cL_has 4 = .ok (.iload_n 2, 1) := by decide +kernel
theorem dL_has_5 : decode cL_has 5 = .ok (.invokevirtual 38, 3) := by decide +kernel
theorem dL_has_8 : decode cL_has 8 = .ok (.i2l, 1) := by decide +kernel
theorem dL_has_9 : decode cL_has 9 = .ok (.lastore, 1) := by decide +kernel
theorem dL_has_10 : decode cL_has 10 = .ok (.goto 7, 3) := by decide +kernel
theorem dL_has_13 : decode cL_has 13 = .ok (.astore 4, 2) := by decide +kernel
theorem dL_has_15 : decode cL_has 15 = .ok (.iconst 1, 1) := by decide +kernel
theorem dL_has_16 : decode cL_has 16 = .ok (.ireturn, 1) := by decide +kernel
theorem dL_has_17 : decode cL_has 17 = .ok (.iconst 0, 1) := by decide +kernel
theorem dL_has_18 : decode cL_has 18 = .ok (.ireturn, 1) := by decide +kernel
theorem dL_law_0 : decode cL_law 0 = .ok (.new 8, 3) := by decide +kernel
theorem dL_law_3 : decode cL_law 3 = .ok (.dup, 1) := by decide +kernel
theorem dL_law_4 : decode cL_law 4 = .ok (.invokespecial 41, 3) := by decide +kernel
theorem dL_law_7 : decode cL_law 7 = .ok (.astore_n 1, 1) := by decide +kernel
theorem dL_law_8 : decode cL_law 8 = .ok (.new 42, 3) := by decide +kernel
theorem dL_law_11 : decode cL_law 11 = .ok (.dup, 1) := by decide +kernel
theorem dL_law_12 : decode cL_law 12 = .ok (.invokespecial 44, 3) := by decide +kernel
theorem dL_law_15 : decode cL_law 15 = .ok (.astore_n 2, 1) := by decide +kernel
theorem dL_law_16 : decode cL_law 16 = .ok (.iconst 1, 1) := by decide +kernel
theorem dL_law_17 : decode cL_law 17 = .ok (.newarray .long, 2) := by decide +kernel
theorem dL_law_19 : decode cL_law 19 = .ok (.astore_n 3, 1) := by decide +kernel
theorem dL_law_20 : decode cL_law 20 = .ok (.iconst 0, 1) := by decide +kernel
theorem dL_law_21 : decode cL_law 21 = .ok (.istore 4, 2) := by decide +kernel
theorem dL_law_23 : decode cL_law 23 = .ok (.iload 4, 2) := by decide +kernel
theorem dL_law_25 : decode cL_law 25 = .ok (.aload_n 0, 1) := by decide +kernel
theorem dL_law_26 : decode cL_law 26 = .ok (.arraylength, 1) := by decide +kernel
theorem dL_law_27 : decode cL_law 27 = .ok (.iconst 4, 1) := by decide +kernel
theorem dL_law_28 : decode cL_law 28 = .ok (.isub, 1) := by decide +kernel
theorem dL_law_29 : decode cL_law 29 = .ok (.if_icmp .gt 597, 3) := by decide +kernel
theorem dL_law_32 : decode cL_law 32 = .ok (.aload_n 0, 1) := by decide +kernel
theorem dL_law_33 : decode cL_law 33 = .ok (.iload 4, 2) := by decide +kernel
theorem dL_law_35 : decode cL_law 35 = .ok (.iaload, 1) := by decide +kernel
theorem dL_law_36 : decode cL_law 36 = .ok (.bipush 7, 2) := by decide +kernel
theorem dL_law_38 : decode cL_law 38 = .ok (.iand, 1) := by decide +kernel
theorem dL_law_39 : decode cL_law 39 = .ok (.tableswitch 581 0 7 #[45, 125, 193, 253, 321, 377, 445, 513], 45) := by decide +kernel
theorem dL_law_84 : decode cL_law 84 = .ok (.aload_n 1, 1) := by decide +kernel
theorem dL_law_85 : decode cL_law 85 = .ok (.aload_n 0, 1) := by decide +kernel
theorem dL_law_86 : decode cL_law 86 = .ok (.iload 4, 2) := by decide +kernel
theorem dL_law_88 : decode cL_law 88 = .ok (.iconst 1, 1) := by decide +kernel
theorem dL_law_89 : decode cL_law 89 = .ok (.iadd, 1) := by decide +kernel
theorem dL_law_90 : decode cL_law 90 = .ok (.iaload, 1) := by decide +kernel
theorem dL_law_91 : decode cL_law 91 = .ok (.aload_n 0, 1) := by decide +kernel
theorem dL_law_92 : decode cL_law 92 = .ok (.iload 4, 2) := by decide +kernel
theorem dL_law_94 : decode cL_law 94 = .ok (.iconst 2, 1) := by decide +kernel
theorem dL_law_95 : decode cL_law 95 = .ok (.iadd, 1) := by decide +kernel
theorem dL_law_96 : decode cL_law 96 = .ok (.iaload, 1) := by decide +kernel
theorem dL_law_97 : decode cL_law 97 = .ok (.aload_n 0, 1) := by decide +kernel
theorem dL_law_98 : decode cL_law 98 = .ok (.iload 4, 2) := by decide +kernel
theorem dL_law_100 : decode cL_law 100 = .ok (.iconst 3, 1) := by decide +kernel
theorem dL_law_101 : decode cL_law 101 = .ok (.iadd, 1) := by decide +kernel
theorem dL_law_102 : decode cL_law 102 = .ok (.iaload, 1) := by decide +kernel
theorem dL_law_103 : decode cL_law 103 = .ok (.aload_n 3, 1) := by decide +kernel
theorem dL_law_104 : decode cL_law 104 = .ok (.invokestatic 45, 3) := by decide +kernel
theorem dL_law_107 : decode cL_law 107 = .ok (.istore 5, 2) := by decide +kernel
theorem dL_law_109 : decode cL_law 109 = .ok (.aload_n 2, 1) := by decide +kernel
theorem dL_law_110 : decode cL_law 110 = .ok (.aload_n 0, 1) := by decide +kernel
theorem dL_law_111 : decode cL_law 111 = .ok (.iload 4, 2) := by decide +kernel
theorem dL_law_113 : decode cL_law 113 = .ok (.iconst 1, 1) := by decide +kernel
theorem dL_law_114 : decode cL_law 114 = .ok (.iadd, 1) := by decide +kernel
theorem dL_law_115 : decode cL_law 115 = .ok (.iaload, 1) := by decide +kernel
theorem dL_law_116 : decode cL_law 116 = .ok (.aload_n 0, 1) := by decide +kernel
theorem dL_law_117 : decode cL_law 117 = .ok (.iload 4, 2) := by decide +kernel
theorem dL_law_119 : decode cL_law 119 = .ok (.iconst 2, 1) := by decide +kernel
theorem dL_law_120 : decode cL_law 120 = .ok (.iadd, 1) := by decide +kernel
theorem dL_law_121 : decode cL_law 121 = .ok (.iaload, 1) := by decide +kernel
theorem dL_law_122 : decode cL_law 122 = .ok (.aload_n 0, 1) := by decide +kernel
theorem dL_law_123 : decode cL_law 123 = .ok (.iload 4, 2) := by decide +kernel
theorem dL_law_125 : decode cL_law 125 = .ok (.iconst 3, 1) := by decide +kernel
theorem dL_law_126 : decode cL_law 126 = .ok (.iadd, 1) := by decide +kernel
theorem dL_law_127 : decode cL_law 127 = .ok (.iaload, 1) := by decide +kernel
theorem dL_law_128 : decode cL_law 128 = .ok (.invokevirtual 50, 3) := by decide +kernel
theorem dL_law_131 : decode cL_law 131 = .ok (.istore 6, 2) := by decide +kernel
theorem dL_law_133 : decode cL_law 133 = .ok (.aload_n 2, 1) := by decide +kernel
theorem dL_law_134 : decode cL_law 134 = .ok (.invokevirtual 51, 3) := by decide +kernel
theorem dL_law_137 : decode cL_law 137 = .ok (.iload 5, 2) := by decide +kernel
theorem dL_law_139 : decode cL_law 139 = .ok (.if_icmp .eq 5, 3) := by decide +kernel
theorem dL_law_142 : decode cL_law 142 = .ok (.iconst 0, 1) := by decide +kernel
theorem dL_law_143 : decode cL_law 143 = .ok (.ireturn, 1) := by decide +kernel
theorem dL_law_144 : decode cL_law 144 = .ok (.iload 5, 2) := by decide +kernel
theorem dL_law_146 : decode cL_law 146 = .ok (.ifCond .ne 15, 3) := by decide +kernel
theorem dL_law_149 : decode cL_law 149 = .ok (.aload_n 3, 1) := by decide +kernel
theorem dL_law_150 : decode cL_law 150 = .ok (.iconst 0, 1) := by decide +kernel
theorem dL_law_151 : decode cL_law 151 = .ok (.laload, 1) := by decide +kernel
theorem dL_law_152 : decode cL_law 152 = .ok (.iload 6, 2) := by decide +kernel
theorem dL_law_154 : decode cL_law 154 = .ok (.i2l, 1) := by decide +kernel
theorem dL_law_155 : decode cL_law 155 = .ok (.lcmp, 1) := by decide +kernel
theorem dL_law_156 : decode cL_law 156 = .ok (.ifCond .eq 5, 3) := by decide +kernel
theorem dL_law_159 : decode cL_law 159 = .ok (.iconst 0, 1) := by decide +kernel
theorem dL_law_160 : decode cL_law 160 = .ok (.ireturn, 1) := by decide +kernel
theorem dL_law_161 : decode cL_law 161 = .ok (.goto 459, 3) := by decide +kernel
theorem dL_law_164 : decode cL_law 164 = .ok (.aload_n 1, 1) := by decide +kernel
theorem dL_law_165 : decode cL_law 165 = .ok (.aload_n 0, 1) := by decide +kernel
theorem dL_law_166 : decode cL_law 166 = .ok (.iload 4, 2) := by decide +kernel
theorem dL_law_168 : decode cL_law 168 = .ok (.iconst 1, 1) := by decide +kernel
theorem dL_law_169 : decode cL_law 169 = .ok (.iadd, 1) := by decide +kernel
theorem dL_law_170 : decode cL_law 170 = .ok (.iaload, 1) := by decide +kernel
theorem dL_law_171 : decode cL_law 171 = .ok (.aload_n 0, 1) := by decide +kernel
theorem dL_law_172 : decode cL_law 172 = .ok (.iload 4, 2) := by decide +kernel
theorem dL_law_174 : decode cL_law 174 = .ok (.iconst 2, 1) := by decide +kernel
theorem dL_law_175 : decode cL_law 175 = .ok (.iadd, 1) := by decide +kernel
theorem dL_law_176 : decode cL_law 176 = .ok (.iaload, 1) := by decide +kernel
theorem dL_law_177 : decode cL_law 177 = .ok (.aload_n 3, 1) := by decide +kernel
theorem dL_law_178 : decode cL_law 178 = .ok (.invokestatic 55, 3) := by decide +kernel
theorem dL_law_181 : decode cL_law 181 = .ok (.istore 5, 2) := by decide +kernel
theorem dL_law_183 : decode cL_law 183 = .ok (.aload_n 2, 1) := by decide +kernel
theorem dL_law_184 : decode cL_law 184 = .ok (.aload_n 0, 1) := by decide +kernel
theorem dL_law_185 : decode cL_law 185 = .ok (.iload 4, 2) := by decide +kernel
theorem dL_law_187 : decode cL_law 187 = .ok (.iconst 1, 1) := by decide +kernel
theorem dL_law_188 : decode cL_law 188 = .ok (.iadd, 1) := by decide +kernel
theorem dL_law_189 : decode cL_law 189 = .ok (.iaload, 1) := by decide +kernel
theorem dL_law_190 : decode cL_law 190 = .ok (.aload_n 0, 1) := by decide +kernel
theorem dL_law_191 : decode cL_law 191 = .ok (.iload 4, 2) := by decide +kernel
theorem dL_law_193 : decode cL_law 193 = .ok (.iconst 2, 1) := by decide +kernel
theorem dL_law_194 : decode cL_law 194 = .ok (.iadd, 1) := by decide +kernel
theorem dL_law_195 : decode cL_law 195 = .ok (.iaload, 1) := by decide +kernel
theorem dL_law_196 : decode cL_law 196 = .ok (.invokevirtual 58, 3) := by decide +kernel
theorem dL_law_199 : decode cL_law 199 = .ok (.istore 6, 2) := by decide +kernel
theorem dL_law_201 : decode cL_law 201 = .ok (.aload_n 2, 1) := by decide +kernel
theorem dL_law_202 : decode cL_law 202 = .ok (.invokevirtual 51, 3) := by decide +kernel
theorem dL_law_205 : decode cL_law 205 = .ok (.iload 5, 2) := by decide +kernel
theorem dL_law_207 : decode cL_law 207 = .ok (.if_icmp .eq 5, 3) := by decide +kernel
theorem dL_law_210 : decode cL_law 210 = .ok (.iconst 0, 1) := by decide +kernel
theorem dL_law_211 : decode cL_law 211 = .ok (.ireturn, 1) := by decide +kernel
theorem dL_law_212 : decode cL_law 212 = .ok (.iload 5, 2) := by decide +kernel
theorem dL_law_214 : decode cL_law 214 = .ok (.ifCond .ne 15, 3) := by decide +kernel
theorem dL_law_217 : decode cL_law 217 = .ok (.aload_n 3, 1) := by decide +kernel
theorem dL_law_218 : decode cL_law 218 = .ok (.iconst 0, 1) := by decide +kernel
theorem dL_law_219 : decode cL_law 219 = .ok (.laload, 1) := by decide +kernel
theorem dL_law_220 : decode cL_law 220 = .ok (.iload 6, 2) := by decide +kernel
theorem dL_law_222 : decode cL_law 222 = .ok (.i2l, 1) := by decide +kernel
theorem dL_law_223 : decode cL_law 223 = .ok (.lcmp, 1) := by decide +kernel
theorem dL_law_224 : decode cL_law 224 = .ok (.ifCond .eq 5, 3) := by decide +kernel
theorem dL_law_227 : decode cL_law 227 = .ok (.iconst 0, 1) := by decide +kernel
theorem dL_law_228 : decode cL_law 228 = .ok (.ireturn, 1) := by decide +kernel
theorem dL_law_229 : decode cL_law 229 = .ok (.goto 391, 3) := by decide +kernel
theorem dL_law_232 : decode cL_law 232 = .ok (.aload_n 1, 1) := by decide +kernel
theorem dL_law_233 : decode cL_law 233 = .ok (.aload_n 0, 1) := by decide +kernel
theorem dL_law_234 : decode cL_law 234 = .ok (.iload 4, 2) := by decide +kernel
theorem dL_law_236 : decode cL_law 236 = .ok (.iconst 1, 1) := by decide +kernel
theorem dL_law_237 : decode cL_law 237 = .ok (.iadd, 1) := by decide +kernel
theorem dL_law_238 : decode cL_law 238 = .ok (.iaload, 1) := by decide +kernel
theorem dL_law_239 : decode cL_law 239 = .ok (.aload_n 0, 1) := by decide +kernel
theorem dL_law_240 : decode cL_law 240 = .ok (.iload 4, 2) := by decide +kernel
theorem dL_law_242 : decode cL_law 242 = .ok (.iconst 2, 1) := by decide +kernel
theorem dL_law_243 : decode cL_law 243 = .ok (.iadd, 1) := by decide +kernel
theorem dL_law_244 : decode cL_law 244 = .ok (.iaload, 1) := by decide +kernel
theorem dL_law_245 : decode cL_law 245 = .ok (.aload_n 0, 1) := by decide +kernel
theorem dL_law_246 : decode cL_law 246 = .ok (.iload 4, 2) := by decide +kernel
theorem dL_law_248 : decode cL_law 248 = .ok (.iconst 3, 1) := by decide +kernel
theorem dL_law_249 : decode cL_law 249 = .ok (.iadd, 1) := by decide +kernel
theorem dL_law_250 : decode cL_law 250 = .ok (.iaload, 1) := by decide +kernel
theorem dL_law_251 : decode cL_law 251 = .ok (.invokestatic 59, 3) := by decide +kernel
theorem dL_law_254 : decode cL_law 254 = .ok (.istore 5, 2) := by decide +kernel
theorem dL_law_256 : decode cL_law 256 = .ok (.aload_n 2, 1) := by decide +kernel
theorem dL_law_257 : decode cL_law 257 = .ok (.aload_n 0, 1) := by decide +kernel
theorem dL_law_258 : decode cL_law 258 = .ok (.iload 4, 2) := by decide +kernel
theorem dL_law_260 : decode cL_law 260 = .ok (.iconst 1, 1) := by decide +kernel
theorem dL_law_261 : decode cL_law 261 = .ok (.iadd, 1) := by decide +kernel
theorem dL_law_262 : decode cL_law 262 = .ok (.iaload, 1) := by decide +kernel
theorem dL_law_263 : decode cL_law 263 = .ok (.aload_n 0, 1) := by decide +kernel
theorem dL_law_264 : decode cL_law 264 = .ok (.iload 4, 2) := by decide +kernel
theorem dL_law_266 : decode cL_law 266 = .ok (.iconst 2, 1) := by decide +kernel
theorem dL_law_267 : decode cL_law 267 = .ok (.iadd, 1) := by decide +kernel
theorem dL_law_268 : decode cL_law 268 = .ok (.iaload, 1) := by decide +kernel
theorem dL_law_269 : decode cL_law 269 = .ok (.aload_n 0, 1) := by decide +kernel
theorem dL_law_270 : decode cL_law 270 = .ok (.iload 4, 2) := by decide +kernel
theorem dL_law_272 : decode cL_law 272 = .ok (.iconst 3, 1) := by decide +kernel
theorem dL_law_273 : decode cL_law 273 = .ok (.iadd, 1) := by decide +kernel
theorem dL_law_274 : decode cL_law 274 = .ok (.iaload, 1) := by decide +kernel
theorem dL_law_275 : decode cL_law 275 = .ok (.invokevirtual 62, 3) := by decide +kernel
theorem dL_law_278 : decode cL_law 278 = .ok (.aload_n 2, 1) := by decide +kernel
theorem dL_law_279 : decode cL_law 279 = .ok (.invokevirtual 51, 3) := by decide +kernel
theorem dL_law_282 : decode cL_law 282 = .ok (.iload 5, 2) := by decide +kernel
theorem dL_law_284 : decode cL_law 284 = .ok (.if_icmp .eq 5, 3) := by decide +kernel
theorem dL_law_287 : decode cL_law 287 = .ok (.iconst 0, 1) := by decide +kernel
theorem dL_law_288 : decode cL_law 288 = .ok (.ireturn, 1) := by decide +kernel
theorem dL_law_289 : decode cL_law 289 = .ok (.goto 331, 3) := by decide +kernel
theorem dL_law_292 : decode cL_law 292 = .ok (.aload_n 1, 1) := by decide +kernel
theorem dL_law_293 : decode cL_law 293 = .ok (.aload_n 0, 1) := by decide +kernel
theorem dL_law_294 : decode cL_law 294 = .ok (.iload 4, 2) := by decide +kernel
theorem dL_law_296 : decode cL_law 296 = .ok (.iconst 1, 1) := by decide +kernel
theorem dL_law_297 : decode cL_law 297 = .ok (.iadd, 1) := by decide +kernel
theorem dL_law_298 : decode cL_law 298 = .ok (.iaload, 1) := by decide +kernel
theorem dL_law_299 : decode cL_law 299 = .ok (.aload_n 0, 1) := by decide +kernel
theorem dL_law_300 : decode cL_law 300 = .ok (.iload 4, 2) := by decide +kernel
theorem dL_law_302 : decode cL_law 302 = .ok (.iconst 2, 1) := by decide +kernel
theorem dL_law_303 : decode cL_law 303 = .ok (.iadd, 1) := by decide +kernel
theorem dL_law_304 : decode cL_law 304 = .ok (.iaload, 1) := by decide +kernel
theorem dL_law_305 : decode cL_law 305 = .ok (.aload_n 3, 1) := by decide +kernel
theorem dL_law_306 : decode cL_law 306 = .ok (.invokestatic 63, 3) := by decide +kernel
theorem dL_law_309 : decode cL_law 309 = .ok (.istore 5, 2) := by decide +kernel
theorem dL_law_311 : decode cL_law 311 = .ok (.aload_n 2, 1) := by decide +kernel
theorem dL_law_312 : decode cL_law 312 = .ok (.aload_n 0, 1) := by decide +kernel
theorem dL_law_313 : decode cL_law 313 = .ok (.iload 4, 2) := by decide +kernel
theorem dL_law_315 : decode cL_law 315 = .ok (.iconst 1, 1) := by decide +kernel
theorem dL_law_316 : decode cL_law 316 = .ok (.iadd, 1) := by decide +kernel
theorem dL_law_317 : decode cL_law 317 = .ok (.iaload, 1) := by decide +kernel
theorem dL_law_318 : decode cL_law 318 = .ok (.aload_n 0, 1) := by decide +kernel
theorem dL_law_319 : decode cL_law 319 = .ok (.iload 4, 2) := by decide +kernel
theorem dL_law_321 : decode cL_law 321 = .ok (.iconst 2, 1) := by decide +kernel
theorem dL_law_322 : decode cL_law 322 = .ok (.iadd, 1) := by decide +kernel
theorem dL_law_323 : decode cL_law 323 = .ok (.iaload, 1) := by decide +kernel
theorem dL_law_324 : decode cL_law 324 = .ok (.invokevirtual 65, 3) := by decide +kernel
theorem dL_law_327 : decode cL_law 327 = .ok (.istore 6, 2) := by decide +kernel
theorem dL_law_329 : decode cL_law 329 = .ok (.aload_n 2, 1) := by decide +kernel
theorem dL_law_330 : decode cL_law 330 = .ok (.invokevirtual 51, 3) := by decide +kernel
theorem dL_law_333 : decode cL_law 333 = .ok (.iload 5, 2) := by decide +kernel
theorem dL_law_335 : decode cL_law 335 = .ok (.if_icmp .eq 5, 3) := by decide +kernel
theorem dL_law_338 : decode cL_law 338 = .ok (.iconst 0, 1) := by decide +kernel
theorem dL_law_339 : decode cL_law 339 = .ok (.ireturn, 1) := by decide +kernel
theorem dL_law_340 : decode cL_law 340 = .ok (.iload 5, 2) := by decide +kernel
theorem dL_law_342 : decode cL_law 342 = .ok (.ifCond .ne 15, 3) := by decide +kernel
theorem dL_law_345 : decode cL_law 345 = .ok (.aload_n 3, 1) := by decide +kernel
theorem dL_law_346 : decode cL_law 346 = .ok (.iconst 0, 1) := by decide +kernel
theorem dL_law_347 : decode cL_law 347 = .ok (.laload, 1) := by decide +kernel
theorem dL_law_348 : decode cL_law 348 = .ok (.iload 6, 2) := by decide +kernel
theorem dL_law_350 : decode cL_law 350 = .ok (.i2l, 1) := by decide +kernel
theorem dL_law_351 : decode cL_law 351 = .ok (.lcmp, 1) := by decide +kernel
theorem dL_law_352 : decode cL_law 352 = .ok (.ifCond .eq 5, 3) := by decide +kernel
theorem dL_law_355 : decode cL_law 355 = .ok (.iconst 0, 1) := by decide +kernel
theorem dL_law_356 : decode cL_law 356 = .ok (.ireturn, 1) := by decide +kernel
theorem dL_law_357 : decode cL_law 357 = .ok (.goto 263, 3) := by decide +kernel
theorem dL_law_360 : decode cL_law 360 = .ok (.aload_n 1, 1) := by decide +kernel
theorem dL_law_361 : decode cL_law 361 = .ok (.aload_n 0, 1) := by decide +kernel
theorem dL_law_362 : decode cL_law 362 = .ok (.iload 4, 2) := by decide +kernel
theorem dL_law_364 : decode cL_law 364 = .ok (.iconst 1, 1) := by decide +kernel
theorem dL_law_365 : decode cL_law 365 = .ok (.iadd, 1) := by decide +kernel
theorem dL_law_366 : decode cL_law 366 = .ok (.iaload, 1) := by decide +kernel
theorem dL_law_367 : decode cL_law 367 = .ok (.aload_n 3, 1) := by decide +kernel
theorem dL_law_368 : decode cL_law 368 = .ok (.invokestatic 66, 3) := by decide +kernel
theorem dL_law_371 : decode cL_law 371 = .ok (.istore 5, 2) := by decide +kernel
theorem dL_law_373 : decode cL_law 373 = .ok (.aload_n 2, 1) := by decide +kernel
theorem dL_law_374 : decode cL_law 374 = .ok (.aload_n 0, 1) := by decide +kernel
theorem dL_law_375 : decode cL_law 375 = .ok (.iload 4, 2) := by decide +kernel
theorem dL_law_377 : decode cL_law 377 = .ok (.iconst 1, 1) := by decide +kernel
theorem dL_law_378 : decode cL_law 378 = .ok (.iadd, 1) := by decide +kernel
theorem dL_law_379 : decode cL_law 379 = .ok (.iaload, 1) := by decide +kernel
theorem dL_law_380 : decode cL_law 380 = .ok (.invokevirtual 69, 3) := by decide +kernel
theorem dL_law_383 : decode cL_law 383 = .ok (.istore 6, 2) := by decide +kernel
theorem dL_law_385 : decode cL_law 385 = .ok (.aload_n 2, 1) := by decide +kernel
theorem dL_law_386 : decode cL_law 386 = .ok (.invokevirtual 51, 3) := by decide +kernel
theorem dL_law_389 : decode cL_law 389 = .ok (.iload 5, 2) := by decide +kernel
theorem dL_law_391 : decode cL_law 391 = .ok (.if_icmp .eq 5, 3) := by decide +kernel
theorem dL_law_394 : decode cL_law 394 = .ok (.iconst 0, 1) := by decide +kernel
theorem dL_law_395 : decode cL_law 395 = .ok (.ireturn, 1) := by decide +kernel
theorem dL_law_396 : decode cL_law 396 = .ok (.iload 5, 2) := by decide +kernel
theorem dL_law_398 : decode cL_law 398 = .ok (.ifCond .ne 15, 3) := by decide +kernel
theorem dL_law_401 : decode cL_law 401 = .ok (.aload_n 3, 1) := by decide +kernel
theorem dL_law_402 : decode cL_law 402 = .ok (.iconst 0, 1) := by decide +kernel
theorem dL_law_403 : decode cL_law 403 = .ok (.laload, 1) := by decide +kernel
theorem dL_law_404 : decode cL_law 404 = .ok (.iload 6, 2) := by decide +kernel
theorem dL_law_406 : decode cL_law 406 = .ok (.i2l, 1) := by decide +kernel
theorem dL_law_407 : decode cL_law 407 = .ok (.lcmp, 1) := by decide +kernel
theorem dL_law_408 : decode cL_law 408 = .ok (.ifCond .eq 5, 3) := by decide +kernel
theorem dL_law_411 : decode cL_law 411 = .ok (.iconst 0, 1) := by decide +kernel
theorem dL_law_412 : decode cL_law 412 = .ok (.ireturn, 1) := by decide +kernel
theorem dL_law_413 : decode cL_law 413 = .ok (.goto 207, 3) := by decide +kernel
theorem dL_law_416 : decode cL_law 416 = .ok (.aload_n 1, 1) := by decide +kernel
theorem dL_law_417 : decode cL_law 417 = .ok (.aload_n 0, 1) := by decide +kernel
theorem dL_law_418 : decode cL_law 418 = .ok (.iload 4, 2) := by decide +kernel
theorem dL_law_420 : decode cL_law 420 = .ok (.iconst 1, 1) := by decide +kernel
theorem dL_law_421 : decode cL_law 421 = .ok (.iadd, 1) := by decide +kernel
theorem dL_law_422 : decode cL_law 422 = .ok (.iaload, 1) := by decide +kernel
theorem dL_law_423 : decode cL_law 423 = .ok (.aload_n 0, 1) := by decide +kernel
theorem dL_law_424 : decode cL_law 424 = .ok (.iload 4, 2) := by decide +kernel
theorem dL_law_426 : decode cL_law 426 = .ok (.iconst 2, 1) := by decide +kernel
theorem dL_law_427 : decode cL_law 427 = .ok (.iadd, 1) := by decide +kernel
theorem dL_law_428 : decode cL_law 428 = .ok (.iaload, 1) := by decide +kernel
theorem dL_law_429 : decode cL_law 429 = .ok (.aload_n 3, 1) := by decide +kernel
theorem dL_law_430 : decode cL_law 430 = .ok (.invokestatic 70, 3) := by decide +kernel
theorem dL_law_433 : decode cL_law 433 = .ok (.istore 5, 2) := by decide +kernel
theorem dL_law_435 : decode cL_law 435 = .ok (.aload_n 2, 1) := by decide +kernel
theorem dL_law_436 : decode cL_law 436 = .ok (.aload_n 0, 1) := by decide +kernel
theorem dL_law_437 : decode cL_law 437 = .ok (.iload 4, 2) := by decide +kernel
theorem dL_law_439 : decode cL_law 439 = .ok (.iconst 1, 1) := by decide +kernel
theorem dL_law_440 : decode cL_law 440 = .ok (.iadd, 1) := by decide +kernel
theorem dL_law_441 : decode cL_law 441 = .ok (.iaload, 1) := by decide +kernel
theorem dL_law_442 : decode cL_law 442 = .ok (.aload_n 0, 1) := by decide +kernel
theorem dL_law_443 : decode cL_law 443 = .ok (.iload 4, 2) := by decide +kernel
theorem dL_law_445 : decode cL_law 445 = .ok (.iconst 2, 1) := by decide +kernel
theorem dL_law_446 : decode cL_law 446 = .ok (.iadd, 1) := by decide +kernel
theorem dL_law_447 : decode cL_law 447 = .ok (.iaload, 1) := by decide +kernel
theorem dL_law_448 : decode cL_law 448 = .ok (.invokevirtual 72, 3) := by decide +kernel
theorem dL_law_451 : decode cL_law 451 = .ok (.istore 6, 2) := by decide +kernel
theorem dL_law_453 : decode cL_law 453 = .ok (.aload_n 2, 1) := by decide +kernel
theorem dL_law_454 : decode cL_law 454 = .ok (.invokevirtual 51, 3) := by decide +kernel
theorem dL_law_457 : decode cL_law 457 = .ok (.iload 5, 2) := by decide +kernel
theorem dL_law_459 : decode cL_law 459 = .ok (.if_icmp .eq 5, 3) := by decide +kernel
theorem dL_law_462 : decode cL_law 462 = .ok (.iconst 0, 1) := by decide +kernel
theorem dL_law_463 : decode cL_law 463 = .ok (.ireturn, 1) := by decide +kernel
theorem dL_law_464 : decode cL_law 464 = .ok (.iload 5, 2) := by decide +kernel
theorem dL_law_466 : decode cL_law 466 = .ok (.ifCond .ne 15, 3) := by decide +kernel
theorem dL_law_469 : decode cL_law 469 = .ok (.aload_n 3, 1) := by decide +kernel
theorem dL_law_470 : decode cL_law 470 = .ok (.iconst 0, 1) := by decide +kernel
theorem dL_law_471 : decode cL_law 471 = .ok (.laload, 1) := by decide +kernel
theorem dL_law_472 : decode cL_law 472 = .ok (.iload 6, 2) := by decide +kernel
theorem dL_law_474 : decode cL_law 474 = .ok (.i2l, 1) := by decide +kernel
theorem dL_law_475 : decode cL_law 475 = .ok (.lcmp, 1) := by decide +kernel
theorem dL_law_476 : decode cL_law 476 = .ok (.ifCond .eq 5, 3) := by decide +kernel
theorem dL_law_479 : decode cL_law 479 = .ok (.iconst 0, 1) := by decide +kernel
theorem dL_law_480 : decode cL_law 480 = .ok (.ireturn, 1) := by decide +kernel
theorem dL_law_481 : decode cL_law 481 = .ok (.goto 139, 3) := by decide +kernel
theorem dL_law_484 : decode cL_law 484 = .ok (.aload_n 1, 1) := by decide +kernel
theorem dL_law_485 : decode cL_law 485 = .ok (.aload_n 0, 1) := by decide +kernel
theorem dL_law_486 : decode cL_law 486 = .ok (.iload 4, 2) := by decide +kernel
theorem dL_law_488 : decode cL_law 488 = .ok (.iconst 1, 1) := by decide +kernel
theorem dL_law_489 : decode cL_law 489 = .ok (.iadd, 1) := by decide +kernel
theorem dL_law_490 : decode cL_law 490 = .ok (.iaload, 1) := by decide +kernel
theorem dL_law_491 : decode cL_law 491 = .ok (.aload_n 0, 1) := by decide +kernel
theorem dL_law_492 : decode cL_law 492 = .ok (.iload 4, 2) := by decide +kernel
theorem dL_law_494 : decode cL_law 494 = .ok (.iconst 2, 1) := by decide +kernel
theorem dL_law_495 : decode cL_law 495 = .ok (.iadd, 1) := by decide +kernel
theorem dL_law_496 : decode cL_law 496 = .ok (.iaload, 1) := by decide +kernel
theorem dL_law_497 : decode cL_law 497 = .ok (.aload_n 3, 1) := by decide +kernel
theorem dL_law_498 : decode cL_law 498 = .ok (.invokestatic 73, 3) := by decide +kernel
theorem dL_law_501 : decode cL_law 501 = .ok (.istore 5, 2) := by decide +kernel
theorem dL_law_503 : decode cL_law 503 = .ok (.aload_n 2, 1) := by decide +kernel
theorem dL_law_504 : decode cL_law 504 = .ok (.aload_n 0, 1) := by decide +kernel
theorem dL_law_505 : decode cL_law 505 = .ok (.iload 4, 2) := by decide +kernel
theorem dL_law_507 : decode cL_law 507 = .ok (.iconst 1, 1) := by decide +kernel
theorem dL_law_508 : decode cL_law 508 = .ok (.iadd, 1) := by decide +kernel
theorem dL_law_509 : decode cL_law 509 = .ok (.iaload, 1) := by decide +kernel
theorem dL_law_510 : decode cL_law 510 = .ok (.aload_n 0, 1) := by decide +kernel
theorem dL_law_511 : decode cL_law 511 = .ok (.iload 4, 2) := by decide +kernel
theorem dL_law_513 : decode cL_law 513 = .ok (.iconst 2, 1) := by decide +kernel
theorem dL_law_514 : decode cL_law 514 = .ok (.iadd, 1) := by decide +kernel
theorem dL_law_515 : decode cL_law 515 = .ok (.iaload, 1) := by decide +kernel
theorem dL_law_516 : decode cL_law 516 = .ok (.invokevirtual 75, 3) := by decide +kernel
theorem dL_law_519 : decode cL_law 519 = .ok (.istore 6, 2) := by decide +kernel
theorem dL_law_521 : decode cL_law 521 = .ok (.aload_n 2, 1) := by decide +kernel
theorem dL_law_522 : decode cL_law 522 = .ok (.invokevirtual 51, 3) := by decide +kernel
theorem dL_law_525 : decode cL_law 525 = .ok (.iload 5, 2) := by decide +kernel
theorem dL_law_527 : decode cL_law 527 = .ok (.if_icmp .eq 5, 3) := by decide +kernel
theorem dL_law_530 : decode cL_law 530 = .ok (.iconst 0, 1) := by decide +kernel
theorem dL_law_531 : decode cL_law 531 = .ok (.ireturn, 1) := by decide +kernel
theorem dL_law_532 : decode cL_law 532 = .ok (.iload 5, 2) := by decide +kernel
theorem dL_law_534 : decode cL_law 534 = .ok (.ifCond .ne 15, 3) := by decide +kernel
theorem dL_law_537 : decode cL_law 537 = .ok (.aload_n 3, 1) := by decide +kernel
theorem dL_law_538 : decode cL_law 538 = .ok (.iconst 0, 1) := by decide +kernel
theorem dL_law_539 : decode cL_law 539 = .ok (.laload, 1) := by decide +kernel
theorem dL_law_540 : decode cL_law 540 = .ok (.iload 6, 2) := by decide +kernel
theorem dL_law_542 : decode cL_law 542 = .ok (.i2l, 1) := by decide +kernel
theorem dL_law_543 : decode cL_law 543 = .ok (.lcmp, 1) := by decide +kernel
theorem dL_law_544 : decode cL_law 544 = .ok (.ifCond .eq 5, 3) := by decide +kernel
theorem dL_law_547 : decode cL_law 547 = .ok (.iconst 0, 1) := by decide +kernel
theorem dL_law_548 : decode cL_law 548 = .ok (.ireturn, 1) := by decide +kernel
theorem dL_law_549 : decode cL_law 549 = .ok (.goto 71, 3) := by decide +kernel
theorem dL_law_552 : decode cL_law 552 = .ok (.aload_n 1, 1) := by decide +kernel
theorem dL_law_553 : decode cL_law 553 = .ok (.aload_n 0, 1) := by decide +kernel
theorem dL_law_554 : decode cL_law 554 = .ok (.iload 4, 2) := by decide +kernel
theorem dL_law_556 : decode cL_law 556 = .ok (.iconst 1, 1) := by decide +kernel
theorem dL_law_557 : decode cL_law 557 = .ok (.iadd, 1) := by decide +kernel
theorem dL_law_558 : decode cL_law 558 = .ok (.iaload, 1) := by decide +kernel
theorem dL_law_559 : decode cL_law 559 = .ok (.aload_n 0, 1) := by decide +kernel
theorem dL_law_560 : decode cL_law 560 = .ok (.iload 4, 2) := by decide +kernel
theorem dL_law_562 : decode cL_law 562 = .ok (.iconst 2, 1) := by decide +kernel
theorem dL_law_563 : decode cL_law 563 = .ok (.iadd, 1) := by decide +kernel
theorem dL_law_564 : decode cL_law 564 = .ok (.iaload, 1) := by decide +kernel
theorem dL_law_565 : decode cL_law 565 = .ok (.aload_n 3, 1) := by decide +kernel
theorem dL_law_566 : decode cL_law 566 = .ok (.invokestatic 76, 3) := by decide +kernel
theorem dL_law_569 : decode cL_law 569 = .ok (.istore 5, 2) := by decide +kernel
theorem dL_law_571 : decode cL_law 571 = .ok (.aload_n 2, 1) := by decide +kernel
theorem dL_law_572 : decode cL_law 572 = .ok (.aload_n 0, 1) := by decide +kernel
theorem dL_law_573 : decode cL_law 573 = .ok (.iload 4, 2) := by decide +kernel
theorem dL_law_575 : decode cL_law 575 = .ok (.iconst 1, 1) := by decide +kernel
theorem dL_law_576 : decode cL_law 576 = .ok (.iadd, 1) := by decide +kernel
theorem dL_law_577 : decode cL_law 577 = .ok (.iaload, 1) := by decide +kernel
theorem dL_law_578 : decode cL_law 578 = .ok (.aload_n 0, 1) := by decide +kernel
theorem dL_law_579 : decode cL_law 579 = .ok (.iload 4, 2) := by decide +kernel
theorem dL_law_581 : decode cL_law 581 = .ok (.iconst 2, 1) := by decide +kernel
theorem dL_law_582 : decode cL_law 582 = .ok (.iadd, 1) := by decide +kernel
theorem dL_law_583 : decode cL_law 583 = .ok (.iaload, 1) := by decide +kernel
theorem dL_law_584 : decode cL_law 584 = .ok (.invokevirtual 78, 3) := by decide +kernel
theorem dL_law_587 : decode cL_law 587 = .ok (.istore 6, 2) := by decide +kernel
theorem dL_law_589 : decode cL_law 589 = .ok (.aload_n 2, 1) := by decide +kernel
theorem dL_law_590 : decode cL_law 590 = .ok (.invokevirtual 51, 3) := by decide +kernel
theorem dL_law_593 : decode cL_law 593 = .ok (.iload 5, 2) := by decide +kernel
theorem dL_law_595 : decode cL_law 595 = .ok (.if_icmp .eq 5, 3) := by decide +kernel
theorem dL_law_598 : decode cL_law 598 = .ok (.iconst 0, 1) := by decide +kernel
theorem dL_law_599 : decode cL_law 599 = .ok (.ireturn, 1) := by decide +kernel
theorem dL_law_600 : decode cL_law 600 = .ok (.iload 5, 2) := by decide +kernel
theorem dL_law_602 : decode cL_law 602 = .ok (.ifCond .ne 15, 3) := by decide +kernel
theorem dL_law_605 : decode cL_law 605 = .ok (.aload_n 3, 1) := by decide +kernel
theorem dL_law_606 : decode cL_law 606 = .ok (.iconst 0, 1) := by decide +kernel
theorem dL_law_607 : decode cL_law 607 = .ok (.laload, 1) := by decide +kernel
theorem dL_law_608 : decode cL_law 608 = .ok (.iload 6, 2) := by decide +kernel
theorem dL_law_610 : decode cL_law 610 = .ok (.i2l, 1) := by decide +kernel
theorem dL_law_611 : decode cL_law 611 = .ok (.lcmp, 1) := by decide +kernel
theorem dL_law_612 : decode cL_law 612 = .ok (.ifCond .eq 5, 3) := by decide +kernel
theorem dL_law_615 : decode cL_law 615 = .ok (.iconst 0, 1) := by decide +kernel
theorem dL_law_616 : decode cL_law 616 = .ok (.ireturn, 1) := by decide +kernel
theorem dL_law_617 : decode cL_law 617 = .ok (.goto 3, 3) := by decide +kernel
theorem dL_law_620 : decode cL_law 620 = .ok (.iinc 4 4, 3) := by decide +kernel
theorem dL_law_623 : decode cL_law 623 = .ok (.goto (-600), 3) := by decide +kernel
theorem dL_law_626 : decode cL_law 626 = .ok (.iconst 1, 1) := by decide +kernel
theorem dL_law_627 : decode cL_law 627 = .ok (.ireturn, 1) := by decide +kernel
end
section
/-! The tree of letters as a sequence: T lists the letters in ORDER, T 0 = 0 the START; n gives a letter's NAME as a number. -/
def tw_tree (L : Nat) (T n fs sb up : Nat → Nat) : Prop :=
  (∀ i, 1 ≤ i → i < L → ∃ j, j < i ∧ up (T i) = T j ∧ n (T j) < n (T i) ∧ ∀ k, j < k → k < i → n (T i) < n (T k)) ∧
  (∀ i, i < L → (i + 1 < L ∧ n (T i) < n (T (i + 1)) ∧ fs (T i) = T (i + 1)) ∨ (fs (T i) = 0 ∧ (i + 1 < L → n (T (i + 1)) < n (T i)))) ∧
  (∀ i, 1 ≤ i → i < L → ∃ j, i < j ∧ j ≤ L ∧ (∀ k, i < k → k < j → n (T i) < n (T k)) ∧ (j < L → n (T j) < n (T i)) ∧
    ((j < L ∧ sb (T i) = T j ∧ up (T j) = up (T i)) ∨ (sb (T i) = 0 ∧ (j < L → n (T j) < n (up (T i))))))
/-- T lists 0 .. L-1, each once, 0 first -/
def tw_list (L : Nat) (T : Nat → Nat) : Prop :=
  1 ≤ L ∧ T 0 = 0 ∧ (∀ i, i < L → T i < L) ∧ (∀ i j, i < L → j < L → T i = T j → i = j) ∧ ∀ l, l < L → ∃ i, i < L ∧ T i = l
/-- a walk along the siblings behind the letter at P: all up to q is passed, 'to' is the next one or 0 -/
def tw_sw (L : Nat) (T n up : Nat → Nat) (P q to : Nat) : Prop :=
  P < q ∧ q ≤ L ∧ (∀ k, P < k → k < q → n (T P) < n (T k)) ∧ ((q < L ∧ to = T q ∧ up (T q) = T P) ∨ (to = 0 ∧ (q < L → n (T q) < n (T P))))
theorem tw_pos {L : Nat} {T : Nat → Nat} (h : tw_list L T) {i : Nat} (h1 : 1 ≤ i) (hi : i < L) : 1 ≤ T i := by
  obtain ⟨h0, h2, -, h3, -⟩ := h
  rcases Nat.eq_zero_or_pos (T i) with e | e
  · have := h3 i 0 hi (by omega) (by rw [e, h2])
    omega
  · exact e
theorem tw_swf {L : Nat} {T n fs sb up : Nat → Nat} (h : tw_tree L T n fs sb up) {i : Nat} (hi : i < L) : tw_sw L T n up i (i + 1) (fs (T i)) := by
  obtain ⟨hU, hF, -⟩ := h
  refine ⟨by omega, by omega, fun k h1 h2 => by omega, ?_⟩
  rcases hF i hi with ⟨h1, h2, h3⟩ | ⟨h1, h2⟩
  · refine Or.inl ⟨h1, h3, ?_⟩
    obtain ⟨j, hj, e, hn, hk⟩ := hU (i + 1) (by omega) h1
    rcases Nat.lt_or_ge j i with g | g
    · have := hk i g (by omega)
      omega
    · have : j = i := by omega
      rw [e, this]
  · exact Or.inr ⟨h1, h2⟩
theorem tw_swn {L : Nat} {T n fs sb up : Nat → Nat} (hl : tw_list L T) (h : tw_tree L T n fs sb up) {P q to : Nat} (w : tw_sw L T n up P q to) (h0 : to ≠ 0) : to = T q ∧ q < L ∧ up (T q) = T P ∧ n (T P) < n (T q) ∧ ∃ q', q < q' ∧ tw_sw L T n up P q' (sb to) ∧ (∀ k, q < k → k < q' → n (T q) < n (T k)) ∧ (q' < L → n (T q') < n (T q)) := by
  obtain ⟨hU, -, hS⟩ := h
  obtain ⟨h1, h2, h3, h4⟩ := w
  rcases h4 with ⟨g1, rfl, g3⟩ | ⟨g1, -⟩
  · obtain ⟨j, hj, e, hn, -⟩ := hU q (by omega) g1
    have hjP : j = P := hl.2.2.2.1 j P (by omega) (by omega) (by rw [← e, g3])
    subst hjP
    obtain ⟨r, r1, r2, r3, r4, r5⟩ := hS q (by omega) g1
    refine ⟨rfl, g1, g3, hn, r, r1, ⟨by omega, r2, fun k a b => ?_, ?_⟩, r3, r4⟩
    · rcases Nat.lt_trichotomy k q with g | g | g
      · exact h3 k a g
      · rw [g]; exact hn
      · exact Nat.lt_trans hn (r3 k g b)
    · rcases r5 with ⟨x1, x2, x3⟩ | ⟨x1, x2⟩
      · exact Or.inl ⟨x1, x2, by rw [x3, g3]⟩
      · exact Or.inr ⟨x1, fun g => by rw [← g3]; exact x2 g⟩
  · exact absurd g1 h0
/-- the way on from a letter whose own ones are all passed -/
theorem tw_sws {L : Nat} {T n fs sb up : Nat → Nat} (h : tw_tree L T n fs sb up) (hinj : ∀ i j, i < L → j < L → n (T i) = n (T j) → i = j) {i q : Nat} (h1 : 1 ≤ i) (hi : i < L) (hq : i < q) (hqL : q ≤ L) (hb : ∀ k, i < k → k < q → n (T i) < n (T k)) (he : q < L → n (T q) < n (T i)) : ∃ P, P < i ∧ up (T i) = T P ∧ n (T P) < n (T i) ∧ tw_sw L T n up P q (sb (T i)) := by
  obtain ⟨hU, -, hS⟩ := h
  obtain ⟨P, p1, p2, p3, p4⟩ := hU i h1 hi
  obtain ⟨j, j1, j2, j3, j4, j5⟩ := hS i h1 hi
  have hjq : j = q := by
    rcases Nat.lt_trichotomy j q with g | g | g
    · have := hb j j1 g
      have := j4 (by omega)
      omega
    · exact g
    · have := j3 q hq g
      have := he (by omega)
      omega
  subst hjq
  refine ⟨P, p1, p2, p3, by omega, j2, fun k a b => ?_, ?_⟩
  · rcases Nat.lt_trichotomy k i with g | g | g
    · have := p4 k a g
      omega
    · rw [g]; exact p3
    · exact Nat.lt_trans p3 (j3 k g b)
  · rcases j5 with ⟨x1, x2, x3⟩ | ⟨x1, x2⟩
    · exact Or.inl ⟨x1, x2, by rw [x3, p2]⟩
    · exact Or.inr ⟨x1, fun g => by rw [← p2]; exact x2 g⟩
/-- what a copy lacks, it lacks with all that stands behind it -/
theorem tw_lack {L : Nat} {T n fs sb up : Nat → Nat} (h : tw_tree L T n fs sb up) {In : Nat → Prop} (hin : ∀ i, 1 ≤ i → i < L → up (T i) ≠ 0 → In (T i) → In (up (T i))) (h0 : T 0 = 0) (hz : ∀ i, 1 ≤ i → i < L → T i ≠ 0) {i q : Nat} (h1 : 1 ≤ i) (hq : q ≤ L) (hb : ∀ k, i < k → k < q → n (T i) < n (T k)) (hi : ¬ In (T i)) : ∀ k, i ≤ k → k < q → ¬ In (T k) := by
  intro k
  induction k using Nat.strongRecOn with
  | _ k ih =>
    intro a b hk
    rcases Nat.lt_or_ge i k with g | g
    · obtain ⟨j, j1, j2, j3, j4⟩ := h.1 k (by omega) (by omega)
      have hij : i ≤ j := by
        rcases Nat.lt_or_ge j i with x | x
        · have := j4 i x g
          have := hb k g b
          omega
        · exact x
      have hj0 : up (T k) ≠ 0 := by rw [j2]; exact hz j (by omega) (by omega)
      have hI := hin k (by omega) (by omega) hj0 hk
      rw [j2] at hI
      exact ih j j1 hij (by omega) hI
    · have : k = i := by omega
      rw [this] at hk
      exact hi hk
/-- T with the letter l at place q -/
def tw_ins (T : Nat → Nat) (q l : Nat) : Nat → Nat := fun i => if i < q then T i else if i = q then l else T (i - 1)
theorem tw_ins_lt {T : Nat → Nat} {q l i : Nat} (h : i < q) : tw_ins T q l i = T i := by simp [tw_ins, h]
theorem tw_ins_eq {T : Nat → Nat} {q l : Nat} : tw_ins T q l q = l := by simp [tw_ins]
theorem tw_ins_gt {T : Nat → Nat} {q l i : Nat} (h : q < i) : tw_ins T q l i = T (i - 1) := by
  have h1 : ¬ i < q := by omega
  have h2 : ¬ i = q := by omega
  simp [tw_ins, h1, h2]
theorem tw_ins_s {T : Nat → Nat} {q l i : Nat} (h : q ≤ i) : tw_ins T q l (i + 1) = T i := by rw [tw_ins_gt (by omega)]; simp
theorem tw_ins_list {L q : Nat} {T : Nat → Nat} (h : tw_list L T) (h1 : 1 ≤ q) (hq : q ≤ L) : tw_list (L + 1) (tw_ins T q L) := by
  obtain ⟨a0, a1, a2, a3, a4⟩ := h
  refine ⟨by omega, by rw [tw_ins_lt (by omega)]; exact a1, fun i hi => ?_, fun i j hi hj e => ?_, fun l hl => ?_⟩
  · rcases Nat.lt_trichotomy i q with g | g | g
    · rw [tw_ins_lt g]; have := a2 i (by omega); omega
    · rw [g, tw_ins_eq]; omega
    · rw [tw_ins_gt g]; have := a2 (i - 1) (by omega); omega
  · rcases Nat.lt_trichotomy i q with g | g | g <;> rcases Nat.lt_trichotomy j q with k | k | k
    · rw [tw_ins_lt g, tw_ins_lt k] at e; exact a3 i j (by omega) (by omega) e
    · rw [tw_ins_lt g, k, tw_ins_eq] at e; have := a2 i (by omega); omega
    · rw [tw_ins_lt g, tw_ins_gt k] at e; have := a3 i (j - 1) (by omega) (by omega) e; omega
    · rw [g, tw_ins_eq, tw_ins_lt k] at e; have := a2 j (by omega); omega
    · omega
    · rw [g, tw_ins_eq, tw_ins_gt k] at e; have := a2 (j - 1) (by omega); omega
    · rw [tw_ins_gt g, tw_ins_lt k] at e; have := a3 (i - 1) j (by omega) (by omega) e; omega
    · rw [tw_ins_gt g, k, tw_ins_eq] at e; have := a2 (i - 1) (by omega); omega
    · rw [tw_ins_gt g, tw_ins_gt k] at e; have := a3 (i - 1) (j - 1) (by omega) (by omega) e; omega
  · rcases Nat.lt_or_ge l L with g | g
    · obtain ⟨i, hi, e⟩ := a4 l g
      rcases Nat.lt_or_ge i q with k | k
      · exact ⟨i, by omega, by rw [tw_ins_lt k]; exact e⟩
      · exact ⟨i + 1, by omega, by rw [tw_ins_s k]; exact e⟩
    · exact ⟨q, by omega, by rw [tw_ins_eq]; omega⟩
/-- a new letter L, with the name x, behind the letter at b, comes to the place q -/
theorem tw_put {L b q x s last : Nat} {T n fs sb up n' fs' sb' up' : Nat → Nat} (hl : tw_list L T) (h : tw_tree L T n fs sb up) (hb : b < L) (hbq : b < q) (hq : q ≤ L) (hm : ∀ k, b < k → k < q → x < n (T k)) (he : q < L → n (T q) < x) (hbx : n (T b) < x) (hx : ∀ i, i < L → n (T i) ≠ x)
    (hs : (q < L ∧ s = T q ∧ up (T q) = T b) ∨ (s = 0 ∧ (q < L → n (T q) < n (T b))))
    (hla : (last = 0 ∧ q = b + 1) ∨ ∃ i, b < i ∧ i < q ∧ last = T i ∧ up (T i) = T b ∧ (∀ k, i < k → k < q → n (T i) < n (T k)) ∧ (q < L → n (T q) < n (T i)))
    (n1 : ∀ l, l < L → n' l = n l) (n2 : n' L = x) (u1 : ∀ l, l < L → up' l = up l) (u2 : up' L = T b) (f0 : fs' L = 0)
    (f1 : last = 0 → fs' (T b) = L) (f2 : ∀ l, l < L → (last = 0 → l ≠ T b) → fs' l = fs l)
    (s0 : sb' L = s) (s1 : last ≠ 0 → sb' last = L) (s2 : ∀ l, 1 ≤ l → l < L → l ≠ last → sb' l = sb l) : tw_tree (L + 1) (tw_ins T q L) n' fs' sb' up' := by
  have hlt : ∀ i, i < L → T i < L := hl.2.2.1
  have hinj : ∀ i j, i < L → j < L → T i = T j → i = j := hl.2.2.2.1
  obtain ⟨hU, hF, hS⟩ := h
  have nlo : ∀ i, i < q → n' (tw_ins T q L i) = n (T i) := fun i hi => by rw [tw_ins_lt hi]; exact n1 _ (hlt i (by omega))
  have nq : n' (tw_ins T q L q) = x := by rw [tw_ins_eq]; exact n2
  have nhi : ∀ i, q ≤ i → i < L → n' (tw_ins T q L (i + 1)) = n (T i) := fun i hi hi2 => by rw [tw_ins_s hi]; exact n1 _ (hlt i hi2)
  have hlast : ∀ i, i < L → T i = last → 1 ≤ i → b < i ∧ i < q ∧ up (T i) = T b ∧ (∀ k, i < k → k < q → n (T i) < n (T k)) := by
    intro i hi e h1
    rcases hla with ⟨e0, -⟩ | ⟨i', a1, a2, a3, a4, a5, -⟩
    · have := tw_pos hl h1 hi
      omega
    · have : i = i' := hinj i i' hi (by omega) (by rw [e, a3])
      subst this
      exact ⟨a1, a2, a4, a5⟩
  refine ⟨fun i h1 hi => ?_, fun i hi => ?_, fun i h1 hi => ?_⟩
  · rcases Nat.lt_trichotomy i q with g | g | g
    · obtain ⟨j, j1, j2, j3, j4⟩ := hU i h1 (by omega)
      refine ⟨j, j1, ?_, ?_, fun k a c => ?_⟩
      · rw [tw_ins_lt g, tw_ins_lt (by omega), u1 _ (hlt i (by omega))]; exact j2
      · rw [nlo i g, nlo j (by omega)]; exact j3
      · rw [nlo i g, nlo k (by omega)]; exact j4 k a c
    · subst g
      refine ⟨b, hbq, ?_, ?_, fun k a c => ?_⟩
      · rw [tw_ins_eq, tw_ins_lt hbq]; exact u2
      · rw [nq, nlo b hbq]; exact hbx
      · rw [nq, nlo k c]; exact hm k a c
    · obtain ⟨i0, rfl⟩ : ∃ i0, i = i0 + 1 := ⟨i - 1, by omega⟩
      obtain ⟨j, j1, j2, j3, j4⟩ := hU i0 (by omega) (by omega)
      rcases Nat.lt_or_ge j q with c | c
      · refine ⟨j, by omega, ?_, ?_, fun k a d => ?_⟩
        · rw [tw_ins_s (by omega), tw_ins_lt c, u1 _ (hlt i0 (by omega))]; exact j2
        · rw [nhi i0 (by omega) (by omega), nlo j c]; exact j3
        · rw [nhi i0 (by omega) (by omega)]
          rcases Nat.lt_trichotomy k q with z | z | z
          · rw [nlo k z]; exact j4 k a (by omega)
          · rw [z, nq]
            rcases Nat.lt_or_ge q i0 with y | y
            · exact Nat.lt_trans (j4 q c y) (he (by omega))
            · have : i0 = q := by omega
              rw [this]; exact he (by omega)
          · obtain ⟨k0, rfl⟩ : ∃ k0, k = k0 + 1 := ⟨k - 1, by omega⟩
            rw [nhi k0 (by omega) (by omega)]; exact j4 k0 (by omega) (by omega)
      · refine ⟨j + 1, by omega, ?_, ?_, fun k a d => ?_⟩
        · rw [tw_ins_s (by omega), tw_ins_s c, u1 _ (hlt i0 (by omega))]; exact j2
        · rw [nhi i0 (by omega) (by omega), nhi j c (by omega)]; exact j3
        · obtain ⟨k0, rfl⟩ : ∃ k0, k = k0 + 1 := ⟨k - 1, by omega⟩
          rw [nhi i0 (by omega) (by omega), nhi k0 (by omega) (by omega)]; exact j4 k0 (by omega) (by omega)
  · rcases Nat.lt_trichotomy i q with g | g | g
    · have hT : tw_ins T q L i = T i := tw_ins_lt g
      rcases Nat.lt_or_ge (i + 1) q with c | c
      · have e : fs' (T i) = fs (T i) := f2 _ (hlt i (by omega)) (fun z y => by
          rcases hla with ⟨-, e2⟩ | ⟨i', a1, a2, a3, -⟩
          · have := hinj i b (by omega) hb y
            omega
          · have := tw_pos hl (i := i') (by omega) (by omega)
            omega)
        rw [nlo i g, nlo (i + 1) c, hT, tw_ins_lt c, e]
        rcases hF i (by omega) with ⟨y1, y2, y3⟩ | ⟨y1, y2⟩
        · exact Or.inl ⟨by omega, y2, y3⟩
        · exact Or.inr ⟨y1, fun _ => y2 (by omega)⟩
      · have eq : i + 1 = q := by omega
        rw [eq, nlo i g, nq, hT, tw_ins_eq]
        rcases hla with ⟨e1, e2⟩ | ⟨i', a1, a2, a3, -⟩
        · have : i = b := by omega
          subst this
          exact Or.inl ⟨by omega, hbx, f1 e1⟩
        · have hp := tw_pos hl (i := i') (by omega) (by omega)
          have e : fs' (T i) = fs (T i) := f2 _ (hlt i (by omega)) (fun z => by omega)
          have hxi := hm i (by omega) g
          refine Or.inr ⟨?_, fun _ => hxi⟩
          rw [e]
          rcases hF i (by omega) with ⟨y1, y2, y3⟩ | ⟨y1, y2⟩
          · rw [eq] at y1 y2
            have := he y1
            omega
          · exact y1
    · subst g
      rw [nq, tw_ins_eq]
      refine Or.inr ⟨f0, fun c => ?_⟩
      rw [nhi i (by omega) (by omega)]
      exact he (by omega)
    · obtain ⟨i0, rfl⟩ : ∃ i0, i = i0 + 1 := ⟨i - 1, by omega⟩
      have e : fs' (T i0) = fs (T i0) := f2 _ (hlt i0 (by omega)) (fun z y => by
        have := hinj i0 b (by omega) hb y
        omega)
      rw [nhi i0 (by omega) (by omega), tw_ins_s (i := i0) (by omega), e, tw_ins_s (i := i0 + 1) (by omega)]
      rcases hF i0 (by omega) with ⟨y1, y2, y3⟩ | ⟨y1, y2⟩
      · exact Or.inl ⟨by omega, by rw [n1 _ (hlt (i0 + 1) y1)]; exact y2, y3⟩
      · exact Or.inr ⟨y1, fun c => by rw [n1 _ (hlt (i0 + 1) (by omega))]; exact y2 (by omega)⟩
  · have hup : ∀ i, 1 ≤ i → i < L → n' (up' (T i)) = n (up (T i)) := fun i h1 hi => by
      obtain ⟨p, p1, p2, -⟩ := hU i h1 hi
      rw [u1 _ (hlt i hi), p2]
      exact n1 _ (hlt p (by omega))
    rcases Nat.lt_trichotomy i q with g | g | g
    · obtain ⟨j, j1, j2, j3, j4, j5⟩ := hS i h1 (by omega)
      have hT : tw_ins T q L i = T i := tw_ins_lt g
      have hpi := tw_pos hl h1 (show i < L by omega)
      rcases Nat.lt_or_ge j q with c | c
      · have hne : T i ≠ last := fun z => by
          obtain ⟨-, -, -, a4⟩ := hlast i (by omega) z h1
          have := a4 j j1 c
          have := j4 (by omega)
          omega
        refine ⟨j, j1, by omega, fun k a d => ?_, fun _ => ?_, ?_⟩
        · rw [nlo i g, nlo k (by omega)]; exact j3 k a d
        · rw [nlo i g, nlo j c]; exact j4 (by omega)
        · rw [hT, s2 _ hpi (hlt i (by omega)) hne, tw_ins_lt c, hup i h1 (by omega), u1 _ (hlt i (by omega)), n1 _ (hlt j (by omega)), u1 _ (hlt j (by omega))]
          rcases j5 with ⟨y1, y2, y3⟩ | ⟨y1, y2⟩
          · exact Or.inl ⟨by omega, y2, y3⟩
          · exact Or.inr ⟨y1, fun _ => y2 (by omega)⟩
      · rcases Nat.lt_or_ge x (n (T i)) with z | z
        · have hbi : b < i := by
            rcases Nat.lt_trichotomy b i with y | y | y
            · exact y
            · rw [← y] at z; omega
            · have := j3 b y (by omega)
              omega
          have hjq : j = q := by
            rcases Nat.lt_or_ge q j with y | y
            · have := j3 q (by omega) y
              have := he (by omega)
              omega
            · omega
          subst hjq
          refine ⟨j, g, by omega, fun k a d => ?_, fun _ => ?_, ?_⟩
          · rw [nlo i g, nlo k d]; exact j3 k a d
          · rw [nlo i g, nq]; exact z
          · rw [hT, tw_ins_eq, hup i h1 (by omega), u1 _ (hlt i (by omega)), n2, u2]
            by_cases hi : T i = last
            · obtain ⟨-, -, a3, -⟩ := hlast i (by omega) hi h1
              exact Or.inl ⟨by omega, by rw [hi]; exact s1 (by omega), a3.symm⟩
            · rw [s2 _ hpi (hlt i (by omega)) hi]
              obtain ⟨p, p1, p2, p3, p4⟩ := hU i h1 (by omega)
              have hpb : p ≠ b := fun y => by
                subst y
                rcases hla with ⟨-, e2⟩ | ⟨i', a1, a2, a3, a4, a5, -⟩
                · omega
                · obtain ⟨p', q1, q2, q3, q4⟩ := hU i' (by omega) (by omega)
                  have hpp : p' = p := hinj p' p (by omega) (by omega) (by rw [← q2, a4])
                  subst hpp
                  rcases Nat.lt_trichotomy i i' with y | y | y
                  · have := j3 i' y a2
                    have := q4 i hbi y
                    omega
                  · rw [y] at hi; exact hi a3.symm
                  · have := a5 i y g
                    have := p4 i' a1 y
                    omega
              have hbp : b < p := by
                rcases Nat.lt_trichotomy b p with y | y | y
                · exact y
                · exact absurd y.symm hpb
                · have := p4 b y hbi
                  omega
              have hxp := hm p hbp (by omega)
              refine Or.inr ⟨?_, fun _ => by rw [p2]; exact hxp⟩
              rcases j5 with ⟨y1, y2, y3⟩ | ⟨y1, y2⟩
              · obtain ⟨p', q1, q2, q3, -⟩ := hU j (by omega) y1
                have hpp : p' = p := hinj p' p (by omega) (by omega) (by rw [← q2, y3, p2])
                subst hpp
                have := he y1
                omega
              · exact y1
        · have hxi : n (T i) < x := by have := hx i (by omega); omega
          have hne : T i ≠ last := fun y => by
            obtain ⟨a1, a2, -⟩ := hlast i (by omega) y h1
            have := hm i a1 a2
            omega
          refine ⟨j + 1, by omega, by omega, fun k a d => ?_, fun y => ?_, ?_⟩
          · rw [nlo i g]
            rcases Nat.lt_trichotomy k q with y | y | y
            · rw [nlo k y]; exact j3 k a (by omega)
            · rw [y, nq]; exact hxi
            · obtain ⟨k0, rfl⟩ : ∃ k0, k = k0 + 1 := ⟨k - 1, by omega⟩
              rw [nhi k0 (by omega) (by omega)]; exact j3 k0 (by omega) (by omega)
          · rw [nlo i g, nhi j c (by omega)]; exact j4 (by omega)
          · rw [hT, s2 _ hpi (hlt i (by omega)) hne, hup i h1 (by omega), u1 _ (hlt i (by omega)), tw_ins_s c]
            rcases j5 with ⟨y1, y2, y3⟩ | ⟨y1, y2⟩
            · exact Or.inl ⟨by omega, y2, by rw [u1 _ (hlt j y1)]; exact y3⟩
            · exact Or.inr ⟨y1, fun y => by rw [n1 _ (hlt j (by omega))]; exact y2 (by omega)⟩
    · subst g
      refine ⟨i + 1, by omega, by omega, fun k a d => by omega, fun y => ?_, ?_⟩
      · rw [nq, nhi i (by omega) (by omega)]; exact he (by omega)
      · rw [tw_ins_eq, s0, u2, tw_ins_s (by omega)]
        rcases hs with ⟨y1, y2, y3⟩ | ⟨y1, y2⟩
        · exact Or.inl ⟨by omega, y2, by rw [u1 _ (hlt i y1)]; exact y3⟩
        · exact Or.inr ⟨y1, fun y => by rw [n1 _ (hlt i (by omega)), n1 _ (hlt b hb)]; exact y2 (by omega)⟩
    · obtain ⟨i0, rfl⟩ : ∃ i0, i = i0 + 1 := ⟨i - 1, by omega⟩
      obtain ⟨j, j1, j2, j3, j4, j5⟩ := hS i0 (by omega) (by omega)
      have hne : T i0 ≠ last := fun y => by
        obtain ⟨-, a2, -⟩ := hlast i0 (by omega) y (by omega)
        omega
      have hpi := tw_pos hl (i := i0) (by omega) (by omega)
      refine ⟨j + 1, by omega, by omega, fun k a d => ?_, fun y => ?_, ?_⟩
      · obtain ⟨k0, rfl⟩ : ∃ k0, k = k0 + 1 := ⟨k - 1, by omega⟩
        rw [nhi i0 (by omega) (by omega), nhi k0 (by omega) (by omega)]; exact j3 k0 (by omega) (by omega)
      · rw [nhi i0 (by omega) (by omega), nhi j (by omega) (by omega)]; exact j4 (by omega)
      · rw [tw_ins_s (by omega), s2 _ hpi (hlt i0 (by omega)) hne, hup i0 (by omega) (by omega), u1 _ (hlt i0 (by omega)), tw_ins_s (by omega)]
        rcases j5 with ⟨y1, y2, y3⟩ | ⟨y1, y2⟩
        · exact Or.inl ⟨by omega, y2, by rw [u1 _ (hlt j y1)]; exact y3⟩
        · exact Or.inr ⟨y1, fun y => by rw [n1 _ (hlt j (by omega))]; exact y2 (by omega)⟩
end
section
/-! counting, bits, stores -/
def tw_up (s : Nat → Nat → Nat) (k i v : Nat) : Nat → Nat → Nat := fun k' i' => if k' = k then (if i' = i then v else s k' i') else s k' i'
theorem tw_up_k {s : Nat → Nat → Nat} {k i v k' i' : Nat} (h : k' ≠ k) : tw_up s k i v k' i' = s k' i' := by simp [tw_up, h]
theorem tw_up_i {s : Nat → Nat → Nat} {k i v k' i' : Nat} (h : i' ≠ i) : tw_up s k i v k' i' = s k' i' := by simp [tw_up, h]
theorem tw_up_e {s : Nat → Nat → Nat} {k i v : Nat} : tw_up s k i v k i = v := by simp [tw_up]
def tw_cn (f : Nat → Bool) : Nat → Nat
  | 0 => 0
  | k + 1 => tw_cn f k + (if f k = true then 1 else 0)
theorem tw_cn_le (f : Nat → Bool) : ∀ k, tw_cn f k ≤ k
  | 0 => Nat.le_refl 0
  | k + 1 => by
    have := tw_cn_le f k
    simp only [tw_cn]
    split <;> omega
theorem tw_cn_mono (f : Nat → Bool) {a b : Nat} (h : a ≤ b) : tw_cn f a ≤ tw_cn f b := by
  induction b with
  | zero => have : a = 0 := by omega
            rw [this]; exact Nat.le_refl _
  | succ b ih =>
    rcases Nat.lt_or_ge b a with g | g
    · have : a = b + 1 := by omega
      rw [this]; exact Nat.le_refl _
    · have := ih g
      simp only [tw_cn]
      omega
theorem tw_cn_t {f : Nat → Bool} {k : Nat} (h : f k = true) : tw_cn f (k + 1) = tw_cn f k + 1 := by simp [tw_cn, h]
theorem tw_cn_f {f : Nat → Bool} {k : Nat} (h : f k = false) : tw_cn f (k + 1) = tw_cn f k := by simp [tw_cn, h]
theorem tw_cn_lt {f : Nat → Bool} {p k : Nat} (hp : p < k) (h : f p = true) : tw_cn f p < tw_cn f k := by
  have := tw_cn_mono f (show p + 1 ≤ k by omega)
  rw [tw_cn_t h] at this
  omega
theorem tw_cn_congr {f g : Nat → Bool} {k : Nat} (h : ∀ p, p < k → f p = g p) : tw_cn f k = tw_cn g k := by
  induction k with
  | zero => rfl
  | succ k ih => simp only [tw_cn]; rw [ih (fun p hp => h p (by omega)), h k (by omega)]
/-- the place of text letter number j -/
theorem tw_cn_at {f : Nat → Bool} : ∀ {k j : Nat}, j < tw_cn f k → ∃ p, p < k ∧ f p = true ∧ tw_cn f p = j
  | 0, j, h => by simp [tw_cn] at h
  | k + 1, j, h => by
    by_cases hf : f k = true
    · rw [tw_cn_t hf] at h
      rcases Nat.lt_or_ge j (tw_cn f k) with g | g
      · obtain ⟨p, h1, h2, h3⟩ := tw_cn_at g
        exact ⟨p, by omega, h2, h3⟩
      · exact ⟨k, by omega, hf, by omega⟩
    · rw [tw_cn_f (by simpa using hf)] at h
      obtain ⟨p, h1, h2, h3⟩ := tw_cn_at h
      exact ⟨p, by omega, h2, h3⟩
theorem tw_cn_inj {f : Nat → Bool} {p q : Nat} (hp : f p = true) (hq : f q = true) (h : tw_cn f p = tw_cn f q) : p = q := by
  rcases Nat.lt_trichotomy p q with g | g | g
  · have := tw_cn_lt g hp; omega
  · exact g
  · have := tw_cn_lt g hq; omega
/-- one more, or one fewer, at one place -/
theorem tw_cn_one {f g : Nat → Bool} {q k : Nat} (hq : q < k) (hf : f q = false) (hg : g q = true) (h : ∀ p, p < k → p ≠ q → f p = g p) : tw_cn g k = tw_cn f k + 1 := by
  induction k with
  | zero => omega
  | succ k ih =>
    by_cases e : q = k
    · subst e
      rw [tw_cn_t hg, tw_cn_f hf, tw_cn_congr (fun p hp => h p (by omega) (by omega))]
    · have h1 := ih (by omega) (fun p hp hn => h p (by omega) hn)
      simp only [tw_cn]
      rw [h1, h k (by omega) (by omega)]
      omega
/-- with a place put in -/
theorem tw_cn_ins {f g : Nat → Bool} {q k : Nat} (hq : q ≤ k) (hg : g q = false) (h1 : ∀ p, p < q → g p = f p) (h2 : ∀ p, q ≤ p → p < k → g (p + 1) = f p) : tw_cn g (k + 1) = tw_cn f k := by
  induction k with
  | zero => have : q = 0 := by omega
            subst this
            rw [tw_cn_f hg]; rfl
  | succ k ih =>
    by_cases e : q = k + 1
    · subst e
      rw [tw_cn_f hg, tw_cn_congr (fun p hp => h1 p (by omega))]
    · have h3 := ih (by omega) (fun p hp hn => h2 p hp (by omega))
      have h4 := h2 k (by omega) (by omega)
      simp only [tw_cn] at h3 ⊢
      rw [h3, h4]
def tw_on (s c : Nat) : Nat := s ||| (1 <<< c)
def tw_off (s c : Nat) : Nat := s &&& (15 ^^^ (1 <<< c))
theorem tw_on_b : ∀ s, s < 16 → ∀ c, c < 4 → ∀ d, d < 4 → (tw_on s c).testBit d = (s.testBit d || decide (d = c)) := by decide +kernel
theorem tw_off_b : ∀ s, s < 16 → ∀ c, c < 4 → ∀ d, d < 4 → (tw_off s c).testBit d = (s.testBit d && !decide (d = c)) := by decide +kernel
theorem tw_on_lt : ∀ s, s < 16 → ∀ c, c < 4 → tw_on s c < 16 := by decide +kernel
theorem tw_off_lt : ∀ s, s < 16 → ∀ c, c < 4 → tw_off s c < 16 := by decide +kernel
theorem tw_on_i : ∀ s, s < 16 → ∀ c, c < 4 → nI s ||| ((1 : Int32) <<< (nI c &&& 31)) = nI (tw_on s c) := by decide +kernel
theorem tw_off_i : ∀ s, s < 16 → ∀ c, c < 4 → nI s &&& (((1 : Int32) <<< (nI c &&& 31)) ^^^ (-1)) = nI (tw_off s c) := by decide +kernel
theorem tw_bit_i : ∀ s, s < 16 → ∀ c, c < 4 → ((nI s &&& ((1 : Int32) <<< (nI c &&& 31))) = 0 ↔ s.testBit c = false) := by decide +kernel
end
section
/-! The class's state s: component, index -> number. 0 maker, 1 number, 2 taken (0: none, j+1: letter j), 3 bytes, 4 names, 5 shownIn, 6 order, 7 greatest, 8 lengths; 9: changes, letters; 16+ had, 20+ own, 24+ known. md: how many changes a copy has made. -/
def tw_log (md : Nat → Nat) (s : Nat → Nat → Nat) : Prop :=
  (∀ c k, c < 4 → k < md c → s (20 + c) k < s 9 0 ∧ s 0 (s (20 + c) k) = c ∧ s 1 (s (20 + c) k) = k) ∧
  (∀ i, i < s 9 0 → s 0 i < 4 ∧ s 1 i < md (s 0 i) ∧ s (20 + s 0 i) (s 1 i) = i) ∧
  (∀ c, c < 4 → md c ≤ 400) ∧
  (∀ i, i < s 9 0 → s (16 + s 0 i) i = s 1 i ∧ ∀ m k, m < 4 → k < s (16 + m) i → k < md m ∧ s (20 + m) k < i) ∧
  (∀ i j, i < s 9 0 → s 2 i = j + 1 → j < i ∧ s 2 j = 0 ∧ s 1 j < s (16 + s 0 j) i)
def tw_has (s : Nat → Nat → Nat) (c i : Nat) : Prop := s 1 i < s (24 + c) (s 0 i)
def tw_kn (md : Nat → Nat) (s : Nat → Nat → Nat) : Prop :=
  (∀ c m, c < 4 → m < 4 → s (24 + c) m ≤ md m) ∧
  (∀ c i, c < 4 → i < s 9 0 → tw_has s c i → ∀ m, m < 4 → s (16 + m) i ≤ s (24 + c) m)
def tw_shows (s : Nat → Nat → Nat) (c i : Nat) : Prop := i < s 9 0 ∧ s 2 i = 0 ∧ tw_has s c i ∧ ∀ j, j < s 9 0 → s 2 j = i + 1 → ¬ tw_has s c j
def tw_shn (s : Nat → Nat → Nat) : Prop :=
  (∀ i, s 5 i < 16) ∧ (∀ i c, c < 4 → ((s 5 i).testBit c = true ↔ tw_shows s c i)) ∧
  (∀ c, c < 4 → s 8 c = tw_cn (fun p => (s 5 (s 6 p)).testBit c) (s 9 1))
def tw_ord (s : Nat → Nat → Nat) : Prop :=
  s 9 1 ≤ s 9 0 ∧ (∀ p, p < s 9 1 → s 6 p < s 9 0 ∧ s 2 (s 6 p) = 0) ∧ (∀ p q, p < s 9 1 → q < s 9 1 → s 6 p = s 6 q → p = q) ∧ (∀ i, i < s 9 0 → s 2 i = 0 → ∃ p, p < s 9 1 ∧ s 6 p = i) ∧
  (∀ i, i < s 9 0 → s 2 i = 0 → 4 ≤ s 4 i ∧ s 4 i % 4 = s 0 i ∧ s 4 i / 4 ≤ i + 1)
def tw_gr (s : Nat → Nat → Nat) : Prop :=
  ∀ c, c < 4 → (∀ i, i < s 9 0 → s 2 i = 0 → tw_has s c i → s 4 i / 4 ≤ s 7 c) ∧ (s 7 c = 0 ∨ ∃ i, i < s 9 0 ∧ s 2 i = 0 ∧ tw_has s c i ∧ s 4 i / 4 = s 7 c)
def tw_ci (md : Nat → Nat) (s : Nat → Nat → Nat) : Prop := tw_log md s ∧ tw_kn md s ∧ tw_shn s ∧ tw_ord s ∧ tw_gr s
/-- text letter p of copy c is shown -/
def tw_f (s : Nat → Nat → Nat) (c : Nat) : Nat → Bool := fun p => (s 5 (s 6 p)).testBit c
/-- a change comes to a copy -/
def tw_rcv (s : Nat → Nat → Nat) (c i : Nat) : Nat → Nat → Nat :=
  if s 2 i = 0 then tw_up (tw_up (tw_up (tw_up s (24 + c) (s 0 i) (s 1 i + 1)) 5 i (tw_on (s 5 i) c)) 8 c (s 8 c + 1)) 7 c (max (s 7 c) (s 4 i / 4))
  else if (s 5 (s 2 i - 1)).testBit c = true then tw_up (tw_up (tw_up s (24 + c) (s 0 i) (s 1 i + 1)) 5 (s 2 i - 1) (tw_off (s 5 (s 2 i - 1)) c)) 8 c (s 8 c - 1)
  else tw_up s (24 + c) (s 0 i) (s 1 i + 1)
theorem tw_rcv_o {s : Nat → Nat → Nat} {c i k x : Nat} (h : k < 5 ∨ k = 6 ∨ (8 < k ∧ k < 24)) : tw_rcv s c i k x = s k x := by
  have h1 : k ≠ 24 + c := by omega
  have h2 : k ≠ 5 := by omega
  have h3 : k ≠ 7 := by omega
  have h4 : k ≠ 8 := by omega
  unfold tw_rcv
  split
  · rw [tw_up_k h3, tw_up_k h4, tw_up_k h2, tw_up_k h1]
  · split
    · rw [tw_up_k h4, tw_up_k h2, tw_up_k h1]
    · rw [tw_up_k h1]
theorem tw_rcv_k {s : Nat → Nat → Nat} {c i d x : Nat} : tw_rcv s c i (24 + d) x = if d = c ∧ x = s 0 i then s 1 i + 1 else s (24 + d) x := by
  have h2 : 24 + d ≠ 5 := by omega
  have h3 : 24 + d ≠ 7 := by omega
  have h4 : 24 + d ≠ 8 := by omega
  have h0 : tw_rcv s c i (24 + d) x = tw_up s (24 + c) (s 0 i) (s 1 i + 1) (24 + d) x := by
    unfold tw_rcv
    split
    · rw [tw_up_k h3, tw_up_k h4, tw_up_k h2]
    · split
      · rw [tw_up_k h4, tw_up_k h2]
      · rfl
  rw [h0]
  by_cases e : d = c
  · subst e
    by_cases g : x = s 0 i
    · rw [if_pos ⟨rfl, g⟩, g, tw_up_e]
    · rw [if_neg (fun z => g z.2), tw_up_i g]
  · rw [if_neg (fun z => e z.1), tw_up_k (by omega)]
/-- what copy c has behind it: the same, and i -/
theorem tw_rcv_has {md : Nat → Nat} {s : Nat → Nat → Nat} (h : tw_log md s) {c i : Nat} (hi : i < s 9 0) (hk : s 1 i = s (24 + c) (s 0 i)) {d j : Nat} (hj : j < s 9 0) : tw_has (tw_rcv s c i) d j ↔ tw_has s d j ∨ (d = c ∧ j = i) := by
  unfold tw_has
  rw [tw_rcv_k, tw_rcv_o (by omega), tw_rcv_o (by omega)]
  by_cases e : d = c ∧ s 0 j = s 0 i
  · rw [if_pos e]
    obtain ⟨rfl, e2⟩ := e
    constructor
    · intro g
      rcases Nat.lt_or_ge (s 1 j) (s 1 i) with z | z
      · left; rw [e2, ← hk]; exact z
      · right
        refine ⟨rfl, ?_⟩
        have h1 := (h.2.1 i hi).2.2
        have h2 := (h.2.1 j hj).2.2
        have h3 : s 1 j = s 1 i := by omega
        rw [e2, h3, h1] at h2
        exact h2.symm
    · rintro (g | ⟨-, rfl⟩)
      · rw [e2, ← hk] at g; omega
      · omega
  · rw [if_neg e]
    constructor
    · exact Or.inl
    · rintro (g | ⟨rfl, rfl⟩)
      · exact g
      · exact absurd ⟨rfl, rfl⟩ e
theorem tw_rcv_ci {md : Nat → Nat} {s : Nat → Nat → Nat} (h : tw_ci md s) {c i : Nat} (hc : c < 4) (hi : i < s 9 0) (hk : s 1 i = s (24 + c) (s 0 i)) (hh : ∀ m, m < 4 → s (16 + m) i ≤ s (24 + c) m) : tw_ci md (tw_rcv s c i) := by
  obtain ⟨hlog, hkn, hsh, hor, hgr⟩ := h
  have has : ∀ {d j : Nat}, j < s 9 0 → (tw_has (tw_rcv s c i) d j ↔ tw_has s d j ∨ (d = c ∧ j = i)) := fun hj => tw_rcv_has hlog hi hk hj
  have e0 : ∀ x, tw_rcv s c i 0 x = s 0 x := fun x => tw_rcv_o (by omega)
  have e1 : ∀ x, tw_rcv s c i 1 x = s 1 x := fun x => tw_rcv_o (by omega)
  have e2 : ∀ x, tw_rcv s c i 2 x = s 2 x := fun x => tw_rcv_o (by omega)
  have e4 : ∀ x, tw_rcv s c i 4 x = s 4 x := fun x => tw_rcv_o (by omega)
  have e6 : ∀ x, tw_rcv s c i 6 x = s 6 x := fun x => tw_rcv_o (by omega)
  have e9 : ∀ x, tw_rcv s c i 9 x = s 9 x := fun x => tw_rcv_o (by omega)
  have e16 : ∀ m x, m < 4 → tw_rcv s c i (16 + m) x = s (16 + m) x := fun m x hm => tw_rcv_o (by omega)
  have e20 : ∀ m x, m < 4 → tw_rcv s c i (20 + m) x = s (20 + m) x := fun m x hm => tw_rcv_o (by omega)
  have hlog2 := hlog
  obtain ⟨l1, l2, l3, l4, l5⟩ := hlog
  obtain ⟨k1, k2⟩ := hkn
  obtain ⟨b1, b2, b3⟩ := hsh
  obtain ⟨o1, o2, o3, o4, o5⟩ := hor
  obtain ⟨mi, ni, oi⟩ := l2 i hi
  have hnot : ¬ tw_has s c i := by unfold tw_has; omega
  -- what the bits say behind it
  have shw : ∀ x d, d < 4 → (tw_shows (tw_rcv s c i) d x ↔ (d ≠ c ∧ tw_shows s d x) ∨ (d = c ∧ ((s 2 i = 0 ∧ x = i) ∨ (tw_shows s c x ∧ s 2 i ≠ x + 1)))) := by
    intro x d hd
    unfold tw_shows
    rw [e9, e2]
    by_cases e : d = c
    · subst e
      constructor
      · rintro ⟨a1, a2, a3, a4⟩
        refine Or.inr ⟨rfl, ?_⟩
        rcases (has a1).mp a3 with g | ⟨-, g⟩
        · refine Or.inr ⟨⟨a1, a2, g, fun j hj e2j q => a4 j hj (by rw [e2]; exact e2j) ((has hj).mpr (Or.inl q))⟩, fun z => ?_⟩
          exact a4 i hi (by rw [e2]; exact z) ((has hi).mpr (Or.inr ⟨rfl, rfl⟩))
        · exact Or.inl ⟨by rw [← g]; exact a2, g⟩
      · rintro (⟨g, -⟩ | ⟨-, ⟨g1, rfl⟩ | ⟨⟨a1, a2, a3, a4⟩, g2⟩⟩)
        · exact absurd rfl g
        · refine ⟨hi, g1, (has hi).mpr (Or.inr ⟨rfl, rfl⟩), fun j hj e2j q => ?_⟩
          rw [e2] at e2j
          rcases (has hj).mp q with z | ⟨-, z⟩
          · have hx := k2 d j hd hj z (s 0 x) mi
            have hy := (l5 j x hj e2j).2.2
            omega
          · rw [z] at e2j; omega
        · refine ⟨a1, a2, (has a1).mpr (Or.inl a3), fun j hj e2j q => ?_⟩
          rw [e2] at e2j
          rcases (has hj).mp q with z | ⟨-, z⟩
          · exact a4 j hj e2j z
          · rw [z] at e2j; exact g2 e2j
    · constructor
      · rintro ⟨a1, a2, a3, a4⟩
        refine Or.inl ⟨e, a1, a2, ?_, fun j hj e2j q => a4 j hj (by rw [e2]; exact e2j) ((has hj).mpr (Or.inl q))⟩
        rcases (has a1).mp a3 with g | ⟨g, -⟩
        · exact g
        · exact absurd g e
      · rintro (⟨-, a1, a2, a3, a4⟩ | ⟨g, -⟩)
        · refine ⟨a1, a2, (has a1).mpr (Or.inl a3), fun j hj e2j q => ?_⟩
          rw [e2] at e2j
          rcases (has hj).mp q with z | ⟨z, -⟩
          · exact a4 j hj e2j z
          · exact e z
        · exact absurd g e
  refine ⟨⟨fun a k ha hk9 => ?_, fun j hj => ?_, l3, fun j hj => ?_, fun j x hj e => ?_⟩, ⟨fun d m hd hm => ?_, fun d j hd hj q m hm => ?_⟩, ?_, ⟨?_, ?_, ?_, ?_, ?_⟩, fun d hd => ⟨fun j hj z q => ?_, ?_⟩⟩
  · rw [e20 a k ha, e9, e0, e1]; exact l1 a k ha hk9
  · rw [e9] at hj
    rw [e0, e1, e20 _ _ (l2 j hj).1]; exact l2 j hj
  · rw [e9] at hj
    obtain ⟨x1, x2⟩ := l4 j hj
    rw [e0, e1, e16 _ _ (l2 j hj).1]
    refine ⟨x1, fun m k hm z => ?_⟩
    rw [e16 m j hm] at z
    rw [e20 m k hm]
    exact x2 m k hm z
  · rw [e9] at hj
    rw [e2] at e
    obtain ⟨x1, x2, x3⟩ := l5 j x hj e
    rw [e2, e1, e0, e16 _ _ (l2 x (by omega)).1]
    exact ⟨x1, x2, x3⟩
  · rw [tw_rcv_k]
    split
    · rename_i z; rw [z.2]; omega
    · exact k1 d m hd hm
  · rw [e9] at hj
    rw [e16 m j hm, tw_rcv_k]
    rcases (has hj).mp q with z | ⟨rfl, rfl⟩
    · have := k2 d j hd hj z m hm
      split
      · rename_i g; obtain ⟨rfl, rfl⟩ := g; omega
      · exact this
    · have := hh m hm
      split
      · rename_i g; rw [g.2] at this; rw [g.2]; omega
      · exact this
  · -- the bits and the lengths
    by_cases t0 : s 2 i = 0
    · have e5 : ∀ x, tw_rcv s c i 5 x = if x = i then tw_on (s 5 i) c else s 5 x := by
        intro x
        unfold tw_rcv
        rw [if_pos t0, tw_up_k (by omega), tw_up_k (by omega)]
        by_cases g : x = i
        · rw [if_pos g, g, tw_up_e]
        · rw [if_neg g, tw_up_i g, tw_up_k (by omega)]
      have e8 : ∀ x, tw_rcv s c i 8 x = if x = c then s 8 c + 1 else s 8 x := by
        intro x
        unfold tw_rcv
        rw [if_pos t0, tw_up_k (by omega)]
        by_cases g : x = c
        · rw [if_pos g, g, tw_up_e]
        · rw [if_neg g, tw_up_i g, tw_up_k (by omega), tw_up_k (by omega)]
      have hbit : ∀ x d, d < 4 → (tw_rcv s c i 5 x).testBit d = ((s 5 x).testBit d || decide (x = i ∧ d = c)) := by
        intro x d hd
        rw [e5]
        by_cases g : x = i
        · rw [if_pos g, tw_on_b _ (b1 i) c hc d hd, g]
          simp
        · rw [if_neg g]
          simp [g]
      refine ⟨fun x => ?_, fun x d hd => ?_, fun d hd => ?_⟩
      · rw [e5]
        split
        · exact tw_on_lt _ (b1 i) c hc
        · exact b1 x
      · rw [hbit x d hd, shw x d hd, Bool.or_eq_true, b2 x d hd, decide_eq_true_iff]
        constructor
        · rintro (g | ⟨rfl, rfl⟩)
          · by_cases z : d = c
            · subst z; exact Or.inr ⟨rfl, Or.inr ⟨g, by omega⟩⟩
            · exact Or.inl ⟨z, g⟩
          · exact Or.inr ⟨rfl, Or.inl ⟨t0, rfl⟩⟩
        · rintro (⟨-, g⟩ | ⟨rfl, ⟨-, rfl⟩ | ⟨g, -⟩⟩)
          · exact Or.inl g
          · exact Or.inr ⟨rfl, rfl⟩
          · exact Or.inl g
      · rw [e8, e9]
        obtain ⟨p0, hp0, hpi⟩ := o4 i hi t0
        by_cases g : d = c
        · subst g
          rw [if_pos rfl, b3 d hd]
          refine (tw_cn_one hp0 ?_ ?_ fun p hp hn => ?_).symm
          · rw [hpi]
            cases hb : (s 5 i).testBit d with
            | false => rfl
            | true => exact absurd ((b2 i d hd).mp hb).2.2.1 hnot
          · rw [e6, hpi, hbit i d hd]
            simp
          · rw [e6, hbit _ d hd]
            have : ¬ s 6 p = i := fun z => hn (o3 p p0 hp hp0 (by rw [z, hpi]))
            simp [this]
        · rw [if_neg g, b3 d hd]
          refine tw_cn_congr fun p hp => ?_
          rw [e6, hbit _ d hd]
          simp [g]
    · obtain ⟨y, hy⟩ : ∃ y, s 2 i = y + 1 := ⟨s 2 i - 1, by omega⟩
      obtain ⟨y1, y2, y3⟩ := l5 i y hi hy
      have hys : s 2 i - 1 = y := by omega
      have e5 : ∀ x, tw_rcv s c i 5 x = if x = y ∧ (s 5 y).testBit c = true then tw_off (s 5 y) c else s 5 x := by
        intro x
        unfold tw_rcv
        rw [if_neg t0, hys]
        by_cases gb : (s 5 y).testBit c = true
        · rw [if_pos gb, tw_up_k (by omega)]
          by_cases g : x = y
          · rw [if_pos ⟨g, gb⟩, g, tw_up_e]
          · rw [if_neg (fun z => g z.1), tw_up_i g, tw_up_k (by omega)]
        · rw [if_neg gb, if_neg (fun z => gb z.2), tw_up_k (by omega)]
      have e8 : ∀ x, tw_rcv s c i 8 x = if x = c ∧ (s 5 y).testBit c = true then s 8 c - 1 else s 8 x := by
        intro x
        unfold tw_rcv
        rw [if_neg t0, hys]
        by_cases gb : (s 5 y).testBit c = true
        · rw [if_pos gb]
          by_cases g : x = c
          · rw [if_pos ⟨g, gb⟩, g, tw_up_e]
          · rw [if_neg (fun z => g z.1), tw_up_i g, tw_up_k (by omega), tw_up_k (by omega)]
        · rw [if_neg gb, if_neg (fun z => gb z.2), tw_up_k (by omega)]
      have hbit : ∀ x d, d < 4 → (tw_rcv s c i 5 x).testBit d = ((s 5 x).testBit d && !decide (x = y ∧ d = c)) := by
        intro x d hd
        rw [e5]
        by_cases g : x = y ∧ (s 5 y).testBit c = true
        · rw [if_pos g, tw_off_b _ (b1 y) c hc d hd, g.1]
          simp
        · rw [if_neg g]
          by_cases z : x = y ∧ d = c
          · obtain ⟨rfl, rfl⟩ := z
            have : (s 5 x).testBit d = false := by
              cases hb : (s 5 x).testBit d with
              | false => rfl
              | true => exact absurd ⟨rfl, hb⟩ g
            simp [this]
          · simp [z]
      refine ⟨fun x => ?_, fun x d hd => ?_, fun d hd => ?_⟩
      · rw [e5]
        split
        · exact tw_off_lt _ (b1 y) c hc
        · exact b1 x
      · rw [hbit x d hd, shw x d hd, Bool.and_eq_true, b2 x d hd, Bool.not_eq_true', decide_eq_false_iff_not]
        constructor
        · rintro ⟨g, z⟩
          by_cases w : d = c
          · subst w
            refine Or.inr ⟨rfl, Or.inr ⟨g, fun v => z ⟨by omega, rfl⟩⟩⟩
          · exact Or.inl ⟨w, g⟩
        · rintro (⟨z, g⟩ | ⟨rfl, ⟨z, -⟩ | ⟨g, z⟩⟩)
          · exact ⟨g, fun w => z w.2⟩
          · exact absurd z t0
          · exact ⟨g, fun w => z (by rw [hy, w.1])⟩
      · rw [e8, e9]
        obtain ⟨p0, hp0, hpi⟩ := o4 y (by omega) y2
        by_cases g : d = c ∧ (s 5 y).testBit c = true
        · obtain ⟨rfl, gb⟩ := g
          rw [if_pos ⟨rfl, gb⟩, b3 d hd]
          have h1 : tw_cn (fun p => (s 5 (s 6 p)).testBit d) (s 9 1) = tw_cn (fun p => (tw_rcv s d i 5 (tw_rcv s d i 6 p)).testBit d) (s 9 1) + 1 := by
            refine tw_cn_one hp0 ?_ ?_ fun p hp hn => ?_
            · rw [e6, hpi, hbit y d hd]
              simp
            · rw [hpi]; exact gb
            · rw [e6, hbit _ d hd]
              have : ¬ s 6 p = y := fun z => hn (o3 p p0 hp hp0 (by rw [z, hpi]))
              simp [this]
          omega
        · rw [if_neg g, b3 d hd]
          refine tw_cn_congr fun p hp => ?_
          rw [e6, hbit _ d hd]
          by_cases z : s 6 p = y ∧ d = c
          · obtain ⟨z1, rfl⟩ := z
            have : (s 5 y).testBit d = false := by
              cases hb : (s 5 y).testBit d with
              | false => rfl
              | true => exact absurd ⟨rfl, hb⟩ g
            rw [z1, this]
            simp
          · simp [z]
  · rw [e9, e9]; exact o1
  · intro p hp
    rw [e9] at hp
    rw [e6, e9, e2]; exact o2 p hp
  · intro p q hp hq z
    rw [e9] at hp hq
    rw [e6, e6] at z
    exact o3 p q hp hq z
  · intro x hx z
    rw [e9] at hx
    rw [e2] at z
    obtain ⟨p, hp, hpx⟩ := o4 x hx z
    exact ⟨p, by rw [e9]; exact hp, by rw [e6]; exact hpx⟩
  · intro x hx z
    rw [e9] at hx
    rw [e2] at z
    rw [e4, e0]
    exact o5 x hx z
  · rw [e9] at hj
    rw [e2] at z
    rw [e4]
    have e7 : tw_rcv s c i 7 d = if d = c ∧ s 2 i = 0 then max (s 7 c) (s 4 i / 4) else s 7 d := by
      unfold tw_rcv
      by_cases t0 : s 2 i = 0
      · rw [if_pos t0]
        by_cases g : d = c
        · rw [if_pos ⟨g, t0⟩, g, tw_up_e]
        · rw [if_neg (fun z => g z.1), tw_up_i g, tw_up_k (by omega), tw_up_k (by omega), tw_up_k (by omega)]
      · rw [if_neg t0, if_neg (show ¬ (d = c ∧ s 2 i = 0) from fun z => t0 z.2)]
        split
        · rw [tw_up_k (by omega), tw_up_k (by omega), tw_up_k (by omega)]
        · rw [tw_up_k (by omega)]
    rw [e7]
    rcases (has hj).mp q with w | ⟨rfl, rfl⟩
    · have := (hgr d hd).1 j hj z w
      split
      · rename_i g; rw [g.1] at this; omega
      · exact this
    · rw [if_pos ⟨rfl, z⟩]; omega
  · have e7 : tw_rcv s c i 7 d = if d = c ∧ s 2 i = 0 then max (s 7 c) (s 4 i / 4) else s 7 d := by
      unfold tw_rcv
      by_cases t0 : s 2 i = 0
      · rw [if_pos t0]
        by_cases g : d = c
        · rw [if_pos ⟨g, t0⟩, g, tw_up_e]
        · rw [if_neg (fun z => g z.1), tw_up_i g, tw_up_k (by omega), tw_up_k (by omega), tw_up_k (by omega)]
      · rw [if_neg t0, if_neg (show ¬ (d = c ∧ s 2 i = 0) from fun z => t0 z.2)]
        split
        · rw [tw_up_k (by omega), tw_up_k (by omega), tw_up_k (by omega)]
        · rw [tw_up_k (by omega)]
    rw [e7]
    have old : s 7 d = 0 ∨ ∃ j, j < tw_rcv s c i 9 0 ∧ tw_rcv s c i 2 j = 0 ∧ tw_has (tw_rcv s c i) d j ∧ tw_rcv s c i 4 j / 4 = s 7 d := by
      rcases (hgr d hd).2 with w | ⟨j, j1, j2, j3, j4⟩
      · exact Or.inl w
      · exact Or.inr ⟨j, by rw [e9]; exact j1, by rw [e2]; exact j2, (has j1).mpr (Or.inl j3), by rw [e4]; exact j4⟩
    split
    · rename_i g
      obtain ⟨rfl, t0⟩ := g
      rcases Nat.le_total (s 7 d) (s 4 i / 4) with w | w
      · rw [Nat.max_eq_right w]
        exact Or.inr ⟨i, by rw [e9]; exact hi, by rw [e2]; exact t0, (has hi).mpr (Or.inr ⟨rfl, rfl⟩), by rw [e4]⟩
      · rw [Nat.max_eq_left w]
        exact old
    · exact old
end
section
/-! a copy makes a change: the log grows by one -/
def tw_md (md : Nat → Nat) (c : Nat) : Nat → Nat := fun d => if d = c then md c + 1 else md d
theorem tw_md_c {md : Nat → Nat} {c : Nat} : tw_md md c c = md c + 1 := by simp [tw_md]
theorem tw_md_ne {md : Nat → Nat} {c d : Nat} (h : d ≠ c) : tw_md md c d = md d := by simp [tw_md, h]
theorem tw_md_le {md : Nat → Nat} {c d : Nat} : md d ≤ tw_md md c d := by
  by_cases h : d = c
  · rw [h, tw_md_c]; omega
  · rw [tw_md_ne h]; exact Nat.le_refl _
theorem tw_or1 {a c k m : Nat} (g : ¬ (a = c ∧ k = m)) : a ≠ c ∨ k ≠ m := by
  by_cases z : a = c
  · exact Or.inr (fun w => g ⟨z, w⟩)
  · exact Or.inl z
theorem tw_or2 {md : Nat → Nat} {a c k : Nat} (h : k < md a) : a ≠ c ∨ k ≠ md c := by
  by_cases z : a = c
  · right; rw [z] at h; omega
  · exact Or.inl z
/-- s' is s with a change of c, that takes t, behind the others in the log -/
def tw_adds (md : Nat → Nat) (s s' : Nat → Nat → Nat) (c t : Nat) : Prop :=
  (∀ x, x < s 9 0 → s' 0 x = s 0 x) ∧ s' 0 (s 9 0) = c ∧ (∀ x, x < s 9 0 → s' 1 x = s 1 x) ∧ s' 1 (s 9 0) = md c ∧ (∀ x, x < s 9 0 → s' 2 x = s 2 x) ∧ s' 2 (s 9 0) = t ∧
  (∀ m x, m < 4 → x < s 9 0 → s' (16 + m) x = s (16 + m) x) ∧ (∀ m, m < 4 → s' (16 + m) (s 9 0) = s (24 + c) m) ∧
  (∀ d k, d < 4 → (d ≠ c ∨ k ≠ md c) → s' (20 + d) k = s (20 + d) k) ∧ s' (20 + c) (md c) = s 9 0 ∧
  (∀ d m, d < 4 → s' (24 + d) m = s (24 + d) m) ∧ (∀ x, s' 5 x = s 5 x) ∧ (∀ x, s' 7 x = s 7 x) ∧ (∀ x, s' 8 x = s 8 x) ∧ (∀ x, x < s 9 0 → s' 4 x = s 4 x) ∧ s' 9 0 = s 9 0 + 1
theorem tw_adds_has {md : Nat → Nat} {s s' : Nat → Nat → Nat} {c t : Nat} (h : tw_adds md s s' c t) (hl : tw_log md s) {d x : Nat} (hd : d < 4) (hx : x < s 9 0) : tw_has s' d x ↔ tw_has s d x := by
  obtain ⟨a0, -, a1, -, -, -, -, -, -, -, a24, -⟩ := h
  unfold tw_has
  rw [a1 x hx, a0 x hx, a24 d _ hd]
theorem tw_adds_new {md : Nat → Nat} {s s' : Nat → Nat → Nat} {c t : Nat} (h : tw_adds md s s' c t) (hk : tw_kn md s) (hc : c < 4) {d : Nat} (hd : d < 4) : ¬ tw_has s' d (s 9 0) := by
  obtain ⟨-, b0, -, b1, -, -, -, -, -, -, a24, -⟩ := h
  unfold tw_has
  rw [b1, b0, a24 d _ hd]
  have := hk.1 d c hd hc
  omega
theorem tw_adds_log {md : Nat → Nat} {s s' : Nat → Nat → Nat} {c t : Nat} (h : tw_adds md s s' c t) (hl : tw_log md s) (hk : tw_kn md s) (hc : c < 4) (hcc : s (24 + c) c = md c) (hm : md c < 400) (ht : ∀ y, t = y + 1 → y < s 9 0 ∧ s 2 y = 0 ∧ tw_has s c y) : tw_log (tw_md md c) s' ∧ tw_kn (tw_md md c) s' := by
  have hhas := @tw_adds_has _ _ _ _ _ h hl
  have hnew := @tw_adds_new _ _ _ _ _ h hk hc
  obtain ⟨a0, b0, a1, b1, a2, b2, a16, b16, a20, b20, a24, -, -, -, -, b9⟩ := h
  obtain ⟨l1, l2, l3, l4, l5⟩ := hl
  obtain ⟨k1, k2⟩ := hk
  refine ⟨⟨fun a k ha hk9 => ?_, fun j hj => ?_, fun d hd => ?_, fun j hj => ?_, fun j x hj e => ?_⟩, fun d m hd hm9 => ?_, fun d j hd hj q m hm9 => ?_⟩
  · by_cases g : a = c ∧ k = md c
    · obtain ⟨rfl, rfl⟩ := g
      rw [b20, b9, b0, b1]
      exact ⟨by omega, rfl, rfl⟩
    · have hk2 : k < md a := by
        by_cases z : a = c
        · subst z; rw [tw_md_c] at hk9
          have : k ≠ md a := fun w => g ⟨rfl, w⟩
          omega
        · rw [tw_md_ne z] at hk9; exact hk9
      obtain ⟨x1, x2, x3⟩ := l1 a k ha hk2
      rw [a20 a k ha (tw_or1 g), b9, a0 _ x1, a1 _ x1]
      exact ⟨by omega, x2, x3⟩
  · rw [b9] at hj
    rcases Nat.lt_or_ge j (s 9 0) with g | g
    · obtain ⟨x1, x2, x3⟩ := l2 j g
      rw [a0 j g, a1 j g, a20 _ _ x1 (tw_or2 x2)]
      exact ⟨x1, Nat.lt_of_lt_of_le x2 tw_md_le, x3⟩
    · have : j = s 9 0 := by omega
      rw [this, b0, b1, b20, tw_md_c]
      exact ⟨hc, by omega, rfl⟩
  · by_cases z : d = c
    · rw [z, tw_md_c]; omega
    · rw [tw_md_ne z]; exact l3 d hd
  · rw [b9] at hj
    rcases Nat.lt_or_ge j (s 9 0) with g | g
    · obtain ⟨x1, x2⟩ := l4 j g
      have hj4 := (l2 j g).1
      rw [a0 j g, a1 j g, a16 _ _ hj4 g]
      refine ⟨x1, fun m k hm9 z => ?_⟩
      rw [a16 m j hm9 g] at z
      obtain ⟨y1, y2⟩ := x2 m k hm9 z
      rw [a20 m k hm9 (tw_or2 y1)]
      exact ⟨Nat.lt_of_lt_of_le y1 tw_md_le, y2⟩
    · have : j = s 9 0 := by omega
      rw [this, b0, b1, b16 c hc]
      refine ⟨hcc, fun m k hm9 z => ?_⟩
      rw [b16 m hm9] at z
      have hkm : k < md m := by have := k1 c m hc hm9; omega
      rw [a20 m k hm9 (tw_or2 hkm)]
      exact ⟨Nat.lt_of_lt_of_le hkm tw_md_le, (l1 m k hm9 hkm).1⟩
  · rw [b9] at hj
    rcases Nat.lt_or_ge j (s 9 0) with g | g
    · rw [a2 j g] at e
      obtain ⟨x1, x2, x3⟩ := l5 j x g e
      rw [a2 x (by omega), a1 x (by omega), a0 x (by omega), a16 _ _ (l2 x (by omega)).1 g]
      exact ⟨x1, x2, x3⟩
    · have : j = s 9 0 := by omega
      rw [this, b2] at e
      obtain ⟨x1, x2, x3⟩ := ht x e
      rw [this, a2 x x1, a1 x x1, a0 x x1, b16 _ (l2 x x1).1]
      exact ⟨x1, x2, x3⟩
  · rw [a24 d m hd]
    exact Nat.le_trans (k1 d m hd hm9) tw_md_le
  · rw [b9] at hj
    rcases Nat.lt_or_ge j (s 9 0) with g | g
    · rw [a16 m j hm9 g, a24 d m hd]
      exact k2 d j hd g ((hhas hd g).mp q) m hm9
    · have : j = s 9 0 := by omega
      rw [this] at q
      exact absurd q (hnew hd)
theorem tw_adds_shows {md : Nat → Nat} {s s' : Nat → Nat → Nat} {c t : Nat} (h : tw_adds md s s' c t) (hl : tw_log md s) (hk : tw_kn md s) (hc : c < 4) {d x : Nat} (hd : d < 4) : tw_shows s' d x ↔ tw_shows s d x := by
  have hhas := @tw_adds_has _ _ _ _ _ h hl
  have hnew := @tw_adds_new _ _ _ _ _ h hk hc
  obtain ⟨-, -, -, -, a2, b2, -, -, -, -, -, -, -, -, -, b9⟩ := h
  unfold tw_shows
  rw [b9]
  constructor
  · rintro ⟨x1, x2, x3, x4⟩
    have hx : x < s 9 0 := by
      rcases Nat.lt_or_ge x (s 9 0) with g | g
      · exact g
      · have : x = s 9 0 := by omega
        rw [this] at x3
        exact absurd x3 (hnew hd)
    refine ⟨hx, by rw [← a2 x hx]; exact x2, (hhas hd hx).mp x3, fun j hj e q => x4 j (by omega) (by rw [a2 j hj]; exact e) ((hhas hd hj).mpr q)⟩
  · rintro ⟨x1, x2, x3, x4⟩
    refine ⟨by omega, by rw [a2 x x1]; exact x2, (hhas hd x1).mpr x3, fun j hj e q => ?_⟩
    rcases Nat.lt_or_ge j (s 9 0) with g | g
    · rw [a2 j g] at e
      exact x4 j g e ((hhas hd g).mp q)
    · have : j = s 9 0 := by omega
      rw [this] at q
      exact hnew hd q
theorem tw_adds_gr {md : Nat → Nat} {s s' : Nat → Nat → Nat} {c t : Nat} (h : tw_adds md s s' c t) (hl : tw_log md s) (hk : tw_kn md s) (hg : tw_gr s) (hc : c < 4) : tw_gr s' := by
  have hhas := @tw_adds_has _ _ _ _ _ h hl
  have hnew := @tw_adds_new _ _ _ _ _ h hk hc
  obtain ⟨-, -, -, -, a2, b2, -, -, -, -, -, -, a7, -, a4, b9⟩ := h
  intro d hd
  obtain ⟨g1, g2⟩ := hg d hd
  rw [a7, b9]
  refine ⟨fun i hi z q => ?_, ?_⟩
  · rcases Nat.lt_or_ge i (s 9 0) with g | g
    · rw [a2 i g] at z
      rw [a4 i g]
      exact g1 i g z ((hhas hd g).mp q)
    · have : i = s 9 0 := by omega
      rw [this] at q
      exact absurd q (hnew hd)
  · rcases g2 with g | ⟨i, i1, i2, i3, i4⟩
    · exact Or.inl g
    · exact Or.inr ⟨i, by omega, by rw [a2 i i1]; exact i2, (hhas hd i1).mpr i3, by rw [a4 i i1]; exact i4⟩
/-- the greatest n of a copy is at most the number of changes -/
theorem tw_gr_le {s : Nat → Nat → Nat} (ho : tw_ord s) (hg : tw_gr s) {c : Nat} (hc : c < 4) : s 7 c ≤ s 9 0 := by
  rcases (hg c hc).2 with g | ⟨i, i1, i2, -, i4⟩
  · omega
  · have := (ho.2.2.2.2 i i1 i2).2.2
    omega
/-- a removal -/
theorem tw_rem_ci {md : Nat → Nat} {s s' : Nat → Nat → Nat} {c y : Nat} (h : tw_adds md s s' c (y + 1)) (hi : tw_ci md s) (hc : c < 4) (hcc : s (24 + c) c = md c) (hm : md c < 400) (hy : y < s 9 0) (hy2 : s 2 y = 0) (hy3 : tw_has s c y) (h91 : s' 9 1 = s 9 1) (h6 : ∀ p, s' 6 p = s 6 p) : tw_ci (tw_md md c) s' := by
  obtain ⟨hl, hk, hs, ho, hg⟩ := hi
  obtain ⟨g1, g2⟩ := tw_adds_log h hl hk hc hcc hm (fun z e => by cases (show y = z by omega); exact ⟨hy, hy2, hy3⟩)
  refine ⟨g1, g2, ?_, ?_, tw_adds_gr h hl hk hg hc⟩
  · obtain ⟨b1, b2, b3⟩ := hs
    have hsh := fun d x hd => @tw_adds_shows _ _ _ _ _ h hl hk hc d x hd
    obtain ⟨-, -, -, -, -, -, -, -, -, -, -, a5, -, a8, -, -⟩ := h
    refine ⟨fun x => by rw [a5]; exact b1 x, fun x d hd => by rw [a5, hsh d x hd]; exact b2 x d hd, fun d hd => ?_⟩
    rw [a8, h91, b3 d hd]
    exact tw_cn_congr fun p _ => by rw [h6, a5]
  · obtain ⟨o1, o2, o3, o4, o5⟩ := ho
    obtain ⟨a0, -, -, -, a2, b2, -, -, -, -, -, -, -, -, a4, b9⟩ := h
    refine ⟨by rw [h91, b9]; omega, fun p hp => ?_, fun p q hp hq e => ?_, fun x hx z => ?_, fun x hx z => ?_⟩
    · rw [h91] at hp
      obtain ⟨x1, x2⟩ := o2 p hp
      rw [h6, b9, a2 _ x1]
      exact ⟨by omega, x2⟩
    · rw [h91] at hp hq
      rw [h6, h6] at e
      exact o3 p q hp hq e
    · rw [b9] at hx
      have hx2 : x < s 9 0 := by
        rcases Nat.lt_or_ge x (s 9 0) with g | g
        · exact g
        · have : x = s 9 0 := by omega
          rw [this, b2] at z
          omega
      rw [a2 x hx2] at z
      obtain ⟨p, p1, p2⟩ := o4 x hx2 z
      exact ⟨p, by rw [h91]; exact p1, by rw [h6]; exact p2⟩
    · rw [b9] at hx
      have hx2 : x < s 9 0 := by
        rcases Nat.lt_or_ge x (s 9 0) with g | g
        · exact g
        · have : x = s 9 0 := by omega
          rw [this, b2] at z
          omega
      rw [a2 x hx2] at z
      rw [a4 x hx2, a0 x hx2]
      exact o5 x hx2 z
/-- an insertion, at place q of the order -/
theorem tw_ins_ci {md : Nat → Nat} {s s' : Nat → Nat → Nat} {c q : Nat} (h : tw_adds md s s' c 0) (hi : tw_ci md s) (hc : c < 4) (hcc : s (24 + c) c = md c) (hm : md c < 400) (h91 : s' 9 1 = s 9 1 + 1) (hq : q ≤ s 9 1) (h6 : ∀ p, p < s 9 1 + 1 → s' 6 p = tw_ins (s 6) q (s 9 0) p) (h4 : s' 4 (s 9 0) = 4 * (s 7 c + 1) + c) : tw_ci (tw_md md c) s' := by
  obtain ⟨hl, hk, hs, ho, hg⟩ := hi
  obtain ⟨g1, g2⟩ := tw_adds_log h hl hk hc hcc hm (fun z e => by omega)
  have hgl := tw_gr_le ho hg hc
  refine ⟨g1, g2, ?_, ?_, tw_adds_gr h hl hk hg hc⟩
  · obtain ⟨b1, b2, b3⟩ := hs
    have hsh := fun d x hd => @tw_adds_shows _ _ _ _ _ h hl hk hc d x hd
    obtain ⟨-, -, -, -, -, -, -, -, -, -, -, a5, -, a8, -, -⟩ := h
    refine ⟨fun x => by rw [a5]; exact b1 x, fun x d hd => by rw [a5, hsh d x hd]; exact b2 x d hd, fun d hd => ?_⟩
    rw [a8, h91, b3 d hd]
    refine (tw_cn_ins hq ?_ (fun p hp => ?_) (fun p hp hp2 => ?_)).symm
    · rw [h6 q (by omega), tw_ins_eq, a5]
      cases hb : (s 5 (s 9 0)).testBit d with
      | false => rfl
      | true => exact absurd ((b2 _ d hd).mp hb).1 (Nat.lt_irrefl _)
    · rw [h6 p (by omega), tw_ins_lt hp, a5]
    · rw [h6 (p + 1) (by omega), tw_ins_s hp, a5]
  · obtain ⟨o1, o2, o3, o4, o5⟩ := ho
    obtain ⟨a0, b0, -, -, a2, b2, -, -, -, -, -, -, -, -, a4, b9⟩ := h
    refine ⟨by rw [h91, b9]; omega, fun p hp => ?_, fun p r hp hr e => ?_, fun x hx z => ?_, fun x hx z => ?_⟩
    · rw [h91] at hp
      rw [h6 p hp, b9]
      rcases Nat.lt_trichotomy p q with g | g | g
      · rw [tw_ins_lt g]
        obtain ⟨x1, x2⟩ := o2 p (by omega)
        rw [a2 _ x1]; exact ⟨by omega, x2⟩
      · rw [g, tw_ins_eq]; exact ⟨by omega, b2⟩
      · rw [tw_ins_gt g]
        obtain ⟨x1, x2⟩ := o2 (p - 1) (by omega)
        rw [a2 _ x1]; exact ⟨by omega, x2⟩
    · rw [h91] at hp hr
      rw [h6 p hp, h6 r hr] at e
      rcases Nat.lt_trichotomy p q with g | g | g <;> rcases Nat.lt_trichotomy r q with k | k | k
      · rw [tw_ins_lt g, tw_ins_lt k] at e; exact o3 p r (by omega) (by omega) e
      · rw [tw_ins_lt g, k, tw_ins_eq] at e; have := (o2 p (by omega)).1; omega
      · rw [tw_ins_lt g, tw_ins_gt k] at e; have := o3 p (r - 1) (by omega) (by omega) e; omega
      · rw [g, tw_ins_eq, tw_ins_lt k] at e; have := (o2 r (by omega)).1; omega
      · omega
      · rw [g, tw_ins_eq, tw_ins_gt k] at e; have := (o2 (r - 1) (by omega)).1; omega
      · rw [tw_ins_gt g, tw_ins_lt k] at e; have := o3 (p - 1) r (by omega) (by omega) e; omega
      · rw [tw_ins_gt g, k, tw_ins_eq] at e; have := (o2 (p - 1) (by omega)).1; omega
      · rw [tw_ins_gt g, tw_ins_gt k] at e; have := o3 (p - 1) (r - 1) (by omega) (by omega) e; omega
    · rw [b9] at hx
      rcases Nat.lt_or_ge x (s 9 0) with g | g
      · rw [a2 x g] at z
        obtain ⟨p, p1, p2⟩ := o4 x g z
        rcases Nat.lt_or_ge p q with k | k
        · exact ⟨p, by omega, by rw [h6 p (by omega), tw_ins_lt k]; exact p2⟩
        · exact ⟨p + 1, by omega, by rw [h6 (p + 1) (by omega), tw_ins_s k]; exact p2⟩
      · exact ⟨q, by omega, by rw [h6 q (by omega), tw_ins_eq]; omega⟩
    · rw [b9] at hx
      rcases Nat.lt_or_ge x (s 9 0) with g | g
      · rw [a2 x g] at z
        rw [a4 x g, a0 x g]
        exact o5 x g z
      · have : x = s 9 0 := by omega
        rw [this, h4, b0]
        refine ⟨by omega, by omega, by omega⟩
end
section
/-! merge: the log is gone through up to i; s0 the state before, n what is new -/
def tw_mrg (md : Nat → Nat) (s0 s : Nat → Nat → Nat) (fr to i n : Nat) : Prop :=
  tw_ci md s ∧ (∀ k x, (k < 5 ∨ k = 6 ∨ (8 < k ∧ k < 24)) → s k x = s0 k x) ∧ (∀ d x, d < 4 → d ≠ to → s (24 + d) x = s0 (24 + d) x) ∧
  (∀ m, m < 4 → s0 (24 + to) m ≤ s (24 + to) m) ∧
  (∀ m k, m < 4 → k < s0 (24 + fr) m → s0 (20 + m) k < i → k < s (24 + to) m) ∧
  (∀ m k, m < 4 → s0 (24 + to) m ≤ k → k < s (24 + to) m → k < s0 (24 + fr) m ∧ s0 (20 + m) k < i) ∧
  n + s0 (24 + to) 0 + s0 (24 + to) 1 + s0 (24 + to) 2 + s0 (24 + to) 3 = s (24 + to) 0 + s (24 + to) 1 + s (24 + to) 2 + s (24 + to) 3
theorem tw_mrg_0 {md : Nat → Nat} {s : Nat → Nat → Nat} {fr to : Nat} (h : tw_ci md s) : tw_mrg md s s fr to 0 0 :=
  ⟨h, fun _ _ _ => rfl, fun _ _ _ _ => rfl, fun _ _ => Nat.le_refl _, fun _ _ _ _ z => absurd z (Nat.not_lt_zero _), fun m k _ h1 h2 => by omega, by omega⟩
theorem tw_mrg_no {md : Nat → Nat} {s0 s : Nat → Nat → Nat} {fr to i n : Nat} (h : tw_mrg md s0 s fr to i n) (h0 : tw_ci md s0) (hf : fr < 4) (ht : to < 4) (hi : i < s0 9 0) (hno : ¬ (tw_has s fr i ∧ ¬ tw_has s to i)) : tw_mrg md s0 s fr to (i + 1) n := by
  obtain ⟨c1, c2, c3, c4, c5, c6, c7⟩ := h
  refine ⟨c1, c2, c3, c4, fun m k hm hk hz => ?_, fun m k hm a b => ?_, c7⟩
  · rcases Nat.lt_or_ge (s0 (20 + m) k) i with g | g
    · exact c5 m k hm hk g
    · have hz2 : s0 (20 + m) k = i := by omega
      have hkm : k < md m := Nat.lt_of_lt_of_le hk (h0.2.1.1 fr m hf hm)
      obtain ⟨-, x2, x3⟩ := h0.1.1 m k hm hkm
      rw [hz2] at x2 x3
      have e0 : s 0 i = m := by rw [c2 0 i (by omega)]; exact x2
      have e1 : s 1 i = k := by rw [c2 1 i (by omega)]; exact x3
      by_cases hft : fr = to
      · subst hft
        have := c4 m hm
        omega
      · have hin : tw_has s fr i := by
          unfold tw_has
          rw [e0, e1, c3 fr m hf hft]; exact hk
        have hin2 : tw_has s to i := Classical.byContradiction fun z => hno ⟨hin, z⟩
        unfold tw_has at hin2
        rw [e0, e1] at hin2
        exact hin2
  · obtain ⟨x1, x2⟩ := c6 m k hm a b
    exact ⟨x1, by omega⟩
theorem tw_mrg_yes {md : Nat → Nat} {s0 s : Nat → Nat → Nat} {fr to i n : Nat} (h : tw_mrg md s0 s fr to i n) (h0 : tw_ci md s0) (hf : fr < 4) (ht : to < 4) (hi : i < s0 9 0) (hy : tw_has s fr i) (hn : ¬ tw_has s to i) : tw_mrg md s0 (tw_rcv s to i) fr to (i + 1) (n + 1) := by
  have hft : fr ≠ to := fun z => by subst z; exact hn hy
  obtain ⟨c1, c2, c3, c4, c5, c6, c7⟩ := h
  have e9 : s 9 0 = s0 9 0 := c2 9 0 (by omega)
  have e0 : s 0 i = s0 0 i := c2 0 i (by omega)
  have e1 : s 1 i = s0 1 i := c2 1 i (by omega)
  obtain ⟨mi, ni, oi⟩ := h0.1.2.1 i hi
  obtain ⟨li, lj⟩ := h0.1.2.2.2.1 i hi
  have hy0 : s0 1 i < s0 (24 + fr) (s0 0 i) := by
    unfold tw_has at hy
    rw [e0, e1, c3 fr _ hf hft] at hy
    exact hy
  have hn0 : ¬ s0 1 i < s (24 + to) (s0 0 i) := by
    unfold tw_has at hn
    rw [e0, e1] at hn
    exact hn
  have hk : s 1 i = s (24 + to) (s 0 i) := by
    rw [e0, e1]
    rcases Nat.lt_or_ge (s (24 + to) (s0 0 i)) (s0 1 i) with g | g
    · have := (lj (s0 0 i) (s (24 + to) (s0 0 i)) mi (by rw [li]; exact g)).2
      have := c5 (s0 0 i) (s (24 + to) (s0 0 i)) mi (by omega) this
      omega
    · omega
  have hh : ∀ m, m < 4 → s (16 + m) i ≤ s (24 + to) m := by
    intro m hm
    rw [c2 (16 + m) i (by omega)]
    rcases Nat.lt_or_ge (s (24 + to) m) (s0 (16 + m) i) with g | g
    · have h1 := (lj m (s (24 + to) m) hm g).2
      have h2 := h0.2.1.2 fr i hf hi hy0 m hm
      have h3 := c5 m (s (24 + to) m) hm (by omega) h1
      omega
    · exact g
  have hci := tw_rcv_ci c1 ht (by rw [e9]; exact hi) hk hh
  have row : ∀ m, tw_rcv s to i (24 + to) m = if m = s0 0 i then s0 1 i + 1 else s (24 + to) m := by
    intro m
    rw [tw_rcv_k, e0, e1]
    by_cases g : m = s0 0 i
    · rw [if_pos ⟨rfl, g⟩, if_pos g]
    · rw [if_neg (fun z => g z.2), if_neg g]
  have hk0 : s (24 + to) (s0 0 i) = s0 1 i := by rw [e0, e1] at hk; exact hk.symm
  refine ⟨hci, fun k x hx => by rw [tw_rcv_o hx]; exact c2 k x hx, fun d x hd hd2 => ?_, fun m hm => ?_, fun m k hm hk9 hz => ?_, fun m k hm a b => ?_, ?_⟩
  · rw [tw_rcv_k, if_neg (fun z => hd2 z.1)]
    exact c3 d x hd hd2
  · rw [row]
    have := c4 m hm
    split
    · rename_i g; rw [g] at this ⊢; omega
    · exact this
  · rw [row]
    rcases Nat.lt_or_ge (s0 (20 + m) k) i with g | g
    · have := c5 m k hm hk9 g
      split
      · rename_i z; rw [z] at this; omega
      · exact this
    · have hz2 : s0 (20 + m) k = i := by omega
      have hkm : k < md m := Nat.lt_of_lt_of_le hk9 (h0.2.1.1 fr m hf hm)
      obtain ⟨-, x2, x3⟩ := h0.1.1 m k hm hkm
      rw [hz2] at x2 x3
      rw [if_pos x2.symm]
      omega
  · rw [row] at b
    by_cases g : m = s0 0 i
    · rw [if_pos g] at b
      rcases Nat.lt_or_ge k (s0 1 i) with z | z
      · obtain ⟨x1, x2⟩ := c6 m k hm a (by rw [g, hk0]; exact z)
        exact ⟨x1, by omega⟩
      · have : k = s0 1 i := by omega
        rw [g, this]
        exact ⟨hy0, by rw [oi]; omega⟩
    · rw [if_neg g] at b
      obtain ⟨x1, x2⟩ := c6 m k hm a b
      exact ⟨x1, by omega⟩
  · have r0 := row 0
    have r1 := row 1
    have r2 := row 2
    have r3 := row 3
    have hm4 : s0 0 i = 0 ∨ s0 0 i = 1 ∨ s0 0 i = 2 ∨ s0 0 i = 3 := by omega
    rcases hm4 with g | g | g | g <;> rw [g] at r0 r1 r2 r3 hk0 <;> simp at r0 r1 r2 r3 <;> omega
theorem tw_mrg_end {md : Nat → Nat} {s0 s : Nat → Nat → Nat} {fr to n : Nat} (h : tw_mrg md s0 s fr to (s0 9 0) n) (h0 : tw_ci md s0) (hf : fr < 4) : ∀ m, m < 4 → s (24 + to) m = max (s0 (24 + to) m) (s0 (24 + fr) m) := by
  obtain ⟨c1, c2, c3, c4, c5, c6, c7⟩ := h
  intro m hm
  have h1 := c4 m hm
  have h2 : s0 (24 + fr) m ≤ s (24 + to) m := by
    rcases Nat.lt_or_ge (s (24 + to) m) (s0 (24 + fr) m) with g | g
    · have hkm : s (24 + to) m < md m := Nat.lt_of_lt_of_le g (h0.2.1.1 fr m hf hm)
      have := c5 m (s (24 + to) m) hm g (h0.1.1 m _ hm hkm).1
      omega
    · exact g
  have h3 : s (24 + to) m ≤ s0 (24 + to) m ∨ s (24 + to) m ≤ s0 (24 + fr) m := by
    rcases Nat.lt_or_ge (s0 (24 + to) m) (s (24 + to) m) with g | g
    · right
      have := (c6 m (s (24 + to) m - 1) hm (by omega) (by omega)).1
      omega
    · exact Or.inl g
  omega
end
section
/-! The reference's state t: 0 number, 1 maker, 2 change, 3 value, 4 first, 5 sibling, 6 up, 7 what (2 l: letter l; 2 l + 1: letter l taken away), 8 had, 9 made, 10 has, 11 order, 12 gone; 13: thrown, letters, orderOf + 1, long_. g: which change made a letter; T: the letters in ORDER, START first. -/
def tw_n (t : Nat → Nat → Nat) (l : Nat) : Nat := 4 * t 0 l + t 1 l
def tw_rlog (md : Nat → Nat) (s t : Nat → Nat → Nat) : Prop :=
  (∀ c, c < 4 → s (24 + c) c = md c) ∧ (∀ c m, c < 4 → m < 4 → t 10 (4 * c + m) = s (24 + c) m) ∧ (∀ c, c < 4 → t 9 c = md c) ∧
  (∀ i m, i < s 9 0 → m < 4 → t 8 ((400 * s 0 i + s 1 i) * 4 + m) = s (16 + m) i)
def tw_rlet (s t : Nat → Nat → Nat) (g : Nat → Nat) : Prop :=
  t 13 1 = s 9 1 + 1 ∧
  (∀ l, 1 ≤ l → l < t 13 1 → g l < s 9 0 ∧ s 2 (g l) = 0 ∧ t 1 l = s 0 (g l) ∧ t 2 l = s 1 (g l) ∧ t 3 l = s 3 (g l) ∧ tw_n t l = s 4 (g l) ∧ t 7 (400 * s 0 (g l) + s 1 (g l)) = 2 * l) ∧
  (∀ i j, i < s 9 0 → s 2 i = j + 1 → ∃ l, 1 ≤ l ∧ l < t 13 1 ∧ g l = j ∧ t 7 (400 * s 0 i + s 1 i) = 2 * l + 1)
def tw_rtree (s t : Nat → Nat → Nat) (g T : Nat → Nat) : Prop :=
  tw_list (t 13 1) T ∧ (∀ p, p < s 9 1 → s 6 p = g (T (p + 1))) ∧ t 0 0 = 0 ∧ t 1 0 = 0 ∧ (∀ l, t 13 1 ≤ l → t 4 l = 0) ∧
  tw_tree (t 13 1) T (tw_n t) (t 4) (t 5) (t 6) ∧ (∀ i j, i < t 13 1 → j < t 13 1 → tw_n t (T i) = tw_n t (T j) → i = j) ∧
  (∀ l, 1 ≤ l → l < t 13 1 → t 6 l ≠ 0 → s 1 (g (t 6 l)) < s (16 + s 0 (g (t 6 l))) (g l))
def tw_rel (md : Nat → Nat) (s t : Nat → Nat → Nat) (g T : Nat → Nat) : Prop := tw_ci md s ∧ tw_rlog md s t ∧ tw_rlet s t g ∧ tw_rtree s t g T
/-- the reference's kept text, if it keeps one, is the copy's -/
def tw_cache (s t : Nat → Nat → Nat) (T : Nat → Nat) : Prop :=
  t 13 2 ≤ 4 ∧ (1 ≤ t 13 2 → t 13 3 = tw_cn (tw_f s (t 13 2 - 1)) (s 9 1) ∧ ∀ p, p < s 9 1 → tw_f s (t 13 2 - 1) p = true → t 11 (tw_cn (tw_f s (t 13 2 - 1)) p) = T (p + 1))
theorem tw_idx {a b k j : Nat} (hk : k < 400) (hj : j < 400) (h : 400 * a + k = 400 * b + j) : a = b ∧ k = j := by omega
/-- the reference has a letter in a copy just where the class has its change -/
theorem tw_rel_in {md : Nat → Nat} {s t : Nat → Nat → Nat} {g T : Nat → Nat} (h : tw_rel md s t g T) {c l : Nat} (hc : c < 4) (h1 : 1 ≤ l) (hl : l < t 13 1) : t 2 l < t 10 (4 * c + t 1 l) ↔ tw_has s c (g l) := by
  obtain ⟨hci, ⟨-, r2, -, -⟩, ⟨-, a2, -⟩, -⟩ := h
  obtain ⟨x1, -, x3, x4, -⟩ := a2 l h1 hl
  unfold tw_has
  rw [x4, x3, r2 c _ hc (hci.1.2.1 _ x1).1]
end
section
/-! the reference's walk over the letters of a copy -/
theorem tw_cn_const {f : Nat → Bool} {a b : Nat} (h : a ≤ b) (hf : ∀ p, a ≤ p → p < b → f p = false) : tw_cn f b = tw_cn f a := by
  induction b with
  | zero => have : a = 0 := by omega
            rw [this]
  | succ b ih =>
    rcases Nat.lt_or_ge b a with g | g
    · have : a = b + 1 := by omega
      rw [this]
    · rw [tw_cn_f (hf b g (by omega)), ih g (fun p h1 h2 => hf p h1 (by omega))]
/-- all places up to q are passed; t the state before the walk -/
def tw_vis (T : Nat → Nat) (f : Nat → Bool) (t sm : Nat → Nat → Nat) (q : Nat) : Prop :=
  1 ≤ q ∧ sm 13 3 = tw_cn f (q - 1) ∧ (∀ p, p < q - 1 → f p = true → sm 11 (tw_cn f p) = T (p + 1)) ∧ ∀ k y, k ≠ 11 → (k ≠ 13 ∨ y ≠ 3) → sm k y = t k y
theorem tw_vis_skip {T : Nat → Nat} {f : Nat → Bool} {t sm : Nat → Nat → Nat} {q q' : Nat} (h : tw_vis T f t sm q) (hq : q ≤ q') (hno : ∀ k, q ≤ k → k < q' → f (k - 1) = false) : tw_vis T f t sm q' := by
  obtain ⟨h1, h2, h3, h4⟩ := h
  refine ⟨by omega, ?_, fun p hp fp => ?_, h4⟩
  · rw [h2, tw_cn_const (show q - 1 ≤ q' - 1 by omega) (fun p a b => by have := hno (p + 1) (by omega) (by omega); simpa using this)]
  · rcases Nat.lt_or_ge p (q - 1) with g | g
    · exact h3 p g fp
    · have := hno (p + 1) (by omega) (by omega)
      rw [show p + 1 - 1 = p by omega, fp] at this
      cases this
theorem tw_vis_no {T : Nat → Nat} {f : Nat → Bool} {t sm : Nat → Nat → Nat} {q : Nat} (h : tw_vis T f t sm q) (hno : f (q - 1) = false) : tw_vis T f t sm (q + 1) :=
  tw_vis_skip h (by omega) (fun k a b => by rw [show k = q by omega]; exact hno)
theorem tw_vis_put {T : Nat → Nat} {f : Nat → Bool} {t sm : Nat → Nat → Nat} {q : Nat} (h : tw_vis T f t sm q) (hy : f (q - 1) = true) : tw_vis T f t (tw_up (tw_up sm 11 (sm 13 3) (T q)) 13 3 (sm 13 3 + 1)) (q + 1) := by
  obtain ⟨h1, h2, h3, h4⟩ := h
  have e : tw_cn f (q + 1 - 1) = tw_cn f (q - 1) + 1 := by
    rw [show q + 1 - 1 = (q - 1) + 1 by omega, tw_cn_t hy]
  refine ⟨by omega, by rw [tw_up_e, e, h2], fun p hp fp => ?_, fun k y a b => ?_⟩
  · rw [tw_up_k (by omega)]
    rcases Nat.lt_or_ge p (q - 1) with g | g
    · have := tw_cn_lt g fp
      rw [tw_up_i (by omega)]
      exact h3 p g fp
    · have : p = q - 1 := by omega
      rw [this, h2, tw_up_e]
      congr 1
      omega
  · have e1 : tw_up (tw_up sm 11 (sm 13 3) (T q)) 13 3 (sm 13 3 + 1) k y = tw_up sm 11 (sm 13 3) (T q) k y := by
      by_cases g : k = 13
      · exact tw_up_i (by omega)
      · exact tw_up_k g
    rw [e1, tw_up_k a]
    exact h4 k y a b
theorem tw_mu {L q q' x y : Nat} (hq : q ≤ q') (h : x < y) : (L - q') * (L + 2) + x < (L - q) * (L + 2) + y := by
  have := Nat.mul_le_mul_right (L + 2) (Nat.sub_le_sub_left hq L)
  omega
theorem tw_mu1 {L q q' : Nat} (hq : q ≤ q') (h : q' < L) : (L - (q' + 1)) * (L + 2) + (L + 1) < (L - q) * (L + 2) := by
  have h1 : (L - (q' + 1)) * (L + 2) ≤ (L - q - 1) * (L + 2) := Nat.mul_le_mul_right (L + 2) (by omega)
  have h2 : (L - q) * (L + 2) = (L - q - 1) * (L + 2) + (L + 2) := by
    rw [show L - q = (L - q - 1) + 1 by omega, Nat.add_mul]
    simp
  omega
def tw_hd (L : Nat) (T n : Nat → Nat) (i dn q : Nat) : Prop :=
  i < L ∧ ((dn = 1 ∧ q = i + 1) ∨ (dn = 0 ∧ 1 ≤ i ∧ i < q ∧ q ≤ L ∧ (∀ k, i < k → k < q → n (T i) < n (T k)) ∧ (q < L → n (T q) < n (T i))))
def tw_mus (L i dn q : Nat) : Nat := (L - q) * (L + 2) + (if dn = 1 then L + 1 else i)
/-- what the walk wants of the reference's state -/
def tw_lkp (st : Nat → Nat → Nat) (a : Nat) (T : Nat → Nat) (f : Nat → Bool) : Prop :=
  (1 ≤ st 13 1 ∧ st 13 1 ≤ 1601) ∧ tw_list (st 13 1) T ∧ tw_tree (st 13 1) T (tw_n st) (st 4) (st 5) (st 6) ∧ (∀ i j, i < st 13 1 → j < st 13 1 → tw_n st (T i) = tw_n st (T j) → i = j) ∧ tw_n st 0 = 0 ∧
  (∀ k, 1 ≤ k → k < st 13 1 → st 1 k < 4 ∧ st 2 k < 2147483648) ∧ (∀ m, m < 4 → st 10 (4 * a + m) ≤ 400) ∧
  (∀ m k, m < 4 → k < st 10 (4 * a + m) → ∃ y, y < st 13 1 ∧ (st 7 (400 * m + k) = 2 * y ∨ (st 7 (400 * m + k) = 2 * y + 1 ∧ 1 ≤ y))) ∧
  (∀ k, 1 ≤ k → k < st 13 1 → st 6 k ≠ 0 → st 2 k < st 10 (4 * a + st 1 k) → st 2 (st 6 k) < st 10 (4 * a + st 1 (st 6 k))) ∧
  (∀ p, p + 1 < st 13 1 → (f p = true ↔ st 2 (T (p + 1)) < st 10 (4 * a + st 1 (T (p + 1))) ∧ ¬ ∃ m k, m < 4 ∧ k < st 10 (4 * a + m) ∧ st 7 (400 * m + k) = 2 * T (p + 1) + 1)) ∧
  (st 13 2 = a + 1 → st 13 3 = tw_cn f (st 13 1 - 1) ∧ ∀ p, p < st 13 1 - 1 → f p = true → st 11 (tw_cn f p) = T (p + 1)) ∧ st 13 2 ≤ 4
def tw_lkq (st u : Nat → Nat → Nat) (a : Nat) (T : Nat → Nat) (f : Nat → Bool) : Prop :=
  u 13 2 = a + 1 ∧ u 13 3 = tw_cn f (st 13 1 - 1) ∧ (∀ p, p < st 13 1 - 1 → f p = true → u 11 (tw_cn f p) = T (p + 1)) ∧ ∀ k y, k ≠ 11 → k ≠ 12 → (k ≠ 13 ∨ (y ≠ 2 ∧ y ≠ 3)) → u k y = st k y
/-- which letters are marked, up to change k of copy m -/
def tw_gn (st sm : Nat → Nat → Nat) (a m k : Nat) : Prop :=
  (∀ y, y < st 13 1 → sm 12 y < 2 ∧ (sm 12 y = 1 ↔ ∃ m' k', (m' < m ∨ (m' = m ∧ k' < k)) ∧ m' < 4 ∧ k' < st 10 (4 * a + m') ∧ st 7 (400 * m' + k') = 2 * y + 1)) ∧
  sm 13 2 = a + 1 ∧ sm 13 3 = 0 ∧ ∀ k y, k ≠ 12 → (k ≠ 13 ∨ (y ≠ 2 ∧ y ≠ 3)) → sm k y = st k y
theorem tw_gn_no {st sm : Nat → Nat → Nat} {a m k : Nat} (h : tw_gn st sm a m k) (hno : ∀ y, st 7 (400 * m + k) ≠ 2 * y + 1) : tw_gn st sm a m (k + 1) := by
  obtain ⟨h1, h2, h3, h4⟩ := h
  refine ⟨fun y hy => ⟨(h1 y hy).1, (h1 y hy).2.trans ⟨?_, ?_⟩⟩, h2, h3, h4⟩
  · rintro ⟨m', k', g, r⟩
    exact ⟨m', k', by omega, r⟩
  · rintro ⟨m', k', g, r1, r2, r3⟩
    refine ⟨m', k', ?_, r1, r2, r3⟩
    by_cases e : m' = m ∧ k' = k
    · rw [e.1, e.2] at r3
      exact absurd r3 (hno y)
    · omega
theorem tw_gn_yes {st sm : Nat → Nat → Nat} {a m k z : Nat} (h : tw_gn st sm a m k) (hm : m < 4) (hk : k < st 10 (4 * a + m)) (hz : st 7 (400 * m + k) = 2 * z + 1) : tw_gn st (tw_up sm 12 z 1) a m (k + 1) := by
  obtain ⟨h1, h2, h3, h4⟩ := h
  refine ⟨fun y hy => ?_, by rw [tw_up_k (by omega)]; exact h2, by rw [tw_up_k (by omega)]; exact h3, fun k' y a b => by rw [tw_up_k a]; exact h4 k' y a b⟩
  by_cases e : y = z
  · rw [e, tw_up_e]
    exact ⟨by omega, fun _ => ⟨m, k, by omega, hm, hk, hz⟩, fun _ => rfl⟩
  · rw [tw_up_i e]
    refine ⟨(h1 y hy).1, (h1 y hy).2.trans ⟨?_, ?_⟩⟩
    · rintro ⟨m', k', g, r⟩
      exact ⟨m', k', by omega, r⟩
    · rintro ⟨m', k', g, r1, r2, r3⟩
      refine ⟨m', k', ?_, r1, r2, r3⟩
      by_cases e2 : m' = m ∧ k' = k
      · rw [e2.1, e2.2] at r3
        omega
      · omega
theorem tw_gn_next {st sm : Nat → Nat → Nat} {a m k : Nat} (h : tw_gn st sm a m k) (hk : st 10 (4 * a + m) ≤ k) : tw_gn st sm a (m + 1) 0 := by
  obtain ⟨h1, h2, h3, h4⟩ := h
  refine ⟨fun y hy => ⟨(h1 y hy).1, (h1 y hy).2.trans ⟨?_, ?_⟩⟩, h2, h3, h4⟩
  · rintro ⟨m', k', g, r⟩
    exact ⟨m', k', by omega, r⟩
  · rintro ⟨m', k', g, r1, r2, r3⟩
    refine ⟨m', k', ?_, r1, r2, r3⟩
    by_cases e : m' = m
    · rw [e] at r2; omega
    · omega
end
section
/-- what the top of the stack is, said otherwise -/
theorem tw_t {p : Program} {l : Launch} {e : Env} {R : Room} {s : State} {m : MethodId} {args : Array Value} {below : List Frame} {meth : Method} {c : Code} {H : Heap} {locs : List Loc} {cells slots : Nat} {Q : State → Prop} {pc : Nat} {ls : Array Slot} {rest : List Value} {a b : Int32} (h : a = b) (kk : W p l e R s m args below meth c H locs cells slots Q (F0 m pc ls (.int b :: rest))) : W p l e R s m args below meth c H locs cells slots Q (F0 m pc ls (.int a :: rest)) := by rw [h]; exact kk
theorem tw_aald {p : Program} {l : Launch} {e : Env} {R : Room} {s : State} {m : MethodId} {args : Array Value} {below : List Frame} {meth : Method} {c : Code} {H : Heap} {locs : List Loc} {cells slots : Nat} {Q : State → Prop} {cc : ByteArray} {pc : Nat} {ls : Array Slot} {rest : List Value} {D : va_G} {cl : List vw_C} {a : Nat} {tys : List (ClassId × FieldType)} {ws : va_W} (hexec : p.tables.exec = Jvm.exec) (hb : c.code = cc) (hK : va_K D cl tys s) (hP : va_P D cl ws H) (q0 t0 : Nat) {cA : ClassId} {t : FieldType} {n : Nat} {f : Nat → Option Nat} (ha : ws[q0]? = some (a, .inl (cA, n, .inr (.inr (.inr (.inr f)))))) (ht : tys[t0]? = some (cA, .array t)) {i : Int32} (hin : vp_in i n) (hdg : decode cc pc = .ok (.aaload, 1))
    (kk : W p l e R s m args below meth c H locs cells slots Q (F0 m (pc + 1) ls (va_rf (f i.toNatClampNeg) :: rest))) : W p l e R s m args below meth c H locs cells slots Q (F0 m pc ls (.int i :: .ref a :: rest)) := by
  have hlt : i.toNatClampNeg < n := Nat.not_le.mp fun q => hin (Or.inr q)
  exact W.aald (v := va_rf (f i.toNatClampNeg)) (ty := .array t) hexec hb (hP q0 _ ha) ((hK.2 t0 _ ht).1 n (fun j => va_rf (f j))) rfl (fun q => by cases q) (by show ¬ (i < 0 ∨ (arrV _ _ _).slots.size ≤ _); rw [arrV_size]; exact hin) (by show (arrV _ _ _).slots[_]? = _; rw [arrV_read _ _ hlt]) rfl rfl hdg kk
/-- the cells of the class: the object at x, its arrays at the addresses ad, what they hold -/
def tw_x (cI cJ : ClassId) (x : Nat) (ad : Nat → Nat) (st : Nat → Nat → Nat) : va_W :=
  [(x, .inr (0, [.ref (ad 0), .ref (ad 1), .ref (ad 2), .ref (ad 10), .int (nI (st 9 0)), .ref (ad 3), .ref (ad 4), .ref (ad 5), .ref (ad 6), .int (nI (st 9 1)), .ref (ad 11), .ref (ad 12), .ref (ad 7), .ref (ad 8)])),
   (ad 0, .inl (cI, 512, .inl (fun i => nI (st 0 i)))),
   (ad 1, .inl (cI, 512, .inl (fun i => nI (st 1 i)))),
   (ad 2, .inl (cI, 512, .inl (fun i => nI (st 2 i) - 1))),
   (ad 3, .inl (cI, 512, .inl (fun i => nI (st 3 i)))),
   (ad 4, .inl (cI, 512, .inl (fun i => nI (st 4 i)))),
   (ad 5, .inl (cI, 512, .inl (fun i => nI (st 5 i)))),
   (ad 6, .inl (cI, 512, .inl (fun i => nI (st 6 i)))),
   (ad 7, .inl (cI, 4, .inl (fun i => nI (st 7 i)))),
   (ad 8, .inl (cI, 4, .inl (fun i => nI (st 8 i)))),
   (ad 10, .inl (cJ, 4, .inr (.inr (.inr (.inr (fun i => if i < 4 then some (ad (16 + i)) else none)))))),
   (ad 11, .inl (cJ, 4, .inr (.inr (.inr (.inr (fun i => if i < 4 then some (ad (20 + i)) else none)))))),
   (ad 12, .inl (cJ, 4, .inr (.inr (.inr (.inr (fun i => if i < 4 then some (ad (24 + i)) else none)))))),
   (ad 16, .inl (cI, 512, .inl (fun i => nI (st 16 i)))),
   (ad 17, .inl (cI, 512, .inl (fun i => nI (st 17 i)))),
   (ad 18, .inl (cI, 512, .inl (fun i => nI (st 18 i)))),
   (ad 19, .inl (cI, 512, .inl (fun i => nI (st 19 i)))),
   (ad 20, .inl (cI, 400, .inl (fun i => nI (st 20 i)))),
   (ad 21, .inl (cI, 400, .inl (fun i => nI (st 21 i)))),
   (ad 22, .inl (cI, 400, .inl (fun i => nI (st 22 i)))),
   (ad 23, .inl (cI, 400, .inl (fun i => nI (st 23 i)))),
   (ad 24, .inl (cI, 4, .inl (fun i => nI (st 24 i)))),
   (ad 25, .inl (cI, 4, .inl (fun i => nI (st 25 i)))),
   (ad 26, .inl (cI, 4, .inl (fun i => nI (st 26 i)))),
   (ad 27, .inl (cI, 4, .inl (fun i => nI (st 27 i))))]
def TWX (D : va_G) (cI cJ : ClassId) (x : Nat) (ad : Nat → Nat) (st : Nat → Nat → Nat) (A : Nat → Prop) (H0 H : Heap) (locs : List Loc) (s : State) : Prop :=
  va_K D twCl [(cI, .int), (cJ, .array .int)] s ∧ va_P D twCl (tw_x cI cJ x ad st) H ∧ va_D A (tw_x cI cJ x ad st) ∧ va_S A H0 H locs
section TWXR
variable {p : Program} {l : Launch} {e : Env} {R : Room} {s : State} {m : MethodId} {args : Array Value} {below : List Frame} {meth : Method} {c : Code} {H : Heap} {locs : List Loc} {cells slots : Nat} {Q : State → Prop}
variable {cc : ByteArray} {pc nL : Nat} {ls : Array Slot} {rest : List Value} {D : va_G} {A : Nat → Prop} {H0 : Heap} {x : Nat} {ad : Nat → Nat} {st : Nat → Nat → Nat} {cI cJ : ClassId}
theorem xxg_maker (S : CallFix p m c cc nL s args tw_wall RX0) (w : TWX D cI cJ x ad st A H0 H locs s) (hdg : decode cc pc = .ok (.getfield 9, 3)) (kk : W p l e R s m args below meth c H locs cells slots Q (F0 m (pc + 3) ls (.ref (ad 0) :: rest))) : W p l e R s m args below meth c H locs cells slots Q (F0 m pc ls (.ref x :: rest)) :=
  va_get (D := D) (ci := 0) (C := RX0) (T := TX0) (N := 14) S.1 S.2.1 S.2.2.2.2 inX0 S.2.2.2.1 w.1 w.2.1 0 rfl rfl 0 (by decide) (S.2.2.2.2 _ wf_X0_maker) (fun _ h => h) rfl hdg kk
theorem xxg_number (S : CallFix p m c cc nL s args tw_wall RX0) (w : TWX D cI cJ x ad st A H0 H locs s) (hdg : decode cc pc = .ok (.getfield 13, 3)) (kk : W p l e R s m args below meth c H locs cells slots Q (F0 m (pc + 3) ls (.ref (ad 1) :: rest))) : W p l e R s m args below meth c H locs cells slots Q (F0 m pc ls (.ref x :: rest)) :=
  va_get (D := D) (ci := 0) (C := RX0) (T := TX0) (N := 14) S.1 S.2.1 S.2.2.2.2 inX0 S.2.2.2.1 w.1 w.2.1 0 rfl rfl 1 (by decide) (S.2.2.2.2 _ wf_X0_number) (fun _ h => h) rfl hdg kk
theorem xxg_taken (S : CallFix p m c cc nL s args tw_wall RX0) (w : TWX D cI cJ x ad st A H0 H locs s) (hdg : decode cc pc = .ok (.getfield 16, 3)) (kk : W p l e R s m args below meth c H locs cells slots Q (F0 m (pc + 3) ls (.ref (ad 2) :: rest))) : W p l e R s m args below meth c H locs cells slots Q (F0 m pc ls (.ref x :: rest)) :=
  va_get (D := D) (ci := 0) (C := RX0) (T := TX0) (N := 14) S.1 S.2.1 S.2.2.2.2 inX0 S.2.2.2.1 w.1 w.2.1 0 rfl rfl 2 (by decide) (S.2.2.2.2 _ wf_X0_taken) (fun _ h => h) rfl hdg kk
theorem xxg_had (S : CallFix p m c cc nL s args tw_wall RX0) (w : TWX D cI cJ x ad st A H0 H locs s) (hdg : decode cc pc = .ok (.getfield 21, 3)) (kk : W p l e R s m args below meth c H locs cells slots Q (F0 m (pc + 3) ls (.ref (ad 10) :: rest))) : W p l e R s m args below meth c H locs cells slots Q (F0 m pc ls (.ref x :: rest)) :=
  va_get (D := D) (ci := 0) (C := RX0) (T := TX0) (N := 14) S.1 S.2.1 S.2.2.2.2 inX0 S.2.2.2.1 w.1 w.2.1 0 rfl rfl 3 (by decide) (S.2.2.2.2 _ wf_X0_had) (fun _ h => h) rfl hdg kk
theorem xxg_changes (S : CallFix p m c cc nL s args tw_wall RX0) (w : TWX D cI cJ x ad st A H0 H locs s) (hdg : decode cc pc = .ok (.getfield 24, 3)) (kk : W p l e R s m args below meth c H locs cells slots Q (F0 m (pc + 3) ls (.int (nI (st 9 0)) :: rest))) : W p l e R s m args below meth c H locs cells slots Q (F0 m pc ls (.ref x :: rest)) :=
  va_get (D := D) (ci := 0) (C := RX0) (T := TX0) (N := 14) S.1 S.2.1 S.2.2.2.2 inX0 S.2.2.2.1 w.1 w.2.1 0 rfl rfl 4 (by decide) (S.2.2.2.2 _ wf_X0_changes) (fun _ h => h) rfl hdg kk
theorem xxg_bytes (S : CallFix p m c cc nL s args tw_wall RX0) (w : TWX D cI cJ x ad st A H0 H locs s) (hdg : decode cc pc = .ok (.getfield 28, 3)) (kk : W p l e R s m args below meth c H locs cells slots Q (F0 m (pc + 3) ls (.ref (ad 3) :: rest))) : W p l e R s m args below meth c H locs cells slots Q (F0 m pc ls (.ref x :: rest)) :=
  va_get (D := D) (ci := 0) (C := RX0) (T := TX0) (N := 14) S.1 S.2.1 S.2.2.2.2 inX0 S.2.2.2.1 w.1 w.2.1 0 rfl rfl 5 (by decide) (S.2.2.2.2 _ wf_X0_bytes) (fun _ h => h) rfl hdg kk
theorem xxg_names (S : CallFix p m c cc nL s args tw_wall RX0) (w : TWX D cI cJ x ad st A H0 H locs s) (hdg : decode cc pc = .ok (.getfield 31, 3)) (kk : W p l e R s m args below meth c H locs cells slots Q (F0 m (pc + 3) ls (.ref (ad 4) :: rest))) : W p l e R s m args below meth c H locs cells slots Q (F0 m pc ls (.ref x :: rest)) :=
  va_get (D := D) (ci := 0) (C := RX0) (T := TX0) (N := 14) S.1 S.2.1 S.2.2.2.2 inX0 S.2.2.2.1 w.1 w.2.1 0 rfl rfl 6 (by decide) (S.2.2.2.2 _ wf_X0_names) (fun _ h => h) rfl hdg kk
theorem xxg_shownIn (S : CallFix p m c cc nL s args tw_wall RX0) (w : TWX D cI cJ x ad st A H0 H locs s) (hdg : decode cc pc = .ok (.getfield 34, 3)) (kk : W p l e R s m args below meth c H locs cells slots Q (F0 m (pc + 3) ls (.ref (ad 5) :: rest))) : W p l e R s m args below meth c H locs cells slots Q (F0 m pc ls (.ref x :: rest)) :=
  va_get (D := D) (ci := 0) (C := RX0) (T := TX0) (N := 14) S.1 S.2.1 S.2.2.2.2 inX0 S.2.2.2.1 w.1 w.2.1 0 rfl rfl 7 (by decide) (S.2.2.2.2 _ wf_X0_shownIn) (fun _ h => h) rfl hdg kk
theorem xxg_order (S : CallFix p m c cc nL s args tw_wall RX0) (w : TWX D cI cJ x ad st A H0 H locs s) (hdg : decode cc pc = .ok (.getfield 37, 3)) (kk : W p l e R s m args below meth c H locs cells slots Q (F0 m (pc + 3) ls (.ref (ad 6) :: rest))) : W p l e R s m args below meth c H locs cells slots Q (F0 m pc ls (.ref x :: rest)) :=
  va_get (D := D) (ci := 0) (C := RX0) (T := TX0) (N := 14) S.1 S.2.1 S.2.2.2.2 inX0 S.2.2.2.1 w.1 w.2.1 0 rfl rfl 8 (by decide) (S.2.2.2.2 _ wf_X0_order) (fun _ h => h) rfl hdg kk
theorem xxg_letters (S : CallFix p m c cc nL s args tw_wall RX0) (w : TWX D cI cJ x ad st A H0 H locs s) (hdg : decode cc pc = .ok (.getfield 40, 3)) (kk : W p l e R s m args below meth c H locs cells slots Q (F0 m (pc + 3) ls (.int (nI (st 9 1)) :: rest))) : W p l e R s m args below meth c H locs cells slots Q (F0 m pc ls (.ref x :: rest)) :=
  va_get (D := D) (ci := 0) (C := RX0) (T := TX0) (N := 14) S.1 S.2.1 S.2.2.2.2 inX0 S.2.2.2.1 w.1 w.2.1 0 rfl rfl 9 (by decide) (S.2.2.2.2 _ wf_X0_letters) (fun _ h => h) rfl hdg kk
theorem xxg_own (S : CallFix p m c cc nL s args tw_wall RX0) (w : TWX D cI cJ x ad st A H0 H locs s) (hdg : decode cc pc = .ok (.getfield 43, 3)) (kk : W p l e R s m args below meth c H locs cells slots Q (F0 m (pc + 3) ls (.ref (ad 11) :: rest))) : W p l e R s m args below meth c H locs cells slots Q (F0 m pc ls (.ref x :: rest)) :=
  va_get (D := D) (ci := 0) (C := RX0) (T := TX0) (N := 14) S.1 S.2.1 S.2.2.2.2 inX0 S.2.2.2.1 w.1 w.2.1 0 rfl rfl 10 (by decide) (S.2.2.2.2 _ wf_X0_own) (fun _ h => h) rfl hdg kk
theorem xxg_known (S : CallFix p m c cc nL s args tw_wall RX0) (w : TWX D cI cJ x ad st A H0 H locs s) (hdg : decode cc pc = .ok (.getfield 46, 3)) (kk : W p l e R s m args below meth c H locs cells slots Q (F0 m (pc + 3) ls (.ref (ad 12) :: rest))) : W p l e R s m args below meth c H locs cells slots Q (F0 m pc ls (.ref x :: rest)) :=
  va_get (D := D) (ci := 0) (C := RX0) (T := TX0) (N := 14) S.1 S.2.1 S.2.2.2.2 inX0 S.2.2.2.1 w.1 w.2.1 0 rfl rfl 11 (by decide) (S.2.2.2.2 _ wf_X0_known) (fun _ h => h) rfl hdg kk
theorem xxg_greatest (S : CallFix p m c cc nL s args tw_wall RX0) (w : TWX D cI cJ x ad st A H0 H locs s) (hdg : decode cc pc = .ok (.getfield 49, 3)) (kk : W p l e R s m args below meth c H locs cells slots Q (F0 m (pc + 3) ls (.ref (ad 7) :: rest))) : W p l e R s m args below meth c H locs cells slots Q (F0 m pc ls (.ref x :: rest)) :=
  va_get (D := D) (ci := 0) (C := RX0) (T := TX0) (N := 14) S.1 S.2.1 S.2.2.2.2 inX0 S.2.2.2.1 w.1 w.2.1 0 rfl rfl 12 (by decide) (S.2.2.2.2 _ wf_X0_greatest) (fun _ h => h) rfl hdg kk
theorem xxg_lengths (S : CallFix p m c cc nL s args tw_wall RX0) (w : TWX D cI cJ x ad st A H0 H locs s) (hdg : decode cc pc = .ok (.getfield 52, 3)) (kk : W p l e R s m args below meth c H locs cells slots Q (F0 m (pc + 3) ls (.ref (ad 8) :: rest))) : W p l e R s m args below meth c H locs cells slots Q (F0 m pc ls (.ref x :: rest)) :=
  va_get (D := D) (ci := 0) (C := RX0) (T := TX0) (N := 14) S.1 S.2.1 S.2.2.2.2 inX0 S.2.2.2.1 w.1 w.2.1 0 rfl rfl 13 (by decide) (S.2.2.2.2 _ wf_X0_lengths) (fun _ h => h) rfl hdg kk
theorem xxp_changes (S : CallFix p m c cc nL s args tw_wall RX0) (w : TWX D cI cJ x ad st A H0 H locs s) {v : Nat} (hdg : decode cc pc = .ok (.putfield 24, 3)) (kk : ∀ (H1 : Heap) (locs1 : List Loc), TWX D cI cJ x ad (tw_up st 9 0 v) A H0 H1 locs1 s → W p l e R s m args below meth c H1 locs1 cells slots Q (F0 m (pc + 3) ls rest)) : W p l e R s m args below meth c H locs cells slots Q (F0 m pc ls (.int (nI (v)) :: .ref x :: rest)) :=
  va_put (D := D) (ci := 0) (ty := .int) (C := RX0) (T := TX0) (N := 14) S.1 S.2.1 S.2.2.2.2 inX0 tyX0 tyX0_ok nmX0 S.2.2.2.1 w.1 w.2.1 w.2.2.1 w.2.2.2 0 rfl rfl 4 (by decide) (S.2.2.2.2 _ wf_X0_changes) (fun _ h => h) rfl (by decide +kernel) rfl rfl (Nat.le_of_ble_eq_true rfl) hdg (fun H1 l1 hP hD hS => kk H1 l1 ⟨w.1, hP, hD, hS⟩)
theorem xxp_letters (S : CallFix p m c cc nL s args tw_wall RX0) (w : TWX D cI cJ x ad st A H0 H locs s) {v : Nat} (hdg : decode cc pc = .ok (.putfield 40, 3)) (kk : ∀ (H1 : Heap) (locs1 : List Loc), TWX D cI cJ x ad (tw_up st 9 1 v) A H0 H1 locs1 s → W p l e R s m args below meth c H1 locs1 cells slots Q (F0 m (pc + 3) ls rest)) : W p l e R s m args below meth c H locs cells slots Q (F0 m pc ls (.int (nI (v)) :: .ref x :: rest)) :=
  va_put (D := D) (ci := 0) (ty := .int) (C := RX0) (T := TX0) (N := 14) S.1 S.2.1 S.2.2.2.2 inX0 tyX0 tyX0_ok nmX0 S.2.2.2.1 w.1 w.2.1 w.2.2.1 w.2.2.2 0 rfl rfl 9 (by decide) (S.2.2.2.2 _ wf_X0_letters) (fun _ h => h) rfl (by decide +kernel) rfl rfl (Nat.le_of_ble_eq_true rfl) hdg (fun H1 l1 hP hD hS => kk H1 l1 ⟨w.1, hP, hD, hS⟩)
theorem xxl_0 (S : CallFix p m c cc nL s args tw_wall RX0) (w : TWX D cI cJ x ad st A H0 H locs s) {i : Nat} (hi : i < 512) (hdg : decode cc pc = .ok (.iaload, 1)) (kk : W p l e R s m args below meth c H locs cells slots Q (F0 m (pc + 1) ls (.int (nI (st 0 i)) :: rest))) : W p l e R s m args below meth c H locs cells slots Q (F0 m pc ls (.int (nI i) :: .ref (ad 0) :: rest)) := by
  refine va_iald S.1 S.2.1 w.1 w.2.1 1 0 rfl rfl (vp_in_nI hi (by decide)) hdg ?_
  rw [nI_clamp (by omega)]
  exact kk
theorem xxe_0 {i v : Nat} (hi : i < 512) : (tw_x cI cJ x ad st).set 1 (ad 0, .inl (cI, 512, .inl (upd (fun i => nI (st 0 i)) (nI i).toNatClampNeg (nI (v))))) = tw_x cI cJ x ad (tw_up st 0 i v) := by
  have h : upd (fun i => nI (st 0 i)) (nI i).toNatClampNeg (nI (v)) = (fun j => nI (tw_up st 0 i v 0 j)) := by
    rw [nI_clamp (by omega)]
    funext j
    by_cases g : j = i
    · rw [g, tw_up_e]; simp [upd]
    · rw [tw_up_i g]; simp [upd, g]
  rw [h]
  rfl
theorem xxs_0 (S : CallFix p m c cc nL s args tw_wall RX0) (w : TWX D cI cJ x ad st A H0 H locs s) {i v : Nat} (hi : i < 512) (hdg : decode cc pc = .ok (.iastore, 1)) (kk : ∀ (H1 : Heap) (locs1 : List Loc), TWX D cI cJ x ad (tw_up st 0 i v) A H0 H1 locs1 s → W p l e R s m args below meth c H1 locs1 cells slots Q (F0 m (pc + 1) ls rest)) : W p l e R s m args below meth c H locs cells slots Q (F0 m pc ls (.int (nI (v)) :: .int (nI i) :: .ref (ad 0) :: rest)) := by
  refine va_iast S.1 S.2.1 w.1 w.2.1 w.2.2.1 w.2.2.2 1 0 rfl rfl (vp_in_nI hi (by decide)) hdg (fun H1 l1 hP hD hS => ?_)
  rw [xxe_0 hi] at hP hD
  exact kk H1 l1 ⟨w.1, hP, hD, hS⟩
theorem xxl_1 (S : CallFix p m c cc nL s args tw_wall RX0) (w : TWX D cI cJ x ad st A H0 H locs s) {i : Nat} (hi : i < 512) (hdg : decode cc pc = .ok (.iaload, 1)) (kk : W p l e R s m args below meth c H locs cells slots Q (F0 m (pc + 1) ls (.int (nI (st 1 i)) :: rest))) : W p l e R s m args below meth c H locs cells slots Q (F0 m pc ls (.int (nI i) :: .ref (ad 1) :: rest)) := by
  refine va_iald S.1 S.2.1 w.1 w.2.1 2 0 rfl rfl (vp_in_nI hi (by decide)) hdg ?_
  rw [nI_clamp (by omega)]
  exact kk
theorem xxe_1 {i v : Nat} (hi : i < 512) : (tw_x cI cJ x ad st).set 2 (ad 1, .inl (cI, 512, .inl (upd (fun i => nI (st 1 i)) (nI i).toNatClampNeg (nI (v))))) = tw_x cI cJ x ad (tw_up st 1 i v) := by
  have h : upd (fun i => nI (st 1 i)) (nI i).toNatClampNeg (nI (v)) = (fun j => nI (tw_up st 1 i v 1 j)) := by
    rw [nI_clamp (by omega)]
    funext j
    by_cases g : j = i
    · rw [g, tw_up_e]; simp [upd]
    · rw [tw_up_i g]; simp [upd, g]
  rw [h]
  rfl
theorem xxs_1 (S : CallFix p m c cc nL s args tw_wall RX0) (w : TWX D cI cJ x ad st A H0 H locs s) {i v : Nat} (hi : i < 512) (hdg : decode cc pc = .ok (.iastore, 1)) (kk : ∀ (H1 : Heap) (locs1 : List Loc), TWX D cI cJ x ad (tw_up st 1 i v) A H0 H1 locs1 s → W p l e R s m args below meth c H1 locs1 cells slots Q (F0 m (pc + 1) ls rest)) : W p l e R s m args below meth c H locs cells slots Q (F0 m pc ls (.int (nI (v)) :: .int (nI i) :: .ref (ad 1) :: rest)) := by
  refine va_iast S.1 S.2.1 w.1 w.2.1 w.2.2.1 w.2.2.2 2 0 rfl rfl (vp_in_nI hi (by decide)) hdg (fun H1 l1 hP hD hS => ?_)
  rw [xxe_1 hi] at hP hD
  exact kk H1 l1 ⟨w.1, hP, hD, hS⟩
theorem xxl_2 (S : CallFix p m c cc nL s args tw_wall RX0) (w : TWX D cI cJ x ad st A H0 H locs s) {i : Nat} (hi : i < 512) (hdg : decode cc pc = .ok (.iaload, 1)) (kk : W p l e R s m args below meth c H locs cells slots Q (F0 m (pc + 1) ls (.int (nI (st 2 i) - 1) :: rest))) : W p l e R s m args below meth c H locs cells slots Q (F0 m pc ls (.int (nI i) :: .ref (ad 2) :: rest)) := by
  refine va_iald S.1 S.2.1 w.1 w.2.1 3 0 rfl rfl (vp_in_nI hi (by decide)) hdg ?_
  rw [nI_clamp (by omega)]
  exact kk
theorem xxe_2 {i v : Nat} (hi : i < 512) : (tw_x cI cJ x ad st).set 3 (ad 2, .inl (cI, 512, .inl (upd (fun i => nI (st 2 i) - 1) (nI i).toNatClampNeg (nI (v) - 1)))) = tw_x cI cJ x ad (tw_up st 2 i v) := by
  have h : upd (fun i => nI (st 2 i) - 1) (nI i).toNatClampNeg (nI (v) - 1) = (fun j => nI (tw_up st 2 i v 2 j) - 1) := by
    rw [nI_clamp (by omega)]
    funext j
    by_cases g : j = i
    · rw [g, tw_up_e]; simp [upd]
    · rw [tw_up_i g]; simp [upd, g]
  rw [h]
  rfl
theorem xxs_2 (S : CallFix p m c cc nL s args tw_wall RX0) (w : TWX D cI cJ x ad st A H0 H locs s) {i v : Nat} (hi : i < 512) (hdg : decode cc pc = .ok (.iastore, 1)) (kk : ∀ (H1 : Heap) (locs1 : List Loc), TWX D cI cJ x ad (tw_up st 2 i v) A H0 H1 locs1 s → W p l e R s m args below meth c H1 locs1 cells slots Q (F0 m (pc + 1) ls rest)) : W p l e R s m args below meth c H locs cells slots Q (F0 m pc ls (.int (nI (v) - 1) :: .int (nI i) :: .ref (ad 2) :: rest)) := by
  refine va_iast S.1 S.2.1 w.1 w.2.1 w.2.2.1 w.2.2.2 3 0 rfl rfl (vp_in_nI hi (by decide)) hdg (fun H1 l1 hP hD hS => ?_)
  rw [xxe_2 hi] at hP hD
  exact kk H1 l1 ⟨w.1, hP, hD, hS⟩
theorem xxl_3 (S : CallFix p m c cc nL s args tw_wall RX0) (w : TWX D cI cJ x ad st A H0 H locs s) {i : Nat} (hi : i < 512) (hdg : decode cc pc = .ok (.iaload, 1)) (kk : W p l e R s m args below meth c H locs cells slots Q (F0 m (pc + 1) ls (.int (nI (st 3 i)) :: rest))) : W p l e R s m args below meth c H locs cells slots Q (F0 m pc ls (.int (nI i) :: .ref (ad 3) :: rest)) := by
  refine va_iald S.1 S.2.1 w.1 w.2.1 4 0 rfl rfl (vp_in_nI hi (by decide)) hdg ?_
  rw [nI_clamp (by omega)]
  exact kk
theorem xxe_3 {i v : Nat} (hi : i < 512) : (tw_x cI cJ x ad st).set 4 (ad 3, .inl (cI, 512, .inl (upd (fun i => nI (st 3 i)) (nI i).toNatClampNeg (nI (v))))) = tw_x cI cJ x ad (tw_up st 3 i v) := by
  have h : upd (fun i => nI (st 3 i)) (nI i).toNatClampNeg (nI (v)) = (fun j => nI (tw_up st 3 i v 3 j)) := by
    rw [nI_clamp (by omega)]
    funext j
    by_cases g : j = i
    · rw [g, tw_up_e]; simp [upd]
    · rw [tw_up_i g]; simp [upd, g]
  rw [h]
  rfl
theorem xxs_3 (S : CallFix p m c cc nL s args tw_wall RX0) (w : TWX D cI cJ x ad st A H0 H locs s) {i v : Nat} (hi : i < 512) (hdg : decode cc pc = .ok (.iastore, 1)) (kk : ∀ (H1 : Heap) (locs1 : List Loc), TWX D cI cJ x ad (tw_up st 3 i v) A H0 H1 locs1 s → W p l e R s m args below meth c H1 locs1 cells slots Q (F0 m (pc + 1) ls rest)) : W p l e R s m args below meth c H locs cells slots Q (F0 m pc ls (.int (nI (v)) :: .int (nI i) :: .ref (ad 3) :: rest)) := by
  refine va_iast S.1 S.2.1 w.1 w.2.1 w.2.2.1 w.2.2.2 4 0 rfl rfl (vp_in_nI hi (by decide)) hdg (fun H1 l1 hP hD hS => ?_)
  rw [xxe_3 hi] at hP hD
  exact kk H1 l1 ⟨w.1, hP, hD, hS⟩
theorem xxl_4 (S : CallFix p m c cc nL s args tw_wall RX0) (w : TWX D cI cJ x ad st A H0 H locs s) {i : Nat} (hi : i < 512) (hdg : decode cc pc = .ok (.iaload, 1)) (kk : W p l e R s m args below meth c H locs cells slots Q (F0 m (pc + 1) ls (.int (nI (st 4 i)) :: rest))) : W p l e R s m args below meth c H locs cells slots Q (F0 m pc ls (.int (nI i) :: .ref (ad 4) :: rest)) := by
  refine va_iald S.1 S.2.1 w.1 w.2.1 5 0 rfl rfl (vp_in_nI hi (by decide)) hdg ?_
  rw [nI_clamp (by omega)]
  exact kk
theorem xxe_4 {i v : Nat} (hi : i < 512) : (tw_x cI cJ x ad st).set 5 (ad 4, .inl (cI, 512, .inl (upd (fun i => nI (st 4 i)) (nI i).toNatClampNeg (nI (v))))) = tw_x cI cJ x ad (tw_up st 4 i v) := by
  have h : upd (fun i => nI (st 4 i)) (nI i).toNatClampNeg (nI (v)) = (fun j => nI (tw_up st 4 i v 4 j)) := by
    rw [nI_clamp (by omega)]
    funext j
    by_cases g : j = i
    · rw [g, tw_up_e]; simp [upd]
    · rw [tw_up_i g]; simp [upd, g]
  rw [h]
  rfl
theorem xxs_4 (S : CallFix p m c cc nL s args tw_wall RX0) (w : TWX D cI cJ x ad st A H0 H locs s) {i v : Nat} (hi : i < 512) (hdg : decode cc pc = .ok (.iastore, 1)) (kk : ∀ (H1 : Heap) (locs1 : List Loc), TWX D cI cJ x ad (tw_up st 4 i v) A H0 H1 locs1 s → W p l e R s m args below meth c H1 locs1 cells slots Q (F0 m (pc + 1) ls rest)) : W p l e R s m args below meth c H locs cells slots Q (F0 m pc ls (.int (nI (v)) :: .int (nI i) :: .ref (ad 4) :: rest)) := by
  refine va_iast S.1 S.2.1 w.1 w.2.1 w.2.2.1 w.2.2.2 5 0 rfl rfl (vp_in_nI hi (by decide)) hdg (fun H1 l1 hP hD hS => ?_)
  rw [xxe_4 hi] at hP hD
  exact kk H1 l1 ⟨w.1, hP, hD, hS⟩
theorem xxl_5 (S : CallFix p m c cc nL s args tw_wall RX0) (w : TWX D cI cJ x ad st A H0 H locs s) {i : Nat} (hi : i < 512) (hdg : decode cc pc = .ok (.iaload, 1)) (kk : W p l e R s m args below meth c H locs cells slots Q (F0 m (pc + 1) ls (.int (nI (st 5 i)) :: rest))) : W p l e R s m args below meth c H locs cells slots Q (F0 m pc ls (.int (nI i) :: .ref (ad 5) :: rest)) := by
  refine va_iald S.1 S.2.1 w.1 w.2.1 6 0 rfl rfl (vp_in_nI hi (by decide)) hdg ?_
  rw [nI_clamp (by omega)]
  exact kk
theorem xxe_5 {i v : Nat} (hi : i < 512) : (tw_x cI cJ x ad st).set 6 (ad 5, .inl (cI, 512, .inl (upd (fun i => nI (st 5 i)) (nI i).toNatClampNeg (nI (v))))) = tw_x cI cJ x ad (tw_up st 5 i v) := by
  have h : upd (fun i => nI (st 5 i)) (nI i).toNatClampNeg (nI (v)) = (fun j => nI (tw_up st 5 i v 5 j)) := by
    rw [nI_clamp (by omega)]
    funext j
    by_cases g : j = i
    · rw [g, tw_up_e]; simp [upd]
    · rw [tw_up_i g]; simp [upd, g]
  rw [h]
  rfl
theorem xxs_5 (S : CallFix p m c cc nL s args tw_wall RX0) (w : TWX D cI cJ x ad st A H0 H locs s) {i v : Nat} (hi : i < 512) (hdg : decode cc pc = .ok (.iastore, 1)) (kk : ∀ (H1 : Heap) (locs1 : List Loc), TWX D cI cJ x ad (tw_up st 5 i v) A H0 H1 locs1 s → W p l e R s m args below meth c H1 locs1 cells slots Q (F0 m (pc + 1) ls rest)) : W p l e R s m args below meth c H locs cells slots Q (F0 m pc ls (.int (nI (v)) :: .int (nI i) :: .ref (ad 5) :: rest)) := by
  refine va_iast S.1 S.2.1 w.1 w.2.1 w.2.2.1 w.2.2.2 6 0 rfl rfl (vp_in_nI hi (by decide)) hdg (fun H1 l1 hP hD hS => ?_)
  rw [xxe_5 hi] at hP hD
  exact kk H1 l1 ⟨w.1, hP, hD, hS⟩
theorem xxl_6 (S : CallFix p m c cc nL s args tw_wall RX0) (w : TWX D cI cJ x ad st A H0 H locs s) {i : Nat} (hi : i < 512) (hdg : decode cc pc = .ok (.iaload, 1)) (kk : W p l e R s m args below meth c H locs cells slots Q (F0 m (pc + 1) ls (.int (nI (st 6 i)) :: rest))) : W p l e R s m args below meth c H locs cells slots Q (F0 m pc ls (.int (nI i) :: .ref (ad 6) :: rest)) := by
  refine va_iald S.1 S.2.1 w.1 w.2.1 7 0 rfl rfl (vp_in_nI hi (by decide)) hdg ?_
  rw [nI_clamp (by omega)]
  exact kk
theorem xxe_6 {i v : Nat} (hi : i < 512) : (tw_x cI cJ x ad st).set 7 (ad 6, .inl (cI, 512, .inl (upd (fun i => nI (st 6 i)) (nI i).toNatClampNeg (nI (v))))) = tw_x cI cJ x ad (tw_up st 6 i v) := by
  have h : upd (fun i => nI (st 6 i)) (nI i).toNatClampNeg (nI (v)) = (fun j => nI (tw_up st 6 i v 6 j)) := by
    rw [nI_clamp (by omega)]
    funext j
    by_cases g : j = i
    · rw [g, tw_up_e]; simp [upd]
    · rw [tw_up_i g]; simp [upd, g]
  rw [h]
  rfl
theorem xxs_6 (S : CallFix p m c cc nL s args tw_wall RX0) (w : TWX D cI cJ x ad st A H0 H locs s) {i v : Nat} (hi : i < 512) (hdg : decode cc pc = .ok (.iastore, 1)) (kk : ∀ (H1 : Heap) (locs1 : List Loc), TWX D cI cJ x ad (tw_up st 6 i v) A H0 H1 locs1 s → W p l e R s m args below meth c H1 locs1 cells slots Q (F0 m (pc + 1) ls rest)) : W p l e R s m args below meth c H locs cells slots Q (F0 m pc ls (.int (nI (v)) :: .int (nI i) :: .ref (ad 6) :: rest)) := by
  refine va_iast S.1 S.2.1 w.1 w.2.1 w.2.2.1 w.2.2.2 7 0 rfl rfl (vp_in_nI hi (by decide)) hdg (fun H1 l1 hP hD hS => ?_)
  rw [xxe_6 hi] at hP hD
  exact kk H1 l1 ⟨w.1, hP, hD, hS⟩
theorem xxl_7 (S : CallFix p m c cc nL s args tw_wall RX0) (w : TWX D cI cJ x ad st A H0 H locs s) {i : Nat} (hi : i < 4) (hdg : decode cc pc = .ok (.iaload, 1)) (kk : W p l e R s m args below meth c H locs cells slots Q (F0 m (pc + 1) ls (.int (nI (st 7 i)) :: rest))) : W p l e R s m args below meth c H locs cells slots Q (F0 m pc ls (.int (nI i) :: .ref (ad 7) :: rest)) := by
  refine va_iald S.1 S.2.1 w.1 w.2.1 8 0 rfl rfl (vp_in_nI hi (by decide)) hdg ?_
  rw [nI_clamp (by omega)]
  exact kk
theorem xxe_7 {i v : Nat} (hi : i < 4) : (tw_x cI cJ x ad st).set 8 (ad 7, .inl (cI, 4, .inl (upd (fun i => nI (st 7 i)) (nI i).toNatClampNeg (nI (v))))) = tw_x cI cJ x ad (tw_up st 7 i v) := by
  have h : upd (fun i => nI (st 7 i)) (nI i).toNatClampNeg (nI (v)) = (fun j => nI (tw_up st 7 i v 7 j)) := by
    rw [nI_clamp (by omega)]
    funext j
    by_cases g : j = i
    · rw [g, tw_up_e]; simp [upd]
    · rw [tw_up_i g]; simp [upd, g]
  rw [h]
  rfl
theorem xxs_7 (S : CallFix p m c cc nL s args tw_wall RX0) (w : TWX D cI cJ x ad st A H0 H locs s) {i v : Nat} (hi : i < 4) (hdg : decode cc pc = .ok (.iastore, 1)) (kk : ∀ (H1 : Heap) (locs1 : List Loc), TWX D cI cJ x ad (tw_up st 7 i v) A H0 H1 locs1 s → W p l e R s m args below meth c H1 locs1 cells slots Q (F0 m (pc + 1) ls rest)) : W p l e R s m args below meth c H locs cells slots Q (F0 m pc ls (.int (nI (v)) :: .int (nI i) :: .ref (ad 7) :: rest)) := by
  refine va_iast S.1 S.2.1 w.1 w.2.1 w.2.2.1 w.2.2.2 8 0 rfl rfl (vp_in_nI hi (by decide)) hdg (fun H1 l1 hP hD hS => ?_)
  rw [xxe_7 hi] at hP hD
  exact kk H1 l1 ⟨w.1, hP, hD, hS⟩
theorem xxl_8 (S : CallFix p m c cc nL s args tw_wall RX0) (w : TWX D cI cJ x ad st A H0 H locs s) {i : Nat} (hi : i < 4) (hdg : decode cc pc = .ok (.iaload, 1)) (kk : W p l e R s m args below meth c H locs cells slots Q (F0 m (pc + 1) ls (.int (nI (st 8 i)) :: rest))) : W p l e R s m args below meth c H locs cells slots Q (F0 m pc ls (.int (nI i) :: .ref (ad 8) :: rest)) := by
  refine va_iald S.1 S.2.1 w.1 w.2.1 9 0 rfl rfl (vp_in_nI hi (by decide)) hdg ?_
  rw [nI_clamp (by omega)]
  exact kk
theorem xxe_8 {i v : Nat} (hi : i < 4) : (tw_x cI cJ x ad st).set 9 (ad 8, .inl (cI, 4, .inl (upd (fun i => nI (st 8 i)) (nI i).toNatClampNeg (nI (v))))) = tw_x cI cJ x ad (tw_up st 8 i v) := by
  have h : upd (fun i => nI (st 8 i)) (nI i).toNatClampNeg (nI (v)) = (fun j => nI (tw_up st 8 i v 8 j)) := by
    rw [nI_clamp (by omega)]
    funext j
    by_cases g : j = i
    · rw [g, tw_up_e]; simp [upd]
    · rw [tw_up_i g]; simp [upd, g]
  rw [h]
  rfl
theorem xxs_8 (S : CallFix p m c cc nL s args tw_wall RX0) (w : TWX D cI cJ x ad st A H0 H locs s) {i v : Nat} (hi : i < 4) (hdg : decode cc pc = .ok (.iastore, 1)) (kk : ∀ (H1 : Heap) (locs1 : List Loc), TWX D cI cJ x ad (tw_up st 8 i v) A H0 H1 locs1 s → W p l e R s m args below meth c H1 locs1 cells slots Q (F0 m (pc + 1) ls rest)) : W p l e R s m args below meth c H locs cells slots Q (F0 m pc ls (.int (nI (v)) :: .int (nI i) :: .ref (ad 8) :: rest)) := by
  refine va_iast S.1 S.2.1 w.1 w.2.1 w.2.2.1 w.2.2.2 9 0 rfl rfl (vp_in_nI hi (by decide)) hdg (fun H1 l1 hP hD hS => ?_)
  rw [xxe_8 hi] at hP hD
  exact kk H1 l1 ⟨w.1, hP, hD, hS⟩
theorem xxr_10 (S : CallFix p m c cc nL s args tw_wall RX0) (w : TWX D cI cJ x ad st A H0 H locs s) {d : Nat} (hd : d < 4) (hdg : decode cc pc = .ok (.aaload, 1)) (kk : W p l e R s m args below meth c H locs cells slots Q (F0 m (pc + 1) ls (.ref (ad (16 + d)) :: rest))) : W p l e R s m args below meth c H locs cells slots Q (F0 m pc ls (.int (nI d) :: .ref (ad 10) :: rest)) := by
  refine tw_aald S.1 S.2.1 w.1 w.2.1 10 1 rfl rfl (vp_in_nI hd (by decide)) hdg ?_
  rw [nI_clamp (by omega), if_pos hd]
  exact kk
theorem xxr_11 (S : CallFix p m c cc nL s args tw_wall RX0) (w : TWX D cI cJ x ad st A H0 H locs s) {d : Nat} (hd : d < 4) (hdg : decode cc pc = .ok (.aaload, 1)) (kk : W p l e R s m args below meth c H locs cells slots Q (F0 m (pc + 1) ls (.ref (ad (20 + d)) :: rest))) : W p l e R s m args below meth c H locs cells slots Q (F0 m pc ls (.int (nI d) :: .ref (ad 11) :: rest)) := by
  refine tw_aald S.1 S.2.1 w.1 w.2.1 11 1 rfl rfl (vp_in_nI hd (by decide)) hdg ?_
  rw [nI_clamp (by omega), if_pos hd]
  exact kk
theorem xxr_12 (S : CallFix p m c cc nL s args tw_wall RX0) (w : TWX D cI cJ x ad st A H0 H locs s) {d : Nat} (hd : d < 4) (hdg : decode cc pc = .ok (.aaload, 1)) (kk : W p l e R s m args below meth c H locs cells slots Q (F0 m (pc + 1) ls (.ref (ad (24 + d)) :: rest))) : W p l e R s m args below meth c H locs cells slots Q (F0 m pc ls (.int (nI d) :: .ref (ad 12) :: rest)) := by
  refine tw_aald S.1 S.2.1 w.1 w.2.1 12 1 rfl rfl (vp_in_nI hd (by decide)) hdg ?_
  rw [nI_clamp (by omega), if_pos hd]
  exact kk
theorem xxa_16 {d : Nat} (hd : d < 4) : (tw_x cI cJ x ad st)[13 + d]? = some (ad (16 + d), .inl (cI, 512, .inl (fun i => nI (st (16 + d) i)))) := by
  rcases (show d = 0 ∨ d = 1 ∨ d = 2 ∨ d = 3 by omega) with rfl | rfl | rfl | rfl <;> rfl
theorem xxl_16 (S : CallFix p m c cc nL s args tw_wall RX0) (w : TWX D cI cJ x ad st A H0 H locs s) {d i : Nat} (hd : d < 4) (hi : i < 512) (hdg : decode cc pc = .ok (.iaload, 1)) (kk : W p l e R s m args below meth c H locs cells slots Q (F0 m (pc + 1) ls (.int (nI (st (16 + d) i)) :: rest))) : W p l e R s m args below meth c H locs cells slots Q (F0 m pc ls (.int (nI i) :: .ref (ad (16 + d)) :: rest)) := by
  refine va_iald S.1 S.2.1 w.1 w.2.1 (13 + d) 0 (xxa_16 hd) rfl (vp_in_nI hi (by decide)) hdg ?_
  rw [nI_clamp (by omega)]
  exact kk
theorem xxe_16 {d i v : Nat} (hd : d < 4) (hi : i < 512) : (tw_x cI cJ x ad st).set (13 + d) (ad (16 + d), .inl (cI, 512, .inl (upd (fun i => nI (st (16 + d) i)) (nI i).toNatClampNeg (nI v)))) = tw_x cI cJ x ad (tw_up st (16 + d) i v) := by
  have h : upd (fun i => nI (st (16 + d) i)) (nI i).toNatClampNeg (nI v) = (fun j => nI (tw_up st (16 + d) i v (16 + d) j)) := by
    rw [nI_clamp (by omega)]
    funext j
    by_cases g : j = i
    · rw [g, tw_up_e]; simp [upd]
    · rw [tw_up_i g]; simp [upd, g]
  rw [h]
  rcases (show d = 0 ∨ d = 1 ∨ d = 2 ∨ d = 3 by omega) with rfl | rfl | rfl | rfl <;> rfl
theorem xxs_16 (S : CallFix p m c cc nL s args tw_wall RX0) (w : TWX D cI cJ x ad st A H0 H locs s) {d i v : Nat} (hd : d < 4) (hi : i < 512) (hdg : decode cc pc = .ok (.iastore, 1)) (kk : ∀ (H1 : Heap) (locs1 : List Loc), TWX D cI cJ x ad (tw_up st (16 + d) i v) A H0 H1 locs1 s → W p l e R s m args below meth c H1 locs1 cells slots Q (F0 m (pc + 1) ls rest)) : W p l e R s m args below meth c H locs cells slots Q (F0 m pc ls (.int (nI v) :: .int (nI i) :: .ref (ad (16 + d)) :: rest)) := by
  refine va_iast S.1 S.2.1 w.1 w.2.1 w.2.2.1 w.2.2.2 (13 + d) 0 (xxa_16 hd) rfl (vp_in_nI hi (by decide)) hdg (fun H1 l1 hP hD hS => ?_)
  rw [xxe_16 hd hi] at hP hD
  exact kk H1 l1 ⟨w.1, hP, hD, hS⟩
theorem xxa_20 {d : Nat} (hd : d < 4) : (tw_x cI cJ x ad st)[17 + d]? = some (ad (20 + d), .inl (cI, 400, .inl (fun i => nI (st (20 + d) i)))) := by
  rcases (show d = 0 ∨ d = 1 ∨ d = 2 ∨ d = 3 by omega) with rfl | rfl | rfl | rfl <;> rfl
theorem xxl_20 (S : CallFix p m c cc nL s args tw_wall RX0) (w : TWX D cI cJ x ad st A H0 H locs s) {d i : Nat} (hd : d < 4) (hi : i < 400) (hdg : decode cc pc = .ok (.iaload, 1)) (kk : W p l e R s m args below meth c H locs cells slots Q (F0 m (pc + 1) ls (.int (nI (st (20 + d) i)) :: rest))) : W p l e R s m args below meth c H locs cells slots Q (F0 m pc ls (.int (nI i) :: .ref (ad (20 + d)) :: rest)) := by
  refine va_iald S.1 S.2.1 w.1 w.2.1 (17 + d) 0 (xxa_20 hd) rfl (vp_in_nI hi (by decide)) hdg ?_
  rw [nI_clamp (by omega)]
  exact kk
theorem xxe_20 {d i v : Nat} (hd : d < 4) (hi : i < 400) : (tw_x cI cJ x ad st).set (17 + d) (ad (20 + d), .inl (cI, 400, .inl (upd (fun i => nI (st (20 + d) i)) (nI i).toNatClampNeg (nI v)))) = tw_x cI cJ x ad (tw_up st (20 + d) i v) := by
  have h : upd (fun i => nI (st (20 + d) i)) (nI i).toNatClampNeg (nI v) = (fun j => nI (tw_up st (20 + d) i v (20 + d) j)) := by
    rw [nI_clamp (by omega)]
    funext j
    by_cases g : j = i
    · rw [g, tw_up_e]; simp [upd]
    · rw [tw_up_i g]; simp [upd, g]
  rw [h]
  rcases (show d = 0 ∨ d = 1 ∨ d = 2 ∨ d = 3 by omega) with rfl | rfl | rfl | rfl <;> rfl
theorem xxs_20 (S : CallFix p m c cc nL s args tw_wall RX0) (w : TWX D cI cJ x ad st A H0 H locs s) {d i v : Nat} (hd : d < 4) (hi : i < 400) (hdg : decode cc pc = .ok (.iastore, 1)) (kk : ∀ (H1 : Heap) (locs1 : List Loc), TWX D cI cJ x ad (tw_up st (20 + d) i v) A H0 H1 locs1 s → W p l e R s m args below meth c H1 locs1 cells slots Q (F0 m (pc + 1) ls rest)) : W p l e R s m args below meth c H locs cells slots Q (F0 m pc ls (.int (nI v) :: .int (nI i) :: .ref (ad (20 + d)) :: rest)) := by
  refine va_iast S.1 S.2.1 w.1 w.2.1 w.2.2.1 w.2.2.2 (17 + d) 0 (xxa_20 hd) rfl (vp_in_nI hi (by decide)) hdg (fun H1 l1 hP hD hS => ?_)
  rw [xxe_20 hd hi] at hP hD
  exact kk H1 l1 ⟨w.1, hP, hD, hS⟩
theorem xxa_24 {d : Nat} (hd : d < 4) : (tw_x cI cJ x ad st)[21 + d]? = some (ad (24 + d), .inl (cI, 4, .inl (fun i => nI (st (24 + d) i)))) := by
  rcases (show d = 0 ∨ d = 1 ∨ d = 2 ∨ d = 3 by omega) with rfl | rfl | rfl | rfl <;> rfl
theorem xxl_24 (S : CallFix p m c cc nL s args tw_wall RX0) (w : TWX D cI cJ x ad st A H0 H locs s) {d i : Nat} (hd : d < 4) (hi : i < 4) (hdg : decode cc pc = .ok (.iaload, 1)) (kk : W p l e R s m args below meth c H locs cells slots Q (F0 m (pc + 1) ls (.int (nI (st (24 + d) i)) :: rest))) : W p l e R s m args below meth c H locs cells slots Q (F0 m pc ls (.int (nI i) :: .ref (ad (24 + d)) :: rest)) := by
  refine va_iald S.1 S.2.1 w.1 w.2.1 (21 + d) 0 (xxa_24 hd) rfl (vp_in_nI hi (by decide)) hdg ?_
  rw [nI_clamp (by omega)]
  exact kk
theorem xxe_24 {d i v : Nat} (hd : d < 4) (hi : i < 4) : (tw_x cI cJ x ad st).set (21 + d) (ad (24 + d), .inl (cI, 4, .inl (upd (fun i => nI (st (24 + d) i)) (nI i).toNatClampNeg (nI v)))) = tw_x cI cJ x ad (tw_up st (24 + d) i v) := by
  have h : upd (fun i => nI (st (24 + d) i)) (nI i).toNatClampNeg (nI v) = (fun j => nI (tw_up st (24 + d) i v (24 + d) j)) := by
    rw [nI_clamp (by omega)]
    funext j
    by_cases g : j = i
    · rw [g, tw_up_e]; simp [upd]
    · rw [tw_up_i g]; simp [upd, g]
  rw [h]
  rcases (show d = 0 ∨ d = 1 ∨ d = 2 ∨ d = 3 by omega) with rfl | rfl | rfl | rfl <;> rfl
theorem xxs_24 (S : CallFix p m c cc nL s args tw_wall RX0) (w : TWX D cI cJ x ad st A H0 H locs s) {d i v : Nat} (hd : d < 4) (hi : i < 4) (hdg : decode cc pc = .ok (.iastore, 1)) (kk : ∀ (H1 : Heap) (locs1 : List Loc), TWX D cI cJ x ad (tw_up st (24 + d) i v) A H0 H1 locs1 s → W p l e R s m args below meth c H1 locs1 cells slots Q (F0 m (pc + 1) ls rest)) : W p l e R s m args below meth c H locs cells slots Q (F0 m pc ls (.int (nI v) :: .int (nI i) :: .ref (ad (24 + d)) :: rest)) := by
  refine va_iast S.1 S.2.1 w.1 w.2.1 w.2.2.1 w.2.2.2 (21 + d) 0 (xxa_24 hd) rfl (vp_in_nI hi (by decide)) hdg (fun H1 l1 hP hD hS => ?_)
  rw [xxe_24 hd hi] at hP hD
  exact kk H1 l1 ⟨w.1, hP, hD, hS⟩
/-- nothing old has changed -/
theorem TWX.kept {H1 : Heap} {l1 : List Loc} (w : TWX D cI cJ x ad st A H0 H locs s) (hk : ∀ q : Nat, q < H.size → H1[q]? = H[q]?) (hS : va_S A H0 H1 l1) : TWX D cI cJ x ad st A H0 H1 l1 s :=
  ⟨w.1, w.2.1.kept (fun k q hq => hk q.1 ((w.2.1 k q hq).lt)), w.2.2.1, hS⟩
theorem TWX.set {st' : Nat → Nat → Nat} (w : TWX D cI cJ x ad st A H0 H locs s) (h : tw_x cI cJ x ad st = tw_x cI cJ x ad st') : TWX D cI cJ x ad st' A H0 H locs s := by
  obtain ⟨h1, h2, h3, h4⟩ := w
  rw [h] at h2 h3
  exact ⟨h1, h2, h3, h4⟩
end TWXR
end
section
/-- what a change is, as the reference keeps it -/
def tw_wh (k : Nat) : Int32 := if k % 2 = 0 then nI (k / 2) else -nI (k / 2)
/-- the cells of the reference: the object at x, its arrays at the addresses ad, what they hold -/
def tw_y (cI cZ : ClassId) (x : Nat) (ad : Nat → Nat) (st : Nat → Nat → Nat) : va_W :=
  [(x, .inr (1, [.int (nI (st 13 0)), .ref (ad 0), .ref (ad 1), .ref (ad 2), .ref (ad 3), .ref (ad 4), .ref (ad 5), .ref (ad 6), .int (nI (st 13 1)), .ref (ad 7), .ref (ad 8), .ref (ad 9), .ref (ad 10), .ref (ad 11), .ref (ad 12), .int (nI (st 13 2) - 1), .int (nI (st 13 3))])),
   (ad 0, .inl (cI, 1601, .inl (fun i => nI (st 0 i)))),
   (ad 1, .inl (cI, 1601, .inl (fun i => nI (st 1 i)))),
   (ad 2, .inl (cI, 1601, .inl (fun i => nI (st 2 i)))),
   (ad 3, .inl (cI, 1601, .inl (fun i => nI (st 3 i)))),
   (ad 4, .inl (cI, 1601, .inl (fun i => nI (st 4 i)))),
   (ad 5, .inl (cI, 1601, .inl (fun i => nI (st 5 i)))),
   (ad 6, .inl (cI, 1601, .inl (fun i => nI (st 6 i)))),
   (ad 7, .inl (cI, 1600, .inl (fun i => tw_wh (st 7 i)))),
   (ad 8, .inl (cI, 6400, .inl (fun i => nI (st 8 i)))),
   (ad 9, .inl (cI, 4, .inl (fun i => nI (st 9 i)))),
   (ad 10, .inl (cI, 16, .inl (fun i => nI (st 10 i)))),
   (ad 11, .inl (cI, 1601, .inl (fun i => nI (st 11 i)))),
   (ad 12, .inl (cZ, 1601, .inl (fun i => nI (st 12 i))))]
def TWY (D : va_G) (cI cZ : ClassId) (x : Nat) (ad : Nat → Nat) (st : Nat → Nat → Nat) (A : Nat → Prop) (H0 H : Heap) (locs : List Loc) (s : State) : Prop :=
  va_K D twCl [(cI, .int), (cZ, .boolean)] s ∧ va_P D twCl (tw_y cI cZ x ad st) H ∧ va_D A (tw_y cI cZ x ad st) ∧ va_S A H0 H locs
section TWYR
variable {p : Program} {l : Launch} {e : Env} {R : Room} {s : State} {m : MethodId} {args : Array Value} {below : List Frame} {meth : Method} {c : Code} {H : Heap} {locs : List Loc} {cells slots : Nat} {Q : State → Prop}
variable {cc : ByteArray} {pc nL : Nat} {ls : Array Slot} {rest : List Value} {D : va_G} {A : Nat → Prop} {H0 : Heap} {x : Nat} {ad : Nat → Nat} {st : Nat → Nat → Nat} {cI cZ : ClassId}
theorem yyg_thrown (S : CallFix p m c cc nL s args tw_wall RX1) (w : TWY D cI cZ x ad st A H0 H locs s) (hdg : decode cc pc = .ok (.getfield 57, 3)) (kk : W p l e R s m args below meth c H locs cells slots Q (F0 m (pc + 3) ls (.int (nI (st 13 0)) :: rest))) : W p l e R s m args below meth c H locs cells slots Q (F0 m pc ls (.ref x :: rest)) :=
  va_get (D := D) (ci := 1) (C := RX1) (T := TX1) (N := 17) S.1 S.2.1 S.2.2.2.2 inX1 S.2.2.2.1 w.1 w.2.1 0 rfl rfl 0 (by decide) (S.2.2.2.2 _ wf_X1_thrown) (fun _ h => h) rfl hdg kk
theorem yyg_number (S : CallFix p m c cc nL s args tw_wall RX1) (w : TWY D cI cZ x ad st A H0 H locs s) (hdg : decode cc pc = .ok (.getfield 9, 3)) (kk : W p l e R s m args below meth c H locs cells slots Q (F0 m (pc + 3) ls (.ref (ad 0) :: rest))) : W p l e R s m args below meth c H locs cells slots Q (F0 m pc ls (.ref x :: rest)) :=
  va_get (D := D) (ci := 1) (C := RX1) (T := TX1) (N := 17) S.1 S.2.1 S.2.2.2.2 inX1 S.2.2.2.1 w.1 w.2.1 0 rfl rfl 1 (by decide) (S.2.2.2.2 _ wf_X1_number) (fun _ h => h) rfl hdg kk
theorem yyg_maker (S : CallFix p m c cc nL s args tw_wall RX1) (w : TWY D cI cZ x ad st A H0 H locs s) (hdg : decode cc pc = .ok (.getfield 13, 3)) (kk : W p l e R s m args below meth c H locs cells slots Q (F0 m (pc + 3) ls (.ref (ad 1) :: rest))) : W p l e R s m args below meth c H locs cells slots Q (F0 m pc ls (.ref x :: rest)) :=
  va_get (D := D) (ci := 1) (C := RX1) (T := TX1) (N := 17) S.1 S.2.1 S.2.2.2.2 inX1 S.2.2.2.1 w.1 w.2.1 0 rfl rfl 2 (by decide) (S.2.2.2.2 _ wf_X1_maker) (fun _ h => h) rfl hdg kk
theorem yyg_change (S : CallFix p m c cc nL s args tw_wall RX1) (w : TWY D cI cZ x ad st A H0 H locs s) (hdg : decode cc pc = .ok (.getfield 16, 3)) (kk : W p l e R s m args below meth c H locs cells slots Q (F0 m (pc + 3) ls (.ref (ad 2) :: rest))) : W p l e R s m args below meth c H locs cells slots Q (F0 m pc ls (.ref x :: rest)) :=
  va_get (D := D) (ci := 1) (C := RX1) (T := TX1) (N := 17) S.1 S.2.1 S.2.2.2.2 inX1 S.2.2.2.1 w.1 w.2.1 0 rfl rfl 3 (by decide) (S.2.2.2.2 _ wf_X1_change) (fun _ h => h) rfl hdg kk
theorem yyg_value (S : CallFix p m c cc nL s args tw_wall RX1) (w : TWY D cI cZ x ad st A H0 H locs s) (hdg : decode cc pc = .ok (.getfield 19, 3)) (kk : W p l e R s m args below meth c H locs cells slots Q (F0 m (pc + 3) ls (.ref (ad 3) :: rest))) : W p l e R s m args below meth c H locs cells slots Q (F0 m pc ls (.ref x :: rest)) :=
  va_get (D := D) (ci := 1) (C := RX1) (T := TX1) (N := 17) S.1 S.2.1 S.2.2.2.2 inX1 S.2.2.2.1 w.1 w.2.1 0 rfl rfl 4 (by decide) (S.2.2.2.2 _ wf_X1_value) (fun _ h => h) rfl hdg kk
theorem yyg_first (S : CallFix p m c cc nL s args tw_wall RX1) (w : TWY D cI cZ x ad st A H0 H locs s) (hdg : decode cc pc = .ok (.getfield 22, 3)) (kk : W p l e R s m args below meth c H locs cells slots Q (F0 m (pc + 3) ls (.ref (ad 4) :: rest))) : W p l e R s m args below meth c H locs cells slots Q (F0 m pc ls (.ref x :: rest)) :=
  va_get (D := D) (ci := 1) (C := RX1) (T := TX1) (N := 17) S.1 S.2.1 S.2.2.2.2 inX1 S.2.2.2.1 w.1 w.2.1 0 rfl rfl 5 (by decide) (S.2.2.2.2 _ wf_X1_first) (fun _ h => h) rfl hdg kk
theorem yyg_sibling (S : CallFix p m c cc nL s args tw_wall RX1) (w : TWY D cI cZ x ad st A H0 H locs s) (hdg : decode cc pc = .ok (.getfield 25, 3)) (kk : W p l e R s m args below meth c H locs cells slots Q (F0 m (pc + 3) ls (.ref (ad 5) :: rest))) : W p l e R s m args below meth c H locs cells slots Q (F0 m pc ls (.ref x :: rest)) :=
  va_get (D := D) (ci := 1) (C := RX1) (T := TX1) (N := 17) S.1 S.2.1 S.2.2.2.2 inX1 S.2.2.2.1 w.1 w.2.1 0 rfl rfl 6 (by decide) (S.2.2.2.2 _ wf_X1_sibling) (fun _ h => h) rfl hdg kk
theorem yyg_up (S : CallFix p m c cc nL s args tw_wall RX1) (w : TWY D cI cZ x ad st A H0 H locs s) (hdg : decode cc pc = .ok (.getfield 28, 3)) (kk : W p l e R s m args below meth c H locs cells slots Q (F0 m (pc + 3) ls (.ref (ad 6) :: rest))) : W p l e R s m args below meth c H locs cells slots Q (F0 m pc ls (.ref x :: rest)) :=
  va_get (D := D) (ci := 1) (C := RX1) (T := TX1) (N := 17) S.1 S.2.1 S.2.2.2.2 inX1 S.2.2.2.1 w.1 w.2.1 0 rfl rfl 7 (by decide) (S.2.2.2.2 _ wf_X1_up) (fun _ h => h) rfl hdg kk
theorem yyg_letters (S : CallFix p m c cc nL s args tw_wall RX1) (w : TWY D cI cZ x ad st A H0 H locs s) (hdg : decode cc pc = .ok (.getfield 31, 3)) (kk : W p l e R s m args below meth c H locs cells slots Q (F0 m (pc + 3) ls (.int (nI (st 13 1)) :: rest))) : W p l e R s m args below meth c H locs cells slots Q (F0 m pc ls (.ref x :: rest)) :=
  va_get (D := D) (ci := 1) (C := RX1) (T := TX1) (N := 17) S.1 S.2.1 S.2.2.2.2 inX1 S.2.2.2.1 w.1 w.2.1 0 rfl rfl 8 (by decide) (S.2.2.2.2 _ wf_X1_letters) (fun _ h => h) rfl hdg kk
theorem yyg_what (S : CallFix p m c cc nL s args tw_wall RX1) (w : TWY D cI cZ x ad st A H0 H locs s) (hdg : decode cc pc = .ok (.getfield 35, 3)) (kk : W p l e R s m args below meth c H locs cells slots Q (F0 m (pc + 3) ls (.ref (ad 7) :: rest))) : W p l e R s m args below meth c H locs cells slots Q (F0 m pc ls (.ref x :: rest)) :=
  va_get (D := D) (ci := 1) (C := RX1) (T := TX1) (N := 17) S.1 S.2.1 S.2.2.2.2 inX1 S.2.2.2.1 w.1 w.2.1 0 rfl rfl 9 (by decide) (S.2.2.2.2 _ wf_X1_what) (fun _ h => h) rfl hdg kk
theorem yyg_had (S : CallFix p m c cc nL s args tw_wall RX1) (w : TWY D cI cZ x ad st A H0 H locs s) (hdg : decode cc pc = .ok (.getfield 38, 3)) (kk : W p l e R s m args below meth c H locs cells slots Q (F0 m (pc + 3) ls (.ref (ad 8) :: rest))) : W p l e R s m args below meth c H locs cells slots Q (F0 m pc ls (.ref x :: rest)) :=
  va_get (D := D) (ci := 1) (C := RX1) (T := TX1) (N := 17) S.1 S.2.1 S.2.2.2.2 inX1 S.2.2.2.1 w.1 w.2.1 0 rfl rfl 10 (by decide) (S.2.2.2.2 _ wf_X1_had) (fun _ h => h) rfl hdg kk
theorem yyg_made (S : CallFix p m c cc nL s args tw_wall RX1) (w : TWY D cI cZ x ad st A H0 H locs s) (hdg : decode cc pc = .ok (.getfield 41, 3)) (kk : W p l e R s m args below meth c H locs cells slots Q (F0 m (pc + 3) ls (.ref (ad 9) :: rest))) : W p l e R s m args below meth c H locs cells slots Q (F0 m pc ls (.ref x :: rest)) :=
  va_get (D := D) (ci := 1) (C := RX1) (T := TX1) (N := 17) S.1 S.2.1 S.2.2.2.2 inX1 S.2.2.2.1 w.1 w.2.1 0 rfl rfl 11 (by decide) (S.2.2.2.2 _ wf_X1_made) (fun _ h => h) rfl hdg kk
theorem yyg_has (S : CallFix p m c cc nL s args tw_wall RX1) (w : TWY D cI cZ x ad st A H0 H locs s) (hdg : decode cc pc = .ok (.getfield 44, 3)) (kk : W p l e R s m args below meth c H locs cells slots Q (F0 m (pc + 3) ls (.ref (ad 10) :: rest))) : W p l e R s m args below meth c H locs cells slots Q (F0 m pc ls (.ref x :: rest)) :=
  va_get (D := D) (ci := 1) (C := RX1) (T := TX1) (N := 17) S.1 S.2.1 S.2.2.2.2 inX1 S.2.2.2.1 w.1 w.2.1 0 rfl rfl 12 (by decide) (S.2.2.2.2 _ wf_X1_has) (fun _ h => h) rfl hdg kk
theorem yyg_order (S : CallFix p m c cc nL s args tw_wall RX1) (w : TWY D cI cZ x ad st A H0 H locs s) (hdg : decode cc pc = .ok (.getfield 47, 3)) (kk : W p l e R s m args below meth c H locs cells slots Q (F0 m (pc + 3) ls (.ref (ad 11) :: rest))) : W p l e R s m args below meth c H locs cells slots Q (F0 m pc ls (.ref x :: rest)) :=
  va_get (D := D) (ci := 1) (C := RX1) (T := TX1) (N := 17) S.1 S.2.1 S.2.2.2.2 inX1 S.2.2.2.1 w.1 w.2.1 0 rfl rfl 13 (by decide) (S.2.2.2.2 _ wf_X1_order) (fun _ h => h) rfl hdg kk
theorem yyg_gone (S : CallFix p m c cc nL s args tw_wall RX1) (w : TWY D cI cZ x ad st A H0 H locs s) (hdg : decode cc pc = .ok (.getfield 50, 3)) (kk : W p l e R s m args below meth c H locs cells slots Q (F0 m (pc + 3) ls (.ref (ad 12) :: rest))) : W p l e R s m args below meth c H locs cells slots Q (F0 m pc ls (.ref x :: rest)) :=
  va_get (D := D) (ci := 1) (C := RX1) (T := TX1) (N := 17) S.1 S.2.1 S.2.2.2.2 inX1 S.2.2.2.1 w.1 w.2.1 0 rfl rfl 14 (by decide) (S.2.2.2.2 _ wf_X1_gone) (fun _ h => h) rfl hdg kk
theorem yyg_orderOf (S : CallFix p m c cc nL s args tw_wall RX1) (w : TWY D cI cZ x ad st A H0 H locs s) (hdg : decode cc pc = .ok (.getfield 54, 3)) (kk : W p l e R s m args below meth c H locs cells slots Q (F0 m (pc + 3) ls (.int (nI (st 13 2) - 1) :: rest))) : W p l e R s m args below meth c H locs cells slots Q (F0 m pc ls (.ref x :: rest)) :=
  va_get (D := D) (ci := 1) (C := RX1) (T := TX1) (N := 17) S.1 S.2.1 S.2.2.2.2 inX1 S.2.2.2.1 w.1 w.2.1 0 rfl rfl 15 (by decide) (S.2.2.2.2 _ wf_X1_orderOf) (fun _ h => h) rfl hdg kk
theorem yyg_long_ (S : CallFix p m c cc nL s args tw_wall RX1) (w : TWY D cI cZ x ad st A H0 H locs s) (hdg : decode cc pc = .ok (.getfield 60, 3)) (kk : W p l e R s m args below meth c H locs cells slots Q (F0 m (pc + 3) ls (.int (nI (st 13 3)) :: rest))) : W p l e R s m args below meth c H locs cells slots Q (F0 m pc ls (.ref x :: rest)) :=
  va_get (D := D) (ci := 1) (C := RX1) (T := TX1) (N := 17) S.1 S.2.1 S.2.2.2.2 inX1 S.2.2.2.1 w.1 w.2.1 0 rfl rfl 16 (by decide) (S.2.2.2.2 _ wf_X1_long_) (fun _ h => h) rfl hdg kk
theorem yyp_thrown (S : CallFix p m c cc nL s args tw_wall RX1) (w : TWY D cI cZ x ad st A H0 H locs s) {v : Nat} (hdg : decode cc pc = .ok (.putfield 57, 3)) (kk : ∀ (H1 : Heap) (locs1 : List Loc), TWY D cI cZ x ad (tw_up st 13 0 v) A H0 H1 locs1 s → W p l e R s m args below meth c H1 locs1 cells slots Q (F0 m (pc + 3) ls rest)) : W p l e R s m args below meth c H locs cells slots Q (F0 m pc ls (.int (nI (v)) :: .ref x :: rest)) :=
  va_put (D := D) (ci := 1) (ty := .int) (C := RX1) (T := TX1) (N := 17) S.1 S.2.1 S.2.2.2.2 inX1 tyX1 tyX1_ok nmX1 S.2.2.2.1 w.1 w.2.1 w.2.2.1 w.2.2.2 0 rfl rfl 0 (by decide) (S.2.2.2.2 _ wf_X1_thrown) (fun _ h => h) rfl (by decide +kernel) rfl rfl (Nat.le_of_ble_eq_true rfl) hdg (fun H1 l1 hP hD hS => kk H1 l1 ⟨w.1, hP, hD, hS⟩)
theorem yyp_letters (S : CallFix p m c cc nL s args tw_wall RX1) (w : TWY D cI cZ x ad st A H0 H locs s) {v : Nat} (hdg : decode cc pc = .ok (.putfield 31, 3)) (kk : ∀ (H1 : Heap) (locs1 : List Loc), TWY D cI cZ x ad (tw_up st 13 1 v) A H0 H1 locs1 s → W p l e R s m args below meth c H1 locs1 cells slots Q (F0 m (pc + 3) ls rest)) : W p l e R s m args below meth c H locs cells slots Q (F0 m pc ls (.int (nI (v)) :: .ref x :: rest)) :=
  va_put (D := D) (ci := 1) (ty := .int) (C := RX1) (T := TX1) (N := 17) S.1 S.2.1 S.2.2.2.2 inX1 tyX1 tyX1_ok nmX1 S.2.2.2.1 w.1 w.2.1 w.2.2.1 w.2.2.2 0 rfl rfl 8 (by decide) (S.2.2.2.2 _ wf_X1_letters) (fun _ h => h) rfl (by decide +kernel) rfl rfl (Nat.le_of_ble_eq_true rfl) hdg (fun H1 l1 hP hD hS => kk H1 l1 ⟨w.1, hP, hD, hS⟩)
theorem yyp_orderOf (S : CallFix p m c cc nL s args tw_wall RX1) (w : TWY D cI cZ x ad st A H0 H locs s) {v : Nat} (hdg : decode cc pc = .ok (.putfield 54, 3)) (kk : ∀ (H1 : Heap) (locs1 : List Loc), TWY D cI cZ x ad (tw_up st 13 2 v) A H0 H1 locs1 s → W p l e R s m args below meth c H1 locs1 cells slots Q (F0 m (pc + 3) ls rest)) : W p l e R s m args below meth c H locs cells slots Q (F0 m pc ls (.int (nI (v) - 1) :: .ref x :: rest)) :=
  va_put (D := D) (ci := 1) (ty := .int) (C := RX1) (T := TX1) (N := 17) S.1 S.2.1 S.2.2.2.2 inX1 tyX1 tyX1_ok nmX1 S.2.2.2.1 w.1 w.2.1 w.2.2.1 w.2.2.2 0 rfl rfl 15 (by decide) (S.2.2.2.2 _ wf_X1_orderOf) (fun _ h => h) rfl (by decide +kernel) rfl rfl (Nat.le_of_ble_eq_true rfl) hdg (fun H1 l1 hP hD hS => kk H1 l1 ⟨w.1, hP, hD, hS⟩)
theorem yyp_long_ (S : CallFix p m c cc nL s args tw_wall RX1) (w : TWY D cI cZ x ad st A H0 H locs s) {v : Nat} (hdg : decode cc pc = .ok (.putfield 60, 3)) (kk : ∀ (H1 : Heap) (locs1 : List Loc), TWY D cI cZ x ad (tw_up st 13 3 v) A H0 H1 locs1 s → W p l e R s m args below meth c H1 locs1 cells slots Q (F0 m (pc + 3) ls rest)) : W p l e R s m args below meth c H locs cells slots Q (F0 m pc ls (.int (nI (v)) :: .ref x :: rest)) :=
  va_put (D := D) (ci := 1) (ty := .int) (C := RX1) (T := TX1) (N := 17) S.1 S.2.1 S.2.2.2.2 inX1 tyX1 tyX1_ok nmX1 S.2.2.2.1 w.1 w.2.1 w.2.2.1 w.2.2.2 0 rfl rfl 16 (by decide) (S.2.2.2.2 _ wf_X1_long_) (fun _ h => h) rfl (by decide +kernel) rfl rfl (Nat.le_of_ble_eq_true rfl) hdg (fun H1 l1 hP hD hS => kk H1 l1 ⟨w.1, hP, hD, hS⟩)
theorem yyl_0 (S : CallFix p m c cc nL s args tw_wall RX1) (w : TWY D cI cZ x ad st A H0 H locs s) {i : Nat} (hi : i < 1601) (hdg : decode cc pc = .ok (.iaload, 1)) (kk : W p l e R s m args below meth c H locs cells slots Q (F0 m (pc + 1) ls (.int (nI (st 0 i)) :: rest))) : W p l e R s m args below meth c H locs cells slots Q (F0 m pc ls (.int (nI i) :: .ref (ad 0) :: rest)) := by
  refine va_iald S.1 S.2.1 w.1 w.2.1 1 0 rfl rfl (vp_in_nI hi (by decide)) hdg ?_
  rw [nI_clamp (by omega)]
  exact kk
theorem yye_0 {i v : Nat} (hi : i < 1601) : (tw_y cI cZ x ad st).set 1 (ad 0, .inl (cI, 1601, .inl (upd (fun i => nI (st 0 i)) (nI i).toNatClampNeg (nI (v))))) = tw_y cI cZ x ad (tw_up st 0 i v) := by
  have h : upd (fun i => nI (st 0 i)) (nI i).toNatClampNeg (nI (v)) = (fun j => nI (tw_up st 0 i v 0 j)) := by
    rw [nI_clamp (by omega)]
    funext j
    by_cases g : j = i
    · rw [g, tw_up_e]; simp [upd]
    · rw [tw_up_i g]; simp [upd, g]
  rw [h]
  rfl
theorem yys_0 (S : CallFix p m c cc nL s args tw_wall RX1) (w : TWY D cI cZ x ad st A H0 H locs s) {i v : Nat} (hi : i < 1601) (hdg : decode cc pc = .ok (.iastore, 1)) (kk : ∀ (H1 : Heap) (locs1 : List Loc), TWY D cI cZ x ad (tw_up st 0 i v) A H0 H1 locs1 s → W p l e R s m args below meth c H1 locs1 cells slots Q (F0 m (pc + 1) ls rest)) : W p l e R s m args below meth c H locs cells slots Q (F0 m pc ls (.int (nI (v)) :: .int (nI i) :: .ref (ad 0) :: rest)) := by
  refine va_iast S.1 S.2.1 w.1 w.2.1 w.2.2.1 w.2.2.2 1 0 rfl rfl (vp_in_nI hi (by decide)) hdg (fun H1 l1 hP hD hS => ?_)
  rw [yye_0 hi] at hP hD
  exact kk H1 l1 ⟨w.1, hP, hD, hS⟩
theorem yyl_1 (S : CallFix p m c cc nL s args tw_wall RX1) (w : TWY D cI cZ x ad st A H0 H locs s) {i : Nat} (hi : i < 1601) (hdg : decode cc pc = .ok (.iaload, 1)) (kk : W p l e R s m args below meth c H locs cells slots Q (F0 m (pc + 1) ls (.int (nI (st 1 i)) :: rest))) : W p l e R s m args below meth c H locs cells slots Q (F0 m pc ls (.int (nI i) :: .ref (ad 1) :: rest)) := by
  refine va_iald S.1 S.2.1 w.1 w.2.1 2 0 rfl rfl (vp_in_nI hi (by decide)) hdg ?_
  rw [nI_clamp (by omega)]
  exact kk
theorem yye_1 {i v : Nat} (hi : i < 1601) : (tw_y cI cZ x ad st).set 2 (ad 1, .inl (cI, 1601, .inl (upd (fun i => nI (st 1 i)) (nI i).toNatClampNeg (nI (v))))) = tw_y cI cZ x ad (tw_up st 1 i v) := by
  have h : upd (fun i => nI (st 1 i)) (nI i).toNatClampNeg (nI (v)) = (fun j => nI (tw_up st 1 i v 1 j)) := by
    rw [nI_clamp (by omega)]
    funext j
    by_cases g : j = i
    · rw [g, tw_up_e]; simp [upd]
    · rw [tw_up_i g]; simp [upd, g]
  rw [h]
  rfl
theorem yys_1 (S : CallFix p m c cc nL s args tw_wall RX1) (w : TWY D cI cZ x ad st A H0 H locs s) {i v : Nat} (hi : i < 1601) (hdg : decode cc pc = .ok (.iastore, 1)) (kk : ∀ (H1 : Heap) (locs1 : List Loc), TWY D cI cZ x ad (tw_up st 1 i v) A H0 H1 locs1 s → W p l e R s m args below meth c H1 locs1 cells slots Q (F0 m (pc + 1) ls rest)) : W p l e R s m args below meth c H locs cells slots Q (F0 m pc ls (.int (nI (v)) :: .int (nI i) :: .ref (ad 1) :: rest)) := by
  refine va_iast S.1 S.2.1 w.1 w.2.1 w.2.2.1 w.2.2.2 2 0 rfl rfl (vp_in_nI hi (by decide)) hdg (fun H1 l1 hP hD hS => ?_)
  rw [yye_1 hi] at hP hD
  exact kk H1 l1 ⟨w.1, hP, hD, hS⟩
theorem yyl_2 (S : CallFix p m c cc nL s args tw_wall RX1) (w : TWY D cI cZ x ad st A H0 H locs s) {i : Nat} (hi : i < 1601) (hdg : decode cc pc = .ok (.iaload, 1)) (kk : W p l e R s m args below meth c H locs cells slots Q (F0 m (pc + 1) ls (.int (nI (st 2 i)) :: rest))) : W p l e R s m args below meth c H locs cells slots Q (F0 m pc ls (.int (nI i) :: .ref (ad 2) :: rest)) := by
  refine va_iald S.1 S.2.1 w.1 w.2.1 3 0 rfl rfl (vp_in_nI hi (by decide)) hdg ?_
  rw [nI_clamp (by omega)]
  exact kk
theorem yye_2 {i v : Nat} (hi : i < 1601) : (tw_y cI cZ x ad st).set 3 (ad 2, .inl (cI, 1601, .inl (upd (fun i => nI (st 2 i)) (nI i).toNatClampNeg (nI (v))))) = tw_y cI cZ x ad (tw_up st 2 i v) := by
  have h : upd (fun i => nI (st 2 i)) (nI i).toNatClampNeg (nI (v)) = (fun j => nI (tw_up st 2 i v 2 j)) := by
    rw [nI_clamp (by omega)]
    funext j
    by_cases g : j = i
    · rw [g, tw_up_e]; simp [upd]
    · rw [tw_up_i g]; simp [upd, g]
  rw [h]
  rfl
theorem yys_2 (S : CallFix p m c cc nL s args tw_wall RX1) (w : TWY D cI cZ x ad st A H0 H locs s) {i v : Nat} (hi : i < 1601) (hdg : decode cc pc = .ok (.iastore, 1)) (kk : ∀ (H1 : Heap) (locs1 : List Loc), TWY D cI cZ x ad (tw_up st 2 i v) A H0 H1 locs1 s → W p l e R s m args below meth c H1 locs1 cells slots Q (F0 m (pc + 1) ls rest)) : W p l e R s m args below meth c H locs cells slots Q (F0 m pc ls (.int (nI (v)) :: .int (nI i) :: .ref (ad 2) :: rest)) := by
  refine va_iast S.1 S.2.1 w.1 w.2.1 w.2.2.1 w.2.2.2 3 0 rfl rfl (vp_in_nI hi (by decide)) hdg (fun H1 l1 hP hD hS => ?_)
  rw [yye_2 hi] at hP hD
  exact kk H1 l1 ⟨w.1, hP, hD, hS⟩
theorem yyl_3 (S : CallFix p m c cc nL s args tw_wall RX1) (w : TWY D cI cZ x ad st A H0 H locs s) {i : Nat} (hi : i < 1601) (hdg : decode cc pc = .ok (.iaload, 1)) (kk : W p l e R s m args below meth c H locs cells slots Q (F0 m (pc + 1) ls (.int (nI (st 3 i)) :: rest))) : W p l e R s m args below meth c H locs cells slots Q (F0 m pc ls (.int (nI i) :: .ref (ad 3) :: rest)) := by
  refine va_iald S.1 S.2.1 w.1 w.2.1 4 0 rfl rfl (vp_in_nI hi (by decide)) hdg ?_
  rw [nI_clamp (by omega)]
  exact kk
theorem yye_3 {i v : Nat} (hi : i < 1601) : (tw_y cI cZ x ad st).set 4 (ad 3, .inl (cI, 1601, .inl (upd (fun i => nI (st 3 i)) (nI i).toNatClampNeg (nI (v))))) = tw_y cI cZ x ad (tw_up st 3 i v) := by
  have h : upd (fun i => nI (st 3 i)) (nI i).toNatClampNeg (nI (v)) = (fun j => nI (tw_up st 3 i v 3 j)) := by
    rw [nI_clamp (by omega)]
    funext j
    by_cases g : j = i
    · rw [g, tw_up_e]; simp [upd]
    · rw [tw_up_i g]; simp [upd, g]
  rw [h]
  rfl
theorem yys_3 (S : CallFix p m c cc nL s args tw_wall RX1) (w : TWY D cI cZ x ad st A H0 H locs s) {i v : Nat} (hi : i < 1601) (hdg : decode cc pc = .ok (.iastore, 1)) (kk : ∀ (H1 : Heap) (locs1 : List Loc), TWY D cI cZ x ad (tw_up st 3 i v) A H0 H1 locs1 s → W p l e R s m args below meth c H1 locs1 cells slots Q (F0 m (pc + 1) ls rest)) : W p l e R s m args below meth c H locs cells slots Q (F0 m pc ls (.int (nI (v)) :: .int (nI i) :: .ref (ad 3) :: rest)) := by
  refine va_iast S.1 S.2.1 w.1 w.2.1 w.2.2.1 w.2.2.2 4 0 rfl rfl (vp_in_nI hi (by decide)) hdg (fun H1 l1 hP hD hS => ?_)
  rw [yye_3 hi] at hP hD
  exact kk H1 l1 ⟨w.1, hP, hD, hS⟩
theorem yyl_4 (S : CallFix p m c cc nL s args tw_wall RX1) (w : TWY D cI cZ x ad st A H0 H locs s) {i : Nat} (hi : i < 1601) (hdg : decode cc pc = .ok (.iaload, 1)) (kk : W p l e R s m args below meth c H locs cells slots Q (F0 m (pc + 1) ls (.int (nI (st 4 i)) :: rest))) : W p l e R s m args below meth c H locs cells slots Q (F0 m pc ls (.int (nI i) :: .ref (ad 4) :: rest)) := by
  refine va_iald S.1 S.2.1 w.1 w.2.1 5 0 rfl rfl (vp_in_nI hi (by decide)) hdg ?_
  rw [nI_clamp (by omega)]
  exact kk
theorem yye_4 {i v : Nat} (hi : i < 1601) : (tw_y cI cZ x ad st).set 5 (ad 4, .inl (cI, 1601, .inl (upd (fun i => nI (st 4 i)) (nI i).toNatClampNeg (nI (v))))) = tw_y cI cZ x ad (tw_up st 4 i v) := by
  have h : upd (fun i => nI (st 4 i)) (nI i).toNatClampNeg (nI (v)) = (fun j => nI (tw_up st 4 i v 4 j)) := by
    rw [nI_clamp (by omega)]
    funext j
    by_cases g : j = i
    · rw [g, tw_up_e]; simp [upd]
    · rw [tw_up_i g]; simp [upd, g]
  rw [h]
  rfl
theorem yys_4 (S : CallFix p m c cc nL s args tw_wall RX1) (w : TWY D cI cZ x ad st A H0 H locs s) {i v : Nat} (hi : i < 1601) (hdg : decode cc pc = .ok (.iastore, 1)) (kk : ∀ (H1 : Heap) (locs1 : List Loc), TWY D cI cZ x ad (tw_up st 4 i v) A H0 H1 locs1 s → W p l e R s m args below meth c H1 locs1 cells slots Q (F0 m (pc + 1) ls rest)) : W p l e R s m args below meth c H locs cells slots Q (F0 m pc ls (.int (nI (v)) :: .int (nI i) :: .ref (ad 4) :: rest)) := by
  refine va_iast S.1 S.2.1 w.1 w.2.1 w.2.2.1 w.2.2.2 5 0 rfl rfl (vp_in_nI hi (by decide)) hdg (fun H1 l1 hP hD hS => ?_)
  rw [yye_4 hi] at hP hD
  exact kk H1 l1 ⟨w.1, hP, hD, hS⟩
theorem yyl_5 (S : CallFix p m c cc nL s args tw_wall RX1) (w : TWY D cI cZ x ad st A H0 H locs s) {i : Nat} (hi : i < 1601) (hdg : decode cc pc = .ok (.iaload, 1)) (kk : W p l e R s m args below meth c H locs cells slots Q (F0 m (pc + 1) ls (.int (nI (st 5 i)) :: rest))) : W p l e R s m args below meth c H locs cells slots Q (F0 m pc ls (.int (nI i) :: .ref (ad 5) :: rest)) := by
  refine va_iald S.1 S.2.1 w.1 w.2.1 6 0 rfl rfl (vp_in_nI hi (by decide)) hdg ?_
  rw [nI_clamp (by omega)]
  exact kk
theorem yye_5 {i v : Nat} (hi : i < 1601) : (tw_y cI cZ x ad st).set 6 (ad 5, .inl (cI, 1601, .inl (upd (fun i => nI (st 5 i)) (nI i).toNatClampNeg (nI (v))))) = tw_y cI cZ x ad (tw_up st 5 i v) := by
  have h : upd (fun i => nI (st 5 i)) (nI i).toNatClampNeg (nI (v)) = (fun j => nI (tw_up st 5 i v 5 j)) := by
    rw [nI_clamp (by omega)]
    funext j
    by_cases g : j = i
    · rw [g, tw_up_e]; simp [upd]
    · rw [tw_up_i g]; simp [upd, g]
  rw [h]
  rfl
theorem yys_5 (S : CallFix p m c cc nL s args tw_wall RX1) (w : TWY D cI cZ x ad st A H0 H locs s) {i v : Nat} (hi : i < 1601) (hdg : decode cc pc = .ok (.iastore, 1)) (kk : ∀ (H1 : Heap) (locs1 : List Loc), TWY D cI cZ x ad (tw_up st 5 i v) A H0 H1 locs1 s → W p l e R s m args below meth c H1 locs1 cells slots Q (F0 m (pc + 1) ls rest)) : W p l e R s m args below meth c H locs cells slots Q (F0 m pc ls (.int (nI (v)) :: .int (nI i) :: .ref (ad 5) :: rest)) := by
  refine va_iast S.1 S.2.1 w.1 w.2.1 w.2.2.1 w.2.2.2 6 0 rfl rfl (vp_in_nI hi (by decide)) hdg (fun H1 l1 hP hD hS => ?_)
  rw [yye_5 hi] at hP hD
  exact kk H1 l1 ⟨w.1, hP, hD, hS⟩
theorem yyl_6 (S : CallFix p m c cc nL s args tw_wall RX1) (w : TWY D cI cZ x ad st A H0 H locs s) {i : Nat} (hi : i < 1601) (hdg : decode cc pc = .ok (.iaload, 1)) (kk : W p l e R s m args below meth c H locs cells slots Q (F0 m (pc + 1) ls (.int (nI (st 6 i)) :: rest))) : W p l e R s m args below meth c H locs cells slots Q (F0 m pc ls (.int (nI i) :: .ref (ad 6) :: rest)) := by
  refine va_iald S.1 S.2.1 w.1 w.2.1 7 0 rfl rfl (vp_in_nI hi (by decide)) hdg ?_
  rw [nI_clamp (by omega)]
  exact kk
theorem yye_6 {i v : Nat} (hi : i < 1601) : (tw_y cI cZ x ad st).set 7 (ad 6, .inl (cI, 1601, .inl (upd (fun i => nI (st 6 i)) (nI i).toNatClampNeg (nI (v))))) = tw_y cI cZ x ad (tw_up st 6 i v) := by
  have h : upd (fun i => nI (st 6 i)) (nI i).toNatClampNeg (nI (v)) = (fun j => nI (tw_up st 6 i v 6 j)) := by
    rw [nI_clamp (by omega)]
    funext j
    by_cases g : j = i
    · rw [g, tw_up_e]; simp [upd]
    · rw [tw_up_i g]; simp [upd, g]
  rw [h]
  rfl
theorem yys_6 (S : CallFix p m c cc nL s args tw_wall RX1) (w : TWY D cI cZ x ad st A H0 H locs s) {i v : Nat} (hi : i < 1601) (hdg : decode cc pc = .ok (.iastore, 1)) (kk : ∀ (H1 : Heap) (locs1 : List Loc), TWY D cI cZ x ad (tw_up st 6 i v) A H0 H1 locs1 s → W p l e R s m args below meth c H1 locs1 cells slots Q (F0 m (pc + 1) ls rest)) : W p l e R s m args below meth c H locs cells slots Q (F0 m pc ls (.int (nI (v)) :: .int (nI i) :: .ref (ad 6) :: rest)) := by
  refine va_iast S.1 S.2.1 w.1 w.2.1 w.2.2.1 w.2.2.2 7 0 rfl rfl (vp_in_nI hi (by decide)) hdg (fun H1 l1 hP hD hS => ?_)
  rw [yye_6 hi] at hP hD
  exact kk H1 l1 ⟨w.1, hP, hD, hS⟩
theorem yyl_7 (S : CallFix p m c cc nL s args tw_wall RX1) (w : TWY D cI cZ x ad st A H0 H locs s) {i : Nat} (hi : i < 1600) (hdg : decode cc pc = .ok (.iaload, 1)) (kk : W p l e R s m args below meth c H locs cells slots Q (F0 m (pc + 1) ls (.int (tw_wh (st 7 i)) :: rest))) : W p l e R s m args below meth c H locs cells slots Q (F0 m pc ls (.int (nI i) :: .ref (ad 7) :: rest)) := by
  refine va_iald S.1 S.2.1 w.1 w.2.1 8 0 rfl rfl (vp_in_nI hi (by decide)) hdg ?_
  rw [nI_clamp (by omega)]
  exact kk
theorem yye_7 {i v : Nat} (hi : i < 1600) : (tw_y cI cZ x ad st).set 8 (ad 7, .inl (cI, 1600, .inl (upd (fun i => tw_wh (st 7 i)) (nI i).toNatClampNeg (tw_wh (v))))) = tw_y cI cZ x ad (tw_up st 7 i v) := by
  have h : upd (fun i => tw_wh (st 7 i)) (nI i).toNatClampNeg (tw_wh (v)) = (fun j => tw_wh (tw_up st 7 i v 7 j)) := by
    rw [nI_clamp (by omega)]
    funext j
    by_cases g : j = i
    · rw [g, tw_up_e]; simp [upd]
    · rw [tw_up_i g]; simp [upd, g]
  rw [h]
  rfl
theorem yys_7 (S : CallFix p m c cc nL s args tw_wall RX1) (w : TWY D cI cZ x ad st A H0 H locs s) {i v : Nat} (hi : i < 1600) (hdg : decode cc pc = .ok (.iastore, 1)) (kk : ∀ (H1 : Heap) (locs1 : List Loc), TWY D cI cZ x ad (tw_up st 7 i v) A H0 H1 locs1 s → W p l e R s m args below meth c H1 locs1 cells slots Q (F0 m (pc + 1) ls rest)) : W p l e R s m args below meth c H locs cells slots Q (F0 m pc ls (.int (tw_wh (v)) :: .int (nI i) :: .ref (ad 7) :: rest)) := by
  refine va_iast S.1 S.2.1 w.1 w.2.1 w.2.2.1 w.2.2.2 8 0 rfl rfl (vp_in_nI hi (by decide)) hdg (fun H1 l1 hP hD hS => ?_)
  rw [yye_7 hi] at hP hD
  exact kk H1 l1 ⟨w.1, hP, hD, hS⟩
theorem yyl_8 (S : CallFix p m c cc nL s args tw_wall RX1) (w : TWY D cI cZ x ad st A H0 H locs s) {i : Nat} (hi : i < 6400) (hdg : decode cc pc = .ok (.iaload, 1)) (kk : W p l e R s m args below meth c H locs cells slots Q (F0 m (pc + 1) ls (.int (nI (st 8 i)) :: rest))) : W p l e R s m args below meth c H locs cells slots Q (F0 m pc ls (.int (nI i) :: .ref (ad 8) :: rest)) := by
  refine va_iald S.1 S.2.1 w.1 w.2.1 9 0 rfl rfl (vp_in_nI hi (by decide)) hdg ?_
  rw [nI_clamp (by omega)]
  exact kk
theorem yye_8 {i v : Nat} (hi : i < 6400) : (tw_y cI cZ x ad st).set 9 (ad 8, .inl (cI, 6400, .inl (upd (fun i => nI (st 8 i)) (nI i).toNatClampNeg (nI (v))))) = tw_y cI cZ x ad (tw_up st 8 i v) := by
  have h : upd (fun i => nI (st 8 i)) (nI i).toNatClampNeg (nI (v)) = (fun j => nI (tw_up st 8 i v 8 j)) := by
    rw [nI_clamp (by omega)]
    funext j
    by_cases g : j = i
    · rw [g, tw_up_e]; simp [upd]
    · rw [tw_up_i g]; simp [upd, g]
  rw [h]
  rfl
theorem yys_8 (S : CallFix p m c cc nL s args tw_wall RX1) (w : TWY D cI cZ x ad st A H0 H locs s) {i v : Nat} (hi : i < 6400) (hdg : decode cc pc = .ok (.iastore, 1)) (kk : ∀ (H1 : Heap) (locs1 : List Loc), TWY D cI cZ x ad (tw_up st 8 i v) A H0 H1 locs1 s → W p l e R s m args below meth c H1 locs1 cells slots Q (F0 m (pc + 1) ls rest)) : W p l e R s m args below meth c H locs cells slots Q (F0 m pc ls (.int (nI (v)) :: .int (nI i) :: .ref (ad 8) :: rest)) := by
  refine va_iast S.1 S.2.1 w.1 w.2.1 w.2.2.1 w.2.2.2 9 0 rfl rfl (vp_in_nI hi (by decide)) hdg (fun H1 l1 hP hD hS => ?_)
  rw [yye_8 hi] at hP hD
  exact kk H1 l1 ⟨w.1, hP, hD, hS⟩
theorem yyl_9 (S : CallFix p m c cc nL s args tw_wall RX1) (w : TWY D cI cZ x ad st A H0 H locs s) {i : Nat} (hi : i < 4) (hdg : decode cc pc = .ok (.iaload, 1)) (kk : W p l e R s m args below meth c H locs cells slots Q (F0 m (pc + 1) ls (.int (nI (st 9 i)) :: rest))) : W p l e R s m args below meth c H locs cells slots Q (F0 m pc ls (.int (nI i) :: .ref (ad 9) :: rest)) := by
  refine va_iald S.1 S.2.1 w.1 w.2.1 10 0 rfl rfl (vp_in_nI hi (by decide)) hdg ?_
  rw [nI_clamp (by omega)]
  exact kk
theorem yye_9 {i v : Nat} (hi : i < 4) : (tw_y cI cZ x ad st).set 10 (ad 9, .inl (cI, 4, .inl (upd (fun i => nI (st 9 i)) (nI i).toNatClampNeg (nI (v))))) = tw_y cI cZ x ad (tw_up st 9 i v) := by
  have h : upd (fun i => nI (st 9 i)) (nI i).toNatClampNeg (nI (v)) = (fun j => nI (tw_up st 9 i v 9 j)) := by
    rw [nI_clamp (by omega)]
    funext j
    by_cases g : j = i
    · rw [g, tw_up_e]; simp [upd]
    · rw [tw_up_i g]; simp [upd, g]
  rw [h]
  rfl
theorem yys_9 (S : CallFix p m c cc nL s args tw_wall RX1) (w : TWY D cI cZ x ad st A H0 H locs s) {i v : Nat} (hi : i < 4) (hdg : decode cc pc = .ok (.iastore, 1)) (kk : ∀ (H1 : Heap) (locs1 : List Loc), TWY D cI cZ x ad (tw_up st 9 i v) A H0 H1 locs1 s → W p l e R s m args below meth c H1 locs1 cells slots Q (F0 m (pc + 1) ls rest)) : W p l e R s m args below meth c H locs cells slots Q (F0 m pc ls (.int (nI (v)) :: .int (nI i) :: .ref (ad 9) :: rest)) := by
  refine va_iast S.1 S.2.1 w.1 w.2.1 w.2.2.1 w.2.2.2 10 0 rfl rfl (vp_in_nI hi (by decide)) hdg (fun H1 l1 hP hD hS => ?_)
  rw [yye_9 hi] at hP hD
  exact kk H1 l1 ⟨w.1, hP, hD, hS⟩
theorem yyl_10 (S : CallFix p m c cc nL s args tw_wall RX1) (w : TWY D cI cZ x ad st A H0 H locs s) {i : Nat} (hi : i < 16) (hdg : decode cc pc = .ok (.iaload, 1)) (kk : W p l e R s m args below meth c H locs cells slots Q (F0 m (pc + 1) ls (.int (nI (st 10 i)) :: rest))) : W p l e R s m args below meth c H locs cells slots Q (F0 m pc ls (.int (nI i) :: .ref (ad 10) :: rest)) := by
  refine va_iald S.1 S.2.1 w.1 w.2.1 11 0 rfl rfl (vp_in_nI hi (by decide)) hdg ?_
  rw [nI_clamp (by omega)]
  exact kk
theorem yye_10 {i v : Nat} (hi : i < 16) : (tw_y cI cZ x ad st).set 11 (ad 10, .inl (cI, 16, .inl (upd (fun i => nI (st 10 i)) (nI i).toNatClampNeg (nI (v))))) = tw_y cI cZ x ad (tw_up st 10 i v) := by
  have h : upd (fun i => nI (st 10 i)) (nI i).toNatClampNeg (nI (v)) = (fun j => nI (tw_up st 10 i v 10 j)) := by
    rw [nI_clamp (by omega)]
    funext j
    by_cases g : j = i
    · rw [g, tw_up_e]; simp [upd]
    · rw [tw_up_i g]; simp [upd, g]
  rw [h]
  rfl
theorem yys_10 (S : CallFix p m c cc nL s args tw_wall RX1) (w : TWY D cI cZ x ad st A H0 H locs s) {i v : Nat} (hi : i < 16) (hdg : decode cc pc = .ok (.iastore, 1)) (kk : ∀ (H1 : Heap) (locs1 : List Loc), TWY D cI cZ x ad (tw_up st 10 i v) A H0 H1 locs1 s → W p l e R s m args below meth c H1 locs1 cells slots Q (F0 m (pc + 1) ls rest)) : W p l e R s m args below meth c H locs cells slots Q (F0 m pc ls (.int (nI (v)) :: .int (nI i) :: .ref (ad 10) :: rest)) := by
  refine va_iast S.1 S.2.1 w.1 w.2.1 w.2.2.1 w.2.2.2 11 0 rfl rfl (vp_in_nI hi (by decide)) hdg (fun H1 l1 hP hD hS => ?_)
  rw [yye_10 hi] at hP hD
  exact kk H1 l1 ⟨w.1, hP, hD, hS⟩
theorem yyl_11 (S : CallFix p m c cc nL s args tw_wall RX1) (w : TWY D cI cZ x ad st A H0 H locs s) {i : Nat} (hi : i < 1601) (hdg : decode cc pc = .ok (.iaload, 1)) (kk : W p l e R s m args below meth c H locs cells slots Q (F0 m (pc + 1) ls (.int (nI (st 11 i)) :: rest))) : W p l e R s m args below meth c H locs cells slots Q (F0 m pc ls (.int (nI i) :: .ref (ad 11) :: rest)) := by
  refine va_iald S.1 S.2.1 w.1 w.2.1 12 0 rfl rfl (vp_in_nI hi (by decide)) hdg ?_
  rw [nI_clamp (by omega)]
  exact kk
theorem yye_11 {i v : Nat} (hi : i < 1601) : (tw_y cI cZ x ad st).set 12 (ad 11, .inl (cI, 1601, .inl (upd (fun i => nI (st 11 i)) (nI i).toNatClampNeg (nI (v))))) = tw_y cI cZ x ad (tw_up st 11 i v) := by
  have h : upd (fun i => nI (st 11 i)) (nI i).toNatClampNeg (nI (v)) = (fun j => nI (tw_up st 11 i v 11 j)) := by
    rw [nI_clamp (by omega)]
    funext j
    by_cases g : j = i
    · rw [g, tw_up_e]; simp [upd]
    · rw [tw_up_i g]; simp [upd, g]
  rw [h]
  rfl
theorem yys_11 (S : CallFix p m c cc nL s args tw_wall RX1) (w : TWY D cI cZ x ad st A H0 H locs s) {i v : Nat} (hi : i < 1601) (hdg : decode cc pc = .ok (.iastore, 1)) (kk : ∀ (H1 : Heap) (locs1 : List Loc), TWY D cI cZ x ad (tw_up st 11 i v) A H0 H1 locs1 s → W p l e R s m args below meth c H1 locs1 cells slots Q (F0 m (pc + 1) ls rest)) : W p l e R s m args below meth c H locs cells slots Q (F0 m pc ls (.int (nI (v)) :: .int (nI i) :: .ref (ad 11) :: rest)) := by
  refine va_iast S.1 S.2.1 w.1 w.2.1 w.2.2.1 w.2.2.2 12 0 rfl rfl (vp_in_nI hi (by decide)) hdg (fun H1 l1 hP hD hS => ?_)
  rw [yye_11 hi] at hP hD
  exact kk H1 l1 ⟨w.1, hP, hD, hS⟩
theorem yyl_12 (S : CallFix p m c cc nL s args tw_wall RX1) (w : TWY D cI cZ x ad st A H0 H locs s) {i : Nat} (hi : i < 1601) (hdg : decode cc pc = .ok (.baload, 1)) (kk : W p l e R s m args below meth c H locs cells slots Q (F0 m (pc + 1) ls (.int (nI (st 12 i)) :: rest))) : W p l e R s m args below meth c H locs cells slots Q (F0 m pc ls (.int (nI i) :: .ref (ad 12) :: rest)) := by
  refine va_zald S.1 S.2.1 w.1 w.2.1 13 1 rfl rfl (vp_in_nI hi (by decide)) hdg ?_
  rw [nI_clamp (by omega)]
  exact kk
theorem yye_12 {i v : Nat} (hi : i < 1601) (hv : v < 2) : (tw_y cI cZ x ad st).set 13 (ad 12, .inl (cZ, 1601, .inl (upd (fun i => nI (st 12 i)) (nI i).toNatClampNeg (vp_nar .boolean (nI (v)))))) = tw_y cI cZ x ad (tw_up st 12 i v) := by
  have h : upd (fun i => nI (st 12 i)) (nI i).toNatClampNeg (vp_nar .boolean (nI (v))) = (fun j => nI (tw_up st 12 i v 12 j)) := by
    have hb : vp_nar .boolean (nI (v)) = nI (v) := by
      rcases (show v = 0 ∨ v = 1 by omega) with rfl | rfl <;> decide +kernel
    rw [nI_clamp (by omega), hb]
    funext j
    by_cases g : j = i
    · rw [g, tw_up_e]; simp [upd]
    · rw [tw_up_i g]; simp [upd, g]
  rw [h]
  rfl
theorem yys_12 (S : CallFix p m c cc nL s args tw_wall RX1) (w : TWY D cI cZ x ad st A H0 H locs s) {i v : Nat} (hi : i < 1601) (hv : v < 2) (hdg : decode cc pc = .ok (.bastore, 1)) (kk : ∀ (H1 : Heap) (locs1 : List Loc), TWY D cI cZ x ad (tw_up st 12 i v) A H0 H1 locs1 s → W p l e R s m args below meth c H1 locs1 cells slots Q (F0 m (pc + 1) ls rest)) : W p l e R s m args below meth c H locs cells slots Q (F0 m pc ls (.int (nI (v)) :: .int (nI i) :: .ref (ad 12) :: rest)) := by
  refine va_zast S.1 S.2.1 w.1 w.2.1 w.2.2.1 w.2.2.2 13 1 rfl rfl (vp_in_nI hi (by decide)) hdg (fun H1 l1 hP hD hS => ?_)
  rw [yye_12 hi hv] at hP hD
  exact kk H1 l1 ⟨w.1, hP, hD, hS⟩
/-- nothing old has changed -/
theorem TWY.kept {H1 : Heap} {l1 : List Loc} (w : TWY D cI cZ x ad st A H0 H locs s) (hk : ∀ q : Nat, q < H.size → H1[q]? = H[q]?) (hS : va_S A H0 H1 l1) : TWY D cI cZ x ad st A H0 H1 l1 s :=
  ⟨w.1, w.2.1.kept (fun k q hq => hk q.1 ((w.2.1 k q hq).lt)), w.2.2.1, hS⟩
theorem TWY.set {st' : Nat → Nat → Nat} (w : TWY D cI cZ x ad st A H0 H locs s) (h : tw_y cI cZ x ad st = tw_y cI cZ x ad st') : TWY D cI cZ x ad st' A H0 H locs s := by
  obtain ⟨h1, h2, h3, h4⟩ := w
  rw [h] at h2 h3
  exact ⟨h1, h2, h3, h4⟩
end TWYR
end
section
/-! What a contract of the class speaks of, and the rows of its calls. -/
def tw_ex (u : Nat) : String := if u = 1 then "java/lang/IllegalArgumentException" else "java/lang/IllegalStateException"
/-- what a throw wants of the start: Throwable's two statics, the texts, two words -/
def tw_Z (A : Nat → Prop) (U : State) : Prop :=
  vx_Zq Bundle.tN "UNASSIGNED_STACK" Bundle.steD A U U.heap ∧ vx_Zq Bundle.tN "SUPPRESSED_SENTINEL" Bundle.listD A U U.heap ∧
  ((Cond.castable "java/lang/IllegalArgumentException" "java/lang/IllegalArgumentException").before #[] U = true ∧ (Cond.castable "java/lang/IllegalStateException" "java/lang/IllegalStateException").before #[] U = true ∧ (Cond.declares (Bundle.initS "java/lang/RuntimeException")).before #[] U = true ∧ (Cond.declares (Bundle.initS "java/lang/Exception")).before #[] U = true ∧ (Cond.declares (Bundle.initS Bundle.tN)).before #[] U = true) ∧
  (∃ a, vk_R RX0 103 "a number out of range" a U) ∧ (∃ a, vk_R RX0 105 "no more CHANGES" a U) ∧ (∃ a, vk_R RX0 81 "no such LETTER in the TEXT" a U) ∧ (∃ a, vk_R RX0 86 "a CHANGE comes to another COPY" a U) ∧ ∃ a, vk_R RX0 97 "the COPY lacks a CHANGE that the maker had" a U
theorem tw_cast {E n : String} {a a' : Array Value} {s U : State} (hvm : s.vm.Alike U.vm) (h : (Cond.castable E n).before a s = true) : (Cond.castable E n).before a' U = true := by
  obtain ⟨c3, c4, h3, h4, ha⟩ := Cond.castable_spec h
  have h3' : U.vm.findClass E = some c3 := by rw [hvm.findClass]; exact h3
  have h4' : U.vm.findClass n = some c4 := by rw [hvm.findClass]; exact h4
  have ha' : U.vm.assignable c3 c4 = true := by rw [hvm.assignable]; exact ha
  simp [Cond.before, Cond.holds, Cond.value, h3', h4', ha']
theorem tw_decl {y : MethodName} {a a' : Array Value} {s U : State} (hal : s.vm.Alike U.vm) (h : (Cond.declares y).before a s = true) : (Cond.declares y).before a' U = true := by
  have e1 : U.methodNamed? y = s.methodNamed? y := by rw [State.methodNamed?_of_vm (show U.vm = (s.setVm U.vm).vm from rfl), State.methodNamed?_setVm hal]
  have e2 : U.vm.method? = s.vm.method? := funext hal.method?
  simp only [Cond.before, Cond.holds, Cond.value] at h ⊢
  rw [e1, e2]; exact h
theorem tw_Z.at {A B : Nat → Prop} {s U : State} {H : Heap} {locs : List Loc} (h : tw_Z A s) (hS : va_S A s.heap H locs) (hU : U.heap = H) (hW : s.WarmedH U.vm) (hB : ∀ q, B q → A q) : tw_Z B U := by
  obtain ⟨z1, z2, ⟨z3, z4, z5, z6, z7⟩, ⟨a1, k1⟩, ⟨a2, k2⟩, ⟨a3, k3⟩, ⟨a4, k4⟩, a5, k5⟩ := h
  refine ⟨?_, ?_, ⟨tw_cast hW.alike z3, tw_cast hW.alike z4, tw_decl hW.alike z5, tw_decl hW.alike z6, tw_decl hW.alike z7⟩, ⟨a1, k1.warm hW⟩, ⟨a2, k2.warm hW⟩, ⟨a3, k3.warm hW⟩, ⟨a4, k4.warm hW⟩, a5, k5.warm hW⟩
  · rw [hU]; exact vx_Zq.moved hW.alike ((z1.kept hS.2.1).narrow hB)
  · rw [hU]; exact vx_Zq.moved hW.alike ((z2.kept hS.2.1).narrow hB)
theorem tw_Z.blind {A : Nat → Prop} {U : State} {g : JFrame} {mk : MethodId} {a : Array Value} (h : tw_Z A U) : tw_Z A (U.calling g mk a) := by
  obtain ⟨z1, z2, ⟨z3, z4, z5, z6, z7⟩, ⟨a1, k1⟩, ⟨a2, k2⟩, ⟨a3, k3⟩, ⟨a4, k4⟩, a5, k5⟩ := h
  refine ⟨vx_Zq.moved (u := U) (U := U.calling g mk a) (Vm.Alike.refl U.vm) z1, vx_Zq.moved (u := U) (U := U.calling g mk a) (Vm.Alike.refl U.vm) z2, ⟨tw_cast (s := U) (Vm.Alike.refl U.vm) z3, tw_cast (s := U) (Vm.Alike.refl U.vm) z4, tw_decl (s := U) (Vm.Alike.refl U.vm) z5, tw_decl (s := U) (Vm.Alike.refl U.vm) z6, tw_decl (s := U) (Vm.Alike.refl U.vm) z7⟩, ⟨a1, vk_R.same (u := U) rfl k1⟩, ⟨a2, vk_R.same (u := U) rfl k2⟩, ⟨a3, vk_R.same (u := U) rfl k3⟩, ⟨a4, vk_R.same (u := U) rfl k4⟩, a5, vk_R.same (u := U) rfl k5⟩
def tw_XU (D : va_G) (cI cJ : ClassId) (x : Nat) (ad : Nat → Nat) (st : Nat → Nat → Nat) (U : State) : Prop := va_P D twCl (tw_x cI cJ x ad st) U.heap ∧ va_K D twCl [(cI, .int), (cJ, .array .int)] U ∧ va_D (fun _ => True) (tw_x cI cJ x ad st)
def tw_XT (D : va_G) (cI cJ : ClassId) (x : Nat) (ad : Nat → Nat) (A : Nat → Prop) (u : Nat → Nat → Nat) (t : State) : Prop := va_P D twCl (tw_x cI cJ x ad u) t.heap ∧ va_K D twCl [(cI, .int), (cJ, .array .int)] t ∧ va_D A (tw_x cI cJ x ad u)
def tw_YU (D : va_G) (cI cZ : ClassId) (x : Nat) (ad : Nat → Nat) (st : Nat → Nat → Nat) (U : State) : Prop := va_P D twCl (tw_y cI cZ x ad st) U.heap ∧ va_K D twCl [(cI, .int), (cZ, .boolean)] U ∧ va_D (fun _ => True) (tw_y cI cZ x ad st)
def tw_YT (D : va_G) (cI cZ : ClassId) (x : Nat) (ad : Nat → Nat) (A : Nat → Prop) (u : Nat → Nat → Nat) (t : State) : Prop := va_P D twCl (tw_y cI cZ x ad u) t.heap ∧ va_K D twCl [(cI, .int), (cZ, .boolean)] t ∧ va_D A (tw_y cI cZ x ad u)
/-- what may be thrown, nothing changed -/
def tw_XC (px : Nat → Prop) (sz : Nat) : String → State → State → Prop := vx_X (fun u : Nat => px u) (fun E u _ => E = tw_ex u) (fun q => sz ≤ q)
theorem tw_mono {A B : Nat → Prop} {H0 H : Heap} {locs : List Loc} (h : va_S A H0 H locs) (hAB : ∀ q, A q → B q) : va_S B H0 H locs := ⟨h.1, fun q h1 h2 => h.2.1 q h1 (fun z => h2 (hAB q z)), fun l hl => hAB _ (h.2.2 l hl)⟩
section TWC
variable {p : Program} {l : Launch} {e : Env} {R : Room} {s : State} {m : MethodId} {args : Array Value} {below : List Frame} {meth : Method} {c : Code} {H : Heap} {locs : List Loc} {cells slots : Nat} {Q : State → Prop}
variable {cc bytes : ByteArray} {pc nL maxL n index : Nat} {ls : Array Slot} {rest st0 As : List Value} {D : va_G} {A A0 : Nat → Prop} {H0 : Heap} {x : Nat} {ad : Nat → Nat} {st : Nat → Nat → Nat} {cI cJ cZ : ClassId} {y : MethodName} {ret : Option FieldType} {rm : Room}
theorem tw_X0 (h : tw_XU D cI cJ x ad st s) : TWX D cI cJ x ad st (va_A (tw_x cI cJ x ad st) s.heap.size) s.heap s.heap [] s := ⟨h.2.1, h.1, h.2.2.self, va_S.rf⟩
theorem tw_Y0 (h : tw_YU D cI cZ x ad st s) : TWY D cI cZ x ad st (va_A (tw_y cI cZ x ad st) s.heap.size) s.heap s.heap [] s := ⟨h.2.1, h.1, h.2.2.self, va_S.rf⟩
theorem tw_XU.blind {U : State} {g : JFrame} {mk : MethodId} {a : Array Value} (h : tw_XU D cI cJ x ad st U) : tw_XU D cI cJ x ad st (U.calling g mk a) := ⟨h.1, va_K.moved (u := U) (U := U.calling g mk a) (Vm.Alike.refl U.vm) h.2.1, h.2.2⟩
theorem tw_YU.blind {U : State} {g : JFrame} {mk : MethodId} {a : Array Value} (h : tw_YU D cI cZ x ad st U) : tw_YU D cI cZ x ad st (U.calling g mk a) := ⟨h.1, va_K.moved (u := U) (U := U.calling g mk a) (Vm.Alike.refl U.vm) h.2.1, h.2.2⟩
theorem TWX.U {U : State} (w : TWX D cI cJ x ad st A H0 H locs s) (hU : U.heap = H) (hW : s.WarmedH U.vm) : tw_XU D cI cJ x ad st U := ⟨by rw [hU]; exact w.2.1, va_K.moved hW.alike w.1, w.2.2.1.weaken (fun _ _ _ _ => trivial)⟩
theorem TWY.U {U : State} (w : TWY D cI cZ x ad st A H0 H locs s) (hU : U.heap = H) (hW : s.WarmedH U.vm) : tw_YU D cI cZ x ad st U := ⟨by rw [hU]; exact w.2.1, va_K.moved hW.alike w.1, w.2.2.1.weaken (fun _ _ _ _ => trivial)⟩
/-- the ends -/
theorem tw_iret {post : Int32 → (Nat → Nat → Nat) → Prop} {u : Nat → Nat → Nat} {v : Int32} (S : CallFix p m c cc nL s args tw_wall RX0) (hr : meth.sig.returnType = some .int) (hlk : meth.locks = false) (w : TWX D cI cJ x ad u A s.heap H locs s) (hp : post v u) (hdg : decode cc pc = .ok (.ireturn, 1)) : W p l e R s m args below meth c H locs cells slots (MQ below (va_Qi post (tw_XT D cI cJ x ad A) A) args s cells slots A) (F0 m pc ls [.int v]) :=
  W.iret S.1 S.2.1 hr (fun t ht hW => ⟨⟨v, u, rfl, hp, by rw [ht]; exact w.2.1, va_K.moved hW.alike w.1, w.2.2.1⟩, w.2.2.2.F ht⟩) w.2.2.2.2.2 hdg hlk
theorem tw_vret {post : (Nat → Nat → Nat) → Prop} {u : Nat → Nat → Nat} (S : CallFix p m c cc nL s args tw_wall RX0) (hr : meth.sig.returnType = none) (hlk : meth.locks = false) (w : TWX D cI cJ x ad u A s.heap H locs s) (hp : post u) (hdg : decode cc pc = .ok (.return_, 1)) : W p l e R s m args below meth c H locs cells slots (MQ below (va_Qv post (tw_XT D cI cJ x ad A) A) args s cells slots A) (F0 m pc ls []) :=
  W.vret S.1 S.2.1 hr (fun t ht hW => ⟨⟨u, rfl, hp, by rw [ht]; exact w.2.1, va_K.moved hW.alike w.1, w.2.2.1⟩, w.2.2.2.F ht⟩) w.2.2.2.2.2 hdg hlk
theorem tw_iretY {post : Int32 → (Nat → Nat → Nat) → Prop} {u : Nat → Nat → Nat} {v : Int32} (S : CallFix p m c cc nL s args tw_wall RX1) (hr : meth.sig.returnType = some .int) (hlk : meth.locks = false) (w : TWY D cI cZ x ad u A s.heap H locs s) (hp : post v u) (hdg : decode cc pc = .ok (.ireturn, 1)) : W p l e R s m args below meth c H locs cells slots (MQ below (va_Qi post (tw_YT D cI cZ x ad A) A) args s cells slots A) (F0 m pc ls [.int v]) :=
  W.iret S.1 S.2.1 hr (fun t ht hW => ⟨⟨v, u, rfl, hp, by rw [ht]; exact w.2.1, va_K.moved hW.alike w.1, w.2.2.1⟩, w.2.2.2.F ht⟩) w.2.2.2.2.2 hdg hlk
theorem tw_zretY {post : Int32 → (Nat → Nat → Nat) → Prop} {u : Nat → Nat → Nat} {v : Int32} (S : CallFix p m c cc nL s args tw_wall RX1) (hr : meth.sig.returnType = some .boolean) (hlk : meth.locks = false) (w : TWY D cI cZ x ad u A s.heap H locs s) (hn : narrow .boolean (.int v) = .int v) (hp : post v u) (hdg : decode cc pc = .ok (.ireturn, 1)) : W p l e R s m args below meth c H locs cells slots (MQ below (va_Qi post (tw_YT D cI cZ x ad A) A) args s cells slots A) (F0 m pc ls [.int v]) :=
  W.zret S.1 S.2.1 hr hn (fun t ht hW => ⟨⟨v, u, rfl, hp, by rw [ht]; exact w.2.1, va_K.moved hW.alike w.1, w.2.2.1⟩, w.2.2.2.F ht⟩) w.2.2.2.2.2 hdg hlk
theorem tw_vretY {post : (Nat → Nat → Nat) → Prop} {u : Nat → Nat → Nat} (S : CallFix p m c cc nL s args tw_wall RX1) (hr : meth.sig.returnType = none) (hlk : meth.locks = false) (w : TWY D cI cZ x ad u A s.heap H locs s) (hp : post u) (hdg : decode cc pc = .ok (.return_, 1)) : W p l e R s m args below meth c H locs cells slots (MQ below (va_Qv post (tw_YT D cI cZ x ad A) A) args s cells slots A) (F0 m pc ls []) :=
  W.vret S.1 S.2.1 hr (fun t ht hW => ⟨⟨u, rfl, hp, by rw [ht]; exact w.2.1, va_K.moved hW.alike w.1, w.2.2.1⟩, w.2.2.2.F ht⟩) w.2.2.2.2.2 hdg hlk
/-- the ends of a method that only reads -/
theorem tw_iro {own : String} {post : Int32 → Prop} {v : Int32} {ty : FieldType} (S : CallFix p m c cc nL s args tw_wall own) (hr : meth.sig.returnType = some ty) (hn : narrow ty (.int v) = .int v) (hlk : meth.locks = false) (z : va_S (fun q => s.heap.size ≤ q) s.heap H locs) (hp : post v) (hdg : decode cc pc = .ok (.ireturn, 1)) : W p l e R s m args below meth c H locs cells slots (MQ below (va_Qi (fun r (_ : Unit) => post r) (fun _ _ => True) (fun q => s.heap.size ≤ q)) args s cells slots (fun q => s.heap.size ≤ q)) (F0 m pc ls [.int v]) :=
  W.zret S.1 S.2.1 hr hn (fun t ht hW => ⟨⟨v, (), rfl, hp, trivial⟩, z.F ht⟩) z.2.2 hdg hlk
theorem tw_vro {own : String} {post : Prop} (S : CallFix p m c cc nL s args tw_wall own) (hr : meth.sig.returnType = none) (hlk : meth.locks = false) (z : va_S (fun q => s.heap.size ≤ q) s.heap H locs) (hp : post) (hdg : decode cc pc = .ok (.return_, 1)) : W p l e R s m args below meth c H locs cells slots (MQ below (va_Qv (fun (_ : Unit) => post) (fun _ _ => True) (fun q => s.heap.size ≤ q)) args s cells slots (fun q => s.heap.size ≤ q)) (F0 m pc ls []) :=
  W.vret S.1 S.2.1 hr (fun t ht hW => ⟨⟨(), rfl, hp, trivial⟩, z.F ht⟩) z.2.2 hdg hlk
/-- a method of the class that only reads is called -/
theorem tw_cro (S : CallFix p m c cc nL s args tw_wall RX0) (w : TWX D cI cJ x ad st A H0 H locs s) (z : va_S A0 H0 H locs) (hA0 : ∀ q, H0.size ≤ q → A0 q) (hsub : ∀ q, A0 q → A q) {post : Int32 → Prop}
    (hM : Met l y (Cond.code y bytes maxL ret :: tw_wall) rm (va_Pc (.ref x :: As) (fun U => U.heap.size = H.size ∧ tw_XU D cI cJ x ad st U)) (va_Qi (fun r (_ : Unit) => post r) (fun _ _ => True) (fun q => H.size ≤ q)) 0 0 (fun q => H.size ≤ q))
    (g : GoodIn tw_wall (wsV RX0 index RX0 y (Cond.code y bytes maxL ret :: tw_wall))) (hrc : rm.cells = 0) (hrs : rm.slots = 0) (hd : y.cls = RX0 ∧ y.cls ≠ "java/lang/invoke/MethodHandle" ∧ y.cls ≠ "java/lang/invoke/VarHandle" ∧ (parseMethodDescriptor y.desc).map (fun d => d.parameters.length) = some n) (hR : rm.frames + 1 ≤ R.frames ∧ 8 + (maxL + 11) + rm.locals ≤ R.locals) (hn : As.length = n) (hsize : ls.size = nL) (hst : st0 = As.reverse ++ .ref x :: rest) (hW : (rest.map fun v => v.category).sum ≤ 8) (hdg : decode cc pc = .ok (.invokevirtual index, 3)) (hf : cells ≤ R.cells ∧ slots ≤ R.slots)
    (kk : ∀ (r : Int32) (H1 : Heap) (locs1 : List Loc), post r → TWX D cI cJ x ad st A H0 H1 locs1 s → va_S A0 H0 H1 locs1 → W p l e R s m args below meth c H1 locs1 cells slots Q (F0 m (pc + 3) ls (.int r :: rest))) : W p l e R s m args below meth c H locs cells slots Q (F0 m pc ls st0) := by
  refine va_calli (A0 := A0) (va_runV (As := As) (rest := rest) S hM (cwV n S.2.2.2.2 g rfl hrc hrs hd hR) ⟨fun a U g9 mk q => ⟨q.1, q.2.1, q.2.2.blind⟩, va_recv w.1 w.2.1 (ci := 0) (q0 := 0) rfl rfl, fun U hU hW => ⟨rfl, by rw [hU], w.U hU hW⟩⟩ rfl hn hsize hst (lv_room hW) hdg hf) z (fun q h1 h2 => absurd h1 (Nat.not_lt.mpr h2)) (fun q h => hA0 q (Nat.le_trans z.1 h)) (fun r u t H1 l1 ht hvm hp hB hz1 hk1 hS => ?_)
  exact kk r H1 l1 hp (w.kept (fun q hq => hk1 q hq (Nat.not_le.mpr hq)) (tw_mono hS hsub)) hS
/-- a method of the class that writes is called -/
theorem tw_cwi (S : CallFix p m c cc nL s args tw_wall RX0) (w : TWX D cI cJ x ad st A H0 H locs s) (hA0 : ∀ q, H0.size ≤ q → A q) {post : Int32 → (Nat → Nat → Nat) → Prop}
    (hM : Met l y (Cond.code y bytes maxL ret :: tw_wall) rm (va_Pc (.ref x :: As) (fun U => U.heap.size = H.size ∧ tw_XU D cI cJ x ad st U)) (va_Qi post (tw_XT D cI cJ x ad (va_A (tw_x cI cJ x ad st) H.size)) (va_A (tw_x cI cJ x ad st) H.size)) 0 0 (va_A (tw_x cI cJ x ad st) H.size))
    (g : GoodIn tw_wall (wsV RX0 index RX0 y (Cond.code y bytes maxL ret :: tw_wall))) (hrc : rm.cells = 0) (hrs : rm.slots = 0) (hd : y.cls = RX0 ∧ y.cls ≠ "java/lang/invoke/MethodHandle" ∧ y.cls ≠ "java/lang/invoke/VarHandle" ∧ (parseMethodDescriptor y.desc).map (fun d => d.parameters.length) = some n) (hR : rm.frames + 1 ≤ R.frames ∧ 8 + (maxL + 11) + rm.locals ≤ R.locals) (hn : As.length = n) (hsize : ls.size = nL) (hst : st0 = As.reverse ++ .ref x :: rest) (hW : (rest.map fun v => v.category).sum ≤ 8) (hdg : decode cc pc = .ok (.invokevirtual index, 3)) (hf : cells ≤ R.cells ∧ slots ≤ R.slots)
    (kk : ∀ (r : Int32) (u : Nat → Nat → Nat) (H1 : Heap) (locs1 : List Loc), post r u → TWX D cI cJ x ad u A H0 H1 locs1 s → W p l e R s m args below meth c H1 locs1 cells slots Q (F0 m (pc + 3) ls (.int r :: rest))) : W p l e R s m args below meth c H locs cells slots Q (F0 m pc ls st0) := by
  have hF : ∀ q, va_A (tw_x cI cJ x ad st) H.size q → A q := fun q h => by
    rcases h with ⟨k, e9, h⟩ | h
    · exact w.2.2.1.2 k _ h
    · exact hA0 q (Nat.le_trans w.2.2.2.1 h)
  refine va_calli (A0 := A) (va_runV (As := As) (rest := rest) S hM (cwV n S.2.2.2.2 g rfl hrc hrs hd hR) ⟨fun a U g9 mk q => ⟨q.1, q.2.1, q.2.2.blind⟩, va_recv w.1 w.2.1 (ci := 0) (q0 := 0) rfl rfl, fun U hU hW => ⟨rfl, by rw [hU], w.U hU hW⟩⟩ rfl hn hsize hst (lv_room hW) hdg hf) w.2.2.2 (fun q _ h => hF q h) hF (fun r u t H1 l1 ht hvm hp hB hz1 hk1 hS => ?_)
  obtain ⟨b1, b2, b3⟩ := hB
  exact kk r u H1 l1 hp ⟨w.1, by rw [← ht]; exact b1, b3.weaken (fun _ _ _ h => hF _ h), hS⟩
theorem tw_cwv (S : CallFix p m c cc nL s args tw_wall RX0) (w : TWX D cI cJ x ad st A H0 H locs s) (hA0 : ∀ q, H0.size ≤ q → A q) {post : (Nat → Nat → Nat) → Prop}
    (hM : Met l y (Cond.code y bytes maxL ret :: tw_wall) rm (va_Pc (.ref x :: As) (fun U => U.heap.size = H.size ∧ tw_XU D cI cJ x ad st U)) (va_Qv post (tw_XT D cI cJ x ad (va_A (tw_x cI cJ x ad st) H.size)) (va_A (tw_x cI cJ x ad st) H.size)) 0 0 (va_A (tw_x cI cJ x ad st) H.size))
    (g : GoodIn tw_wall (wsV RX0 index RX0 y (Cond.code y bytes maxL ret :: tw_wall))) (hrc : rm.cells = 0) (hrs : rm.slots = 0) (hd : y.cls = RX0 ∧ y.cls ≠ "java/lang/invoke/MethodHandle" ∧ y.cls ≠ "java/lang/invoke/VarHandle" ∧ (parseMethodDescriptor y.desc).map (fun d => d.parameters.length) = some n) (hR : rm.frames + 1 ≤ R.frames ∧ 8 + (maxL + 11) + rm.locals ≤ R.locals) (hn : As.length = n) (hsize : ls.size = nL) (hst : st0 = As.reverse ++ .ref x :: rest) (hW : (rest.map fun v => v.category).sum ≤ 8) (hdg : decode cc pc = .ok (.invokevirtual index, 3)) (hf : cells ≤ R.cells ∧ slots ≤ R.slots)
    (kk : ∀ (u : Nat → Nat → Nat) (H1 : Heap) (locs1 : List Loc), post u → TWX D cI cJ x ad u A H0 H1 locs1 s → W p l e R s m args below meth c H1 locs1 cells slots Q (F0 m (pc + 3) ls rest)) : W p l e R s m args below meth c H locs cells slots Q (F0 m pc ls st0) := by
  have hF : ∀ q, va_A (tw_x cI cJ x ad st) H.size q → A q := fun q h => by
    rcases h with ⟨k, e9, h⟩ | h
    · exact w.2.2.1.2 k _ h
    · exact hA0 q (Nat.le_trans w.2.2.2.1 h)
  refine va_callv (A0 := A) (va_runV (As := As) (rest := rest) S hM (cwV n S.2.2.2.2 g rfl hrc hrs hd hR) ⟨fun a U g9 mk q => ⟨q.1, q.2.1, q.2.2.blind⟩, va_recv w.1 w.2.1 (ci := 0) (q0 := 0) rfl rfl, fun U hU hW => ⟨rfl, by rw [hU], w.U hU hW⟩⟩ rfl hn hsize hst (lv_room hW) hdg hf) w.2.2.2 (fun q _ h => hF q h) hF (fun u t H1 l1 ht hvm hp hB hz1 hk1 hS => ?_)
  obtain ⟨b1, b2, b3⟩ := hB
  exact kk u H1 l1 hp ⟨w.1, by rw [← ht]; exact b1, b3.weaken (fun _ _ _ h => hF _ h), hS⟩
/-- .. of the reference -/
theorem tw_cyi (S : CallFix p m c cc nL s args tw_wall RX1) (w : TWY D cI cZ x ad st A H0 H locs s) (hA0 : ∀ q, H0.size ≤ q → A q) {post : Int32 → (Nat → Nat → Nat) → Prop}
    (hM : Met l y (Cond.code y bytes maxL ret :: tw_wall) rm (va_Pc (.ref x :: As) (fun U => U.heap.size = H.size ∧ tw_YU D cI cZ x ad st U)) (va_Qi post (tw_YT D cI cZ x ad (va_A (tw_y cI cZ x ad st) H.size)) (va_A (tw_y cI cZ x ad st) H.size)) 0 0 (va_A (tw_y cI cZ x ad st) H.size))
    (g : GoodIn tw_wall (wsV RX1 index RX1 y (Cond.code y bytes maxL ret :: tw_wall))) (hrc : rm.cells = 0) (hrs : rm.slots = 0) (hd : y.cls = RX1 ∧ y.cls ≠ "java/lang/invoke/MethodHandle" ∧ y.cls ≠ "java/lang/invoke/VarHandle" ∧ (parseMethodDescriptor y.desc).map (fun d => d.parameters.length) = some n) (hR : rm.frames + 1 ≤ R.frames ∧ 8 + (maxL + 11) + rm.locals ≤ R.locals) (hn : As.length = n) (hsize : ls.size = nL) (hst : st0 = As.reverse ++ .ref x :: rest) (hW : (rest.map fun v => v.category).sum ≤ 8) (hdg : decode cc pc = .ok (.invokevirtual index, 3)) (hf : cells ≤ R.cells ∧ slots ≤ R.slots)
    (kk : ∀ (r : Int32) (u : Nat → Nat → Nat) (H1 : Heap) (locs1 : List Loc), post r u → TWY D cI cZ x ad u A H0 H1 locs1 s → W p l e R s m args below meth c H1 locs1 cells slots Q (F0 m (pc + 3) ls (.int r :: rest))) : W p l e R s m args below meth c H locs cells slots Q (F0 m pc ls st0) := by
  have hF : ∀ q, va_A (tw_y cI cZ x ad st) H.size q → A q := fun q h => by
    rcases h with ⟨k, e9, h⟩ | h
    · exact w.2.2.1.2 k _ h
    · exact hA0 q (Nat.le_trans w.2.2.2.1 h)
  refine va_calli (A0 := A) (va_runV (As := As) (rest := rest) S hM (cwV n S.2.2.2.2 g rfl hrc hrs hd hR) ⟨fun a U g9 mk q => ⟨q.1, q.2.1, q.2.2.blind⟩, va_recv w.1 w.2.1 (ci := 1) (q0 := 0) rfl rfl, fun U hU hW => ⟨rfl, by rw [hU], w.U hU hW⟩⟩ rfl hn hsize hst (lv_room hW) hdg hf) w.2.2.2 (fun q _ h => hF q h) hF (fun r u t H1 l1 ht hvm hp hB hz1 hk1 hS => ?_)
  obtain ⟨b1, b2, b3⟩ := hB
  exact kk r u H1 l1 hp ⟨w.1, by rw [← ht]; exact b1, b3.weaken (fun _ _ _ h => hF _ h), hS⟩
theorem tw_cyv (S : CallFix p m c cc nL s args tw_wall RX1) (w : TWY D cI cZ x ad st A H0 H locs s) (hA0 : ∀ q, H0.size ≤ q → A q) {post : (Nat → Nat → Nat) → Prop}
    (hM : Met l y (Cond.code y bytes maxL ret :: tw_wall) rm (va_Pc (.ref x :: As) (fun U => U.heap.size = H.size ∧ tw_YU D cI cZ x ad st U)) (va_Qv post (tw_YT D cI cZ x ad (va_A (tw_y cI cZ x ad st) H.size)) (va_A (tw_y cI cZ x ad st) H.size)) 0 0 (va_A (tw_y cI cZ x ad st) H.size))
    (g : GoodIn tw_wall (wsV RX1 index RX1 y (Cond.code y bytes maxL ret :: tw_wall))) (hrc : rm.cells = 0) (hrs : rm.slots = 0) (hd : y.cls = RX1 ∧ y.cls ≠ "java/lang/invoke/MethodHandle" ∧ y.cls ≠ "java/lang/invoke/VarHandle" ∧ (parseMethodDescriptor y.desc).map (fun d => d.parameters.length) = some n) (hR : rm.frames + 1 ≤ R.frames ∧ 8 + (maxL + 11) + rm.locals ≤ R.locals) (hn : As.length = n) (hsize : ls.size = nL) (hst : st0 = As.reverse ++ .ref x :: rest) (hW : (rest.map fun v => v.category).sum ≤ 8) (hdg : decode cc pc = .ok (.invokevirtual index, 3)) (hf : cells ≤ R.cells ∧ slots ≤ R.slots)
    (kk : ∀ (u : Nat → Nat → Nat) (H1 : Heap) (locs1 : List Loc), post u → TWY D cI cZ x ad u A H0 H1 locs1 s → W p l e R s m args below meth c H1 locs1 cells slots Q (F0 m (pc + 3) ls rest)) : W p l e R s m args below meth c H locs cells slots Q (F0 m pc ls st0) := by
  have hF : ∀ q, va_A (tw_y cI cZ x ad st) H.size q → A q := fun q h => by
    rcases h with ⟨k, e9, h⟩ | h
    · exact w.2.2.1.2 k _ h
    · exact hA0 q (Nat.le_trans w.2.2.2.1 h)
  refine va_callv (A0 := A) (va_runV (As := As) (rest := rest) S hM (cwV n S.2.2.2.2 g rfl hrc hrs hd hR) ⟨fun a U g9 mk q => ⟨q.1, q.2.1, q.2.2.blind⟩, va_recv w.1 w.2.1 (ci := 1) (q0 := 0) rfl rfl, fun U hU hW => ⟨rfl, by rw [hU], w.U hU hW⟩⟩ rfl hn hsize hst (lv_room hW) hdg hf) w.2.2.2 (fun q _ h => hF q h) hF (fun u t H1 l1 ht hvm hp hB hz1 hk1 hS => ?_)
  obtain ⟨b1, b2, b3⟩ := hB
  exact kk u H1 l1 hp ⟨w.1, by rw [← ht]; exact b1, b3.weaken (fun _ _ _ h => hF _ h), hS⟩
/-- a static method of numbers alone is called (isCopy) -/
theorem tw_cst {own : String} (S : CallFix p m c cc nL s args tw_wall own) (z : va_S A0 H0 H locs) (hA0 : ∀ q, H0.size ≤ q → A0 q) {post : Int32 → Prop}
    (hM : Met l y (Cond.code y bytes maxL ret :: tw_wall) rm (va_Pc As (fun U => U.heap.size = H.size)) (va_Qi (fun r (_ : Unit) => post r) (fun _ _ => True) (fun q => H.size ≤ q)) 0 0 (fun q => H.size ≤ q))
    (g : GoodIn tw_wall (va_wsS own index y (Cond.code y bytes maxL ret :: tw_wall))) (hrc : rm.cells = 0) (hrs : rm.slots = 0) (hd : y.cls = own ∧ y.cls ≠ "java/lang/invoke/MethodHandle" ∧ y.cls ≠ "java/lang/invoke/VarHandle" ∧ (parseMethodDescriptor y.desc).map (fun d => d.parameters.length) = some n) (hR : rm.frames + 1 ≤ R.frames ∧ 8 + (maxL + 11) + rm.locals ≤ R.locals) (hn : As.length = n) (hsize : ls.size = nL) (hst : st0 = As.reverse ++ rest) (hW : (rest.map fun v => v.category).sum ≤ 8) (hdg : decode cc pc = .ok (.invokestatic index, 3)) (hf : cells ≤ R.cells ∧ slots ≤ R.slots)
    (kk : ∀ (r : Int32) (H1 : Heap) (locs1 : List Loc), post r → (∀ q : Nat, q < H.size → H1[q]? = H[q]?) → va_S A0 H0 H1 locs1 → W p l e R s m args below meth c H1 locs1 cells slots Q (F0 m (pc + 3) ls (.int r :: rest))) : W p l e R s m args below meth c H locs cells slots Q (F0 m pc ls st0) := by
  have ok : ∀ w ∈ va_wsS own index y (Cond.code y bytes maxL ret :: tw_wall), w.before args s = true := fun w h => S.2.2.2.2 w (g w h).1
  have hG : GoodIn tw_wall (Cond.code y bytes maxL ret :: tw_wall) := fun w h => g w (by unfold va_wsS; exact List.mem_append_right _ h)
  have cb : CallB R s args own index y bytes maxL ret (Cond.code y bytes maxL ret :: tw_wall) rm 0 0 n := callB_of n S.2.2.2.2 hG rfl hrc hrs (ok _ (by simp [va_wsS])) (ok _ (by simp [va_wsS])) hd.2 hR
  refine va_calli (A0 := A0) (va_runS (As := As) (rest := rest) S hM ⟨cb, ok _ (by simp [va_wsS])⟩ ⟨fun a U g9 mk q => ⟨q.1, q.2⟩, fun U hU hW => ⟨rfl, by show U.heap.size = H.size; rw [hU]⟩⟩ rfl hn hsize hst (lv_room hW) hdg hf) z (fun q h1 h2 => absurd h1 (Nat.not_lt.mpr h2)) (fun q h => hA0 q (Nat.le_trans z.1 h)) (fun r u t H1 l1 ht hvm hp hB hz1 hk1 hS => ?_)
  exact kk r H1 l1 hp (fun q hq => hk1 q hq (Nat.not_le.mpr hq)) hS
end TWC
end
section
/-! Throwing, and calls of methods that may throw. -/
theorem tw_xa : ∀ w ∈ (vx_atS RX0 83 "java/lang/IllegalArgumentException" ["java/lang/RuntimeException", "java/lang/Exception"]).filter goodWord, w ∈ lw_tbl := by decide +kernel
theorem tw_xb : ∀ w ∈ (vx_atS RX0 99 "java/lang/IllegalStateException" ["java/lang/RuntimeException", "java/lang/Exception"]).filter goodWord, w ∈ lw_tbl := by decide +kernel
theorem tw_hatA {args : Array Value} {s : State} (htw : ∀ w ∈ tw_wall, w.before args s = true) (hc : (Cond.castable "java/lang/IllegalArgumentException" "java/lang/IllegalArgumentException").before args s = true) (h1 : (Cond.declares (Bundle.initS "java/lang/RuntimeException")).before args s = true) (h2 : (Cond.declares (Bundle.initS "java/lang/Exception")).before args s = true) (h3 : (Cond.declares (Bundle.initS Bundle.tN)).before args s = true) : ∀ w ∈ vx_atS RX0 83 "java/lang/IllegalArgumentException" ["java/lang/RuntimeException", "java/lang/Exception"], w.before args s = true :=
  vx_hat (fun w h => htw w (List.mem_filter.mpr ⟨tw_xa w h, (List.mem_filter.mp h).2⟩)) (by decide +kernel) (vx_c hc (vx_c h1 (vx_c h2 (vx_c h3 vx_n))))
theorem tw_hatB {args : Array Value} {s : State} (htw : ∀ w ∈ tw_wall, w.before args s = true) (hc : (Cond.castable "java/lang/IllegalStateException" "java/lang/IllegalStateException").before args s = true) (h1 : (Cond.declares (Bundle.initS "java/lang/RuntimeException")).before args s = true) (h2 : (Cond.declares (Bundle.initS "java/lang/Exception")).before args s = true) (h3 : (Cond.declares (Bundle.initS Bundle.tN)).before args s = true) : ∀ w ∈ vx_atS RX0 99 "java/lang/IllegalStateException" ["java/lang/RuntimeException", "java/lang/Exception"], w.before args s = true :=
  vx_hat (fun w h => htw w (List.mem_filter.mpr ⟨tw_xb w h, (List.mem_filter.mp h).2⟩)) (by decide +kernel) (vx_c hc (vx_c h1 (vx_c h2 (vx_c h3 vx_n))))
theorem tw_goodA : ∀ w ∈ Cond.classLink RX0 79 "java/lang/IllegalArgumentException" :: Cond.initialized "java/lang/IllegalArgumentException" :: vx_atS RX0 83 "java/lang/IllegalArgumentException" ["java/lang/RuntimeException", "java/lang/Exception"], vx_ot w = true := by decide +kernel
theorem tw_goodB : ∀ w ∈ Cond.classLink RX0 95 "java/lang/IllegalStateException" :: Cond.initialized "java/lang/IllegalStateException" :: vx_atS RX0 99 "java/lang/IllegalStateException" ["java/lang/RuntimeException", "java/lang/Exception"], vx_ot w = true := by decide +kernel
section TWT
variable {p : Program} {l : Launch} {e : Env} {R : Room} {s : State} {m : MethodId} {args : Array Value} {below : List Frame} {meth : Method} {c : Code} {H : Heap} {locs : List Loc} {cells slots mc ms : Nat} {Qc : Array Value → State → Outcome → State → Prop} {free : Addr → Prop}
variable {cc bytes : ByteArray} {pc nL maxL n index : Nat} {ls : Array Slot} {rest st0 As : List Value} {D : va_G} {A : Nat → Prop} {x : Nat} {ad : Nat → Nat} {st : Nat → Nat → Nat} {cI cJ : ClassId} {y : MethodName} {ret : Option FieldType} {rm : Room} {px : Nat → Prop}
theorem tw_xcx {t : State} {E : String} {u : Nat} (hp : px u) (hE : E = tw_ex u) (z : va_S (fun q => s.heap.size ≤ q) s.heap H locs) (h1 : H.size ≤ t.heap.size) (h2 : ∀ q : Nat, q < H.size → t.heap[q]? = H[q]?) : tw_XC px s.heap.size E s t :=
  ⟨u, hp, hE, Nat.le_trans z.1 h1, fun q hq hn => (h2 q (Nat.lt_of_lt_of_le hq z.1)).trans (z.2.1 q hq hn)⟩
theorem tw_throwA {is : Nat} {text : String} (S : CallFix p m c cc nL s args tw_wall RX0) (hl : l.stackTraces = false) (ht : ∀ x ∈ c.exceptionTable.toList, False) (hlk : meth.locks = false) (Z : tw_Z (fun q => s.heap.size ≤ q) s) (hstr : ∃ a, vk_R RX0 is text a s) (z : va_S (fun q => s.heap.size ≤ q) s.heap H locs) (hsize : ls.size = nL) (hp : px 1) (hfree : ∀ q, s.heap.size ≤ q → free q)
    (d0 : decode cc pc = .ok (.new 79, 3)) (d3 : decode cc (pc + 3) = .ok (.dup, 1)) (d4 : decode cc (pc + 4) = .ok (.ldc is, 2)) (d6 : decode cc (pc + 6) = .ok (.invokespecial 83, 3)) (d9 : decode cc (pc + 9) = .ok (.athrow, 1))
    (hRframes : 2 + 3 < R.frames) (hRlocals : (rest.map fun v => v.category).sum + (13 * (2 + 1) + 43) ≤ R.locals) (hRcells : cells + 1 ≤ R.cells) (hRslots : slots + 6 ≤ R.slots) (hc : cells + 1 ≤ mc) (hs : slots + 6 ≤ ms) : W p l e R s m args below meth c H locs cells slots (vx_MQ below Qc (tw_XC px s.heap.size) args s mc ms free) (F0 m pc ls rest) := by
  obtain ⟨a, hstr⟩ := hstr
  exact vx_throwS S.1 S.2.1 hl S.2.2.2.1 (by decide +kernel) (by decide +kernel) (S.2.2.2.2 _ wc_X0_79) (S.2.2.2.2 _ wi_IllegalArgumentException) hstr (tw_hatA S.2.2.2.2 (tw_cast (s := s) (Vm.Alike.refl s.vm) Z.2.2.1.1) (tw_decl (s := s) (Vm.Alike.refl s.vm) Z.2.2.1.2.2.1) (tw_decl (s := s) (Vm.Alike.refl s.vm) Z.2.2.1.2.2.2.1) (tw_decl (s := s) (Vm.Alike.refl s.vm) Z.2.2.1.2.2.2.2)) tw_goodA Z.1 Z.2.1 z (hsize.trans S.2.2.1.symm) d0 d3 d4 d6 d9 (fun x h => (ht x h).elim) hRframes hRlocals hRcells hRslots hlk (fun t _ h1 h2 => tw_xcx hp rfl z h1 h2) (fun q hq => hfree _ (z.2.2 q hq)) hc hs
theorem tw_throwB {is : Nat} {text : String} (S : CallFix p m c cc nL s args tw_wall RX0) (hl : l.stackTraces = false) (ht : ∀ x ∈ c.exceptionTable.toList, False) (hlk : meth.locks = false) (Z : tw_Z (fun q => s.heap.size ≤ q) s) (hstr : ∃ a, vk_R RX0 is text a s) (z : va_S (fun q => s.heap.size ≤ q) s.heap H locs) (hsize : ls.size = nL) (hp : px 2) (hfree : ∀ q, s.heap.size ≤ q → free q)
    (d0 : decode cc pc = .ok (.new 95, 3)) (d3 : decode cc (pc + 3) = .ok (.dup, 1)) (d4 : decode cc (pc + 4) = .ok (.ldc is, 2)) (d6 : decode cc (pc + 6) = .ok (.invokespecial 99, 3)) (d9 : decode cc (pc + 9) = .ok (.athrow, 1))
    (hRframes : 2 + 3 < R.frames) (hRlocals : (rest.map fun v => v.category).sum + (13 * (2 + 1) + 43) ≤ R.locals) (hRcells : cells + 1 ≤ R.cells) (hRslots : slots + 6 ≤ R.slots) (hc : cells + 1 ≤ mc) (hs : slots + 6 ≤ ms) : W p l e R s m args below meth c H locs cells slots (vx_MQ below Qc (tw_XC px s.heap.size) args s mc ms free) (F0 m pc ls rest) := by
  obtain ⟨a, hstr⟩ := hstr
  exact vx_throwS S.1 S.2.1 hl S.2.2.2.1 (by decide +kernel) (by decide +kernel) (S.2.2.2.2 _ wc_X0_95) (S.2.2.2.2 _ wi_IllegalStateException) hstr (tw_hatB S.2.2.2.2 (tw_cast (s := s) (Vm.Alike.refl s.vm) Z.2.2.1.2.1) (tw_decl (s := s) (Vm.Alike.refl s.vm) Z.2.2.1.2.2.1) (tw_decl (s := s) (Vm.Alike.refl s.vm) Z.2.2.1.2.2.2.1) (tw_decl (s := s) (Vm.Alike.refl s.vm) Z.2.2.1.2.2.2.2)) tw_goodB Z.1 Z.2.1 z (hsize.trans S.2.2.1.symm) d0 d3 d4 d6 d9 (fun x h => (ht x h).elim) hRframes hRlocals hRcells hRslots hlk (fun t _ h1 h2 => tw_xcx hp rfl z h1 h2) (fun q hq => hfree _ (z.2.2 q hq)) hc hs
/-- a static check is called: it goes on, nothing changed, or leaves with what it throws -/
theorem tw_chk (S : CallFix p m c cc nL s args tw_wall RX0) (ht : ∀ x ∈ c.exceptionTable.toList, False) (hlk : meth.locks = false) (Z : tw_Z (fun q => s.heap.size ≤ q) s) (z : va_S (fun q => s.heap.size ≤ q) s.heap H locs) (hfree : ∀ q, s.heap.size ≤ q → free q) {P : Prop} {PX : Nat → Prop}
    (hM : vx_Met l y (Cond.code y bytes maxL ret :: tw_wall) rm (va_Pc As (fun U => U.heap.size = H.size ∧ tw_Z (fun q => H.size ≤ q) U)) (va_Qv (fun _ : Unit => P) (fun _ _ => True) (fun q => H.size ≤ q)) (tw_XC PX H.size) 1 6 (fun q => H.size ≤ q))
    (g : GoodIn tw_wall (va_wsS RX0 index y (Cond.code y bytes maxL ret :: tw_wall))) (hrc : rm.cells = 1) (hrs : rm.slots = 6) (hd : y.cls ≠ "java/lang/invoke/MethodHandle" ∧ y.cls ≠ "java/lang/invoke/VarHandle" ∧ (parseMethodDescriptor y.desc).map (fun d => d.parameters.length) = some n) (hR : rm.frames + 1 ≤ R.frames ∧ 8 + (maxL + 11) + rm.locals ≤ R.locals) (hn : As.length = n) (hsize : ls.size = nL) (hst : st0 = As.reverse ++ rest) (hW : (rest.map fun v => v.category).sum ≤ 8) (hdg : decode cc pc = .ok (.invokestatic index, 3)) (hf : cells + 1 ≤ R.cells ∧ slots + 6 ≤ R.slots) (hc : cells + 1 ≤ mc) (hs : slots + 6 ≤ ms) (hpx : ∀ u, PX u → px u)
    (kk : ∀ (H1 : Heap) (locs1 : List Loc), P → (∀ q : Nat, q < H.size → H1[q]? = H[q]?) → va_S (fun q => s.heap.size ≤ q) s.heap H1 locs1 → W p l e R s m args below meth c H1 locs1 (cells + 1) (slots + 6) (vx_MQ below Qc (tw_XC px s.heap.size) args s mc ms free) (F0 m (pc + 3) ls rest)) : W p l e R s m args below meth c H locs cells slots (vx_MQ below Qc (tw_XC px s.heap.size) args s mc ms free) (F0 m pc ls st0) := by
  have ok : ∀ w ∈ va_wsS RX0 index y (Cond.code y bytes maxL ret :: tw_wall), w.before args s = true := fun w h => S.2.2.2.2 w (g w h).1
  have hG : GoodIn tw_wall (Cond.code y bytes maxL ret :: tw_wall) := fun w h => g w (by unfold va_wsS; exact List.mem_append_right _ h)
  have cb : CallB R s args RX0 index y bytes maxL ret (Cond.code y bytes maxL ret :: tw_wall) rm 1 6 n := callB_of n S.2.2.2.2 hG rfl hrc hrs (ok _ (by simp [va_wsS])) (ok _ (by simp [va_wsS])) hd hR
  refine vx_callv (A0 := fun q => s.heap.size ≤ q) (vx_runS (As := As) (rest := rest) S hM ⟨cb, ok _ (by simp [va_wsS])⟩ ⟨fun a U g9 mk q => ⟨q.1, q.2.1, q.2.2.blind⟩, fun U hU hW => ⟨rfl, by rw [hU], Z.at z hU hW (fun q h => Nat.le_trans z.1 h)⟩⟩ rfl hn hsize hst (lv_room hW) hdg hf) z (fun q h1 h2 => absurd h1 (Nat.not_lt.mpr h2)) (fun q h => Nat.le_trans z.1 h) (fun q h1 h2 => absurd h1 (Nat.not_lt.mpr h2)) (fun E ce q9 u t H1 l1 h1 hvm hp hE hz1 hk1 hS hce hcv hcl => ?_) (fun u t H1 l1 h1 hvm hp hB hz1 hk1 hS => ?_)
  · exact vx_out (fun x h => (ht x h).elim) hlk hce hcv hcl (fun t2 h2 _ => tw_xcx (hpx u hp) hE hS (by rw [h2]; exact Nat.le_refl _) (fun q _ => by rw [h2])) (fun q hq => hfree _ (hS.2.2 q hq)) hc hs
  · exact kk H1 l1 hp (fun q hq => hk1 q hq (Nat.not_le.mpr hq)) hS
/-- a check on the object (checkRoom) -/
theorem tw_chv (S : CallFix p m c cc nL s args tw_wall RX0) (ht : ∀ x ∈ c.exceptionTable.toList, False) (hlk : meth.locks = false) (w : TWX D cI cJ x ad st A s.heap H locs s) (hA : ∀ q, s.heap.size ≤ q → A q) (Z : tw_Z (fun q => s.heap.size ≤ q) s) (z : va_S (fun q => s.heap.size ≤ q) s.heap H locs) (hfree : ∀ q, s.heap.size ≤ q → free q) {P : Prop} {PX : Nat → Prop}
    (hM : vx_Met l y (Cond.code y bytes maxL ret :: tw_wall) rm (va_Pc (.ref x :: As) (fun U => U.heap.size = H.size ∧ tw_Z (fun q => H.size ≤ q) U ∧ tw_XU D cI cJ x ad st U)) (va_Qv (fun _ : Unit => P) (fun _ _ => True) (fun q => H.size ≤ q)) (tw_XC PX H.size) 1 6 (fun q => H.size ≤ q))
    (g : GoodIn tw_wall (wsV RX0 index RX0 y (Cond.code y bytes maxL ret :: tw_wall))) (hrc : rm.cells = 1) (hrs : rm.slots = 6) (hd : y.cls = RX0 ∧ y.cls ≠ "java/lang/invoke/MethodHandle" ∧ y.cls ≠ "java/lang/invoke/VarHandle" ∧ (parseMethodDescriptor y.desc).map (fun d => d.parameters.length) = some n) (hR : rm.frames + 1 ≤ R.frames ∧ 8 + (maxL + 11) + rm.locals ≤ R.locals) (hn : As.length = n) (hsize : ls.size = nL) (hst : st0 = As.reverse ++ .ref x :: rest) (hW : (rest.map fun v => v.category).sum ≤ 8) (hdg : decode cc pc = .ok (.invokevirtual index, 3)) (hf : cells + 1 ≤ R.cells ∧ slots + 6 ≤ R.slots) (hc : cells + 1 ≤ mc) (hs : slots + 6 ≤ ms) (hpx : ∀ u, PX u → px u)
    (kk : ∀ (H1 : Heap) (locs1 : List Loc), P → TWX D cI cJ x ad st A s.heap H1 locs1 s → va_S (fun q => s.heap.size ≤ q) s.heap H1 locs1 → W p l e R s m args below meth c H1 locs1 (cells + 1) (slots + 6) (vx_MQ below Qc (tw_XC px s.heap.size) args s mc ms free) (F0 m (pc + 3) ls rest)) : W p l e R s m args below meth c H locs cells slots (vx_MQ below Qc (tw_XC px s.heap.size) args s mc ms free) (F0 m pc ls st0) := by
  refine vx_callv (A0 := fun q => s.heap.size ≤ q) (vx_runV (As := As) (rest := rest) S hM (cwV n S.2.2.2.2 g rfl hrc hrs hd hR) ⟨fun a U g9 mk q => ⟨q.1, q.2.1, q.2.2.1.blind, q.2.2.2.blind⟩, va_recv w.1 w.2.1 (ci := 0) (q0 := 0) rfl rfl, fun U hU hW => ⟨rfl, by rw [hU], Z.at z hU hW (fun q h => Nat.le_trans z.1 h), w.U hU hW⟩⟩ rfl hn hsize hst (lv_room hW) hdg hf) z (fun q h1 h2 => absurd h1 (Nat.not_lt.mpr h2)) (fun q h => Nat.le_trans z.1 h) (fun q h1 h2 => absurd h1 (Nat.not_lt.mpr h2)) (fun E ce q9 u t H1 l1 h1 hvm hp hE hz1 hk1 hS hce hcv hcl => ?_) (fun u t H1 l1 h1 hvm hp hB hz1 hk1 hS => ?_)
  · exact vx_out (fun x h => (ht x h).elim) hlk hce hcv hcl (fun t2 h2 _ => tw_xcx (hpx u hp) hE hS (by rw [h2]; exact Nat.le_refl _) (fun q _ => by rw [h2])) (fun q hq => hfree _ (hS.2.2 q hq)) hc hs
  · exact kk H1 l1 hp (w.kept (fun q hq => hk1 q hq (Nat.not_le.mpr hq)) (tw_mono hS hA)) hS
/-- .. that answers a number (placeToRead) -/
theorem tw_chi {mc1 ms1 : Nat} (S : CallFix p m c cc nL s args tw_wall RX0) (ht : ∀ x ∈ c.exceptionTable.toList, False) (hlk : meth.locks = false) (w : TWX D cI cJ x ad st A s.heap H locs s) (hA : ∀ q, s.heap.size ≤ q → A q) (Z : tw_Z (fun q => s.heap.size ≤ q) s) (z : va_S (fun q => s.heap.size ≤ q) s.heap H locs) (hfree : ∀ q, s.heap.size ≤ q → free q) {P : Int32 → Prop} {PX : Nat → Prop}
    (hM : vx_Met l y (Cond.code y bytes maxL ret :: tw_wall) rm (va_Pc (.ref x :: As) (fun U => U.heap.size = H.size ∧ tw_Z (fun q => H.size ≤ q) U ∧ tw_XU D cI cJ x ad st U)) (va_Qi (fun r (_ : Unit) => P r) (fun _ _ => True) (fun q => H.size ≤ q)) (tw_XC PX H.size) mc1 ms1 (fun q => H.size ≤ q))
    (g : GoodIn tw_wall (wsV RX0 index RX0 y (Cond.code y bytes maxL ret :: tw_wall))) (hrc : rm.cells = mc1) (hrs : rm.slots = ms1) (hd : y.cls = RX0 ∧ y.cls ≠ "java/lang/invoke/MethodHandle" ∧ y.cls ≠ "java/lang/invoke/VarHandle" ∧ (parseMethodDescriptor y.desc).map (fun d => d.parameters.length) = some n) (hR : rm.frames + 1 ≤ R.frames ∧ 8 + (maxL + 11) + rm.locals ≤ R.locals) (hn : As.length = n) (hsize : ls.size = nL) (hst : st0 = As.reverse ++ .ref x :: rest) (hW : (rest.map fun v => v.category).sum ≤ 8) (hdg : decode cc pc = .ok (.invokevirtual index, 3)) (hf : cells + mc1 ≤ R.cells ∧ slots + ms1 ≤ R.slots) (hc : cells + mc1 ≤ mc) (hs : slots + ms1 ≤ ms) (hpx : ∀ u, PX u → px u)
    (kk : ∀ (r : Int32) (H1 : Heap) (locs1 : List Loc), P r → TWX D cI cJ x ad st A s.heap H1 locs1 s → va_S (fun q => s.heap.size ≤ q) s.heap H1 locs1 → W p l e R s m args below meth c H1 locs1 (cells + mc1) (slots + ms1) (vx_MQ below Qc (tw_XC px s.heap.size) args s mc ms free) (F0 m (pc + 3) ls (.int r :: rest))) : W p l e R s m args below meth c H locs cells slots (vx_MQ below Qc (tw_XC px s.heap.size) args s mc ms free) (F0 m pc ls st0) := by
  refine vx_calli (A0 := fun q => s.heap.size ≤ q) (vx_runV (As := As) (rest := rest) S hM (cwV n S.2.2.2.2 g rfl hrc hrs hd hR) ⟨fun a U g9 mk q => ⟨q.1, q.2.1, q.2.2.1.blind, q.2.2.2.blind⟩, va_recv w.1 w.2.1 (ci := 0) (q0 := 0) rfl rfl, fun U hU hW => ⟨rfl, by rw [hU], Z.at z hU hW (fun q h => Nat.le_trans z.1 h), w.U hU hW⟩⟩ rfl hn hsize hst (lv_room hW) hdg hf) z (fun q h1 h2 => absurd h1 (Nat.not_lt.mpr h2)) (fun q h => Nat.le_trans z.1 h) (fun q h1 h2 => absurd h1 (Nat.not_lt.mpr h2)) (fun E ce q9 u t H1 l1 h1 hvm hp hE hz1 hk1 hS hce hcv hcl => ?_) (fun r u t H1 l1 h1 hvm hp hB hz1 hk1 hS => ?_)
  · exact vx_out (fun x h => (ht x h).elim) hlk hce hcv hcl (fun t2 h2 _ => tw_xcx (hpx u hp) hE hS (by rw [h2]; exact Nat.le_refl _) (fun q _ => by rw [h2])) (fun q hq => hfree _ (hS.2.2 q hq)) hc hs
  · exact kk r H1 l1 hp (w.kept (fun q hq => hk1 q hq (Nat.not_le.mpr hq)) (tw_mono hS hA)) hS
end TWT
end
section
theorem tw_inc (i : Nat) : nI i + Int32.ofInt 1 = nI (i + 1) := nI_1 i
theorem tw_b31 {a : Nat} (h : a < 2147483648) : a < 2 ^ 31 := h
theorem tw_le {a b : Nat} (ha : a < 2147483648) (hb : b < 2147483648) : nI a ≤ nI b ↔ a ≤ b := nI_leI ha hb
theorem tw_lt {a b : Nat} (ha : a < 2147483648) (hb : b < 2147483648) : nI a < nI b ↔ a < b := nI_ltI ha hb
theorem tw_eq {a b : Nat} (ha : a < 2147483648) (hb : b < 2147483648) : nI a = nI b ↔ a = b := nI_eq ha hb
set_option maxHeartbeats 4000000 in
set_option maxRecDepth 100000 in
/-- whether a copy shows a letter -/
theorem kX0_isShown (l : Launch) (D : va_G) (cI cJ : ClassId) (x : Nat) (ad : Nat → Nat) (st : Nat → Nat → Nat) (sz : Nat) {a i : Nat} (hc : a < 4) (hi : i < 512) (h16 : st 5 i < 16) : Met l yX0_isShown wsX0_isShown ({ frames := 0, cells := 0, slots := 0, locals := 0 }) (va_Pc [.ref x, .int (nI a), .int (nI i)] (fun U => U.heap.size = sz ∧ tw_XU D cI cJ x ad st U)) (va_Qi (fun r (_ : Unit) => (r = 1 ∧ (st 5 i).testBit a = true) ∨ (r = 0 ∧ (st 5 i).testBit a = false)) (fun _ _ => True) (fun q => sz ≤ q)) 0 0 (fun q => sz ≤ q) := by
  refine Met.ofW (cc := cX0_isShown) (maxL := 3) (ret := (some .boolean)) (by decide) rfl ?_
  intro p e s m args below meth cd s₁ B hml hv
  obtain ⟨rfl, hsz, hU⟩ := hv
  subst hsz
  have S : CallFix p m cd cX0_isShown 3 s ([.ref x, .int (nI a), .int (nI i)] : List Value).toArray tw_wall RX0 := ⟨B.exec, B.bytes, hml, findClass_of_methodNamed B.named, fun w h => atoms_spec (ws := wsX0_isShown) B.pre w (List.mem_cons_of_mem _ h)⟩
  have hr := B.returns
  have hlk := B.notSynchronized
  have z : va_S (fun q => s.heap.size ≤ q) s.heap s.heap [] := va_S.rf
  have w := tw_X0 hU
  have hA : ∀ q : Nat, s.heap.size ≤ q → va_A (tw_x cI cJ x ad st) s.heap.size q := fun q h => Or.inr h
  generalize va_A (tw_x cI cJ x ad st) s.heap.size = A at w hA
  have hl := lv_entry ([.ref x, .int (nI a), .int (nI i)]) (n := 3) (Nat.le_of_ble_eq_true rfl)
  rw [lg_entry_eq]
  generalize (lg_sl ([.ref x, .int (nI a), .int (nI i)]) ++ List.replicate (3 - (lg_sl ([.ref x, .int (nI a), .int (nI i)])).length) Slot.unset).toArray = ls at hl ⊢
  have hl : lv_has ls 3 [(0, .ref x), (1, .int (nI a)), (2, .int (nI i))] := hl
  refine lv_aload_n S.1 S.2.1 dX0_isShown_0 rfl (lv_at hl 0 rfl) ?_
  refine xxg_shownIn S w dX0_isShown_1 ?_
  refine lv_iload_n S.1 S.2.1 dX0_isShown_4 rfl (lv_at hl 2 rfl) ?_
  refine xxl_5 S w (by omega) dX0_isShown_5 ?_
  refine lv_iconst (v := 1) S.1 S.2.1 dX0_isShown_6 (by decide) ?_
  refine lv_iload_n S.1 S.2.1 dX0_isShown_7 rfl (lv_at hl 1 rfl) ?_
  refine lv_ishl S.1 S.2.1 dX0_isShown_8 ?_
  refine lv_iand S.1 S.2.1 dX0_isShown_9 ?_
  refine lv_if_eq (tgt := 17) S.1 S.2.1 dX0_isShown_10 (by decide) (fun h10 => ?_) (fun h10 => ?_)
  · refine lv_iconst (v := 0) S.1 S.2.1 dX0_isShown_17 (by decide) ?_
    exact tw_iro S hr rfl hlk z (by first | exact Or.inr ⟨rfl, (tw_bit_i _ h16 _ hc).mp h10⟩ | exact Or.inl ⟨rfl, by cases hb : (st 5 i).testBit a with | true => rfl | false => exact absurd ((tw_bit_i _ h16 _ hc).mpr hb) h10⟩) dX0_isShown_18
  · refine lv_iconst (v := 1) S.1 S.2.1 dX0_isShown_13 (by decide) ?_
    refine lv_goto (tgt := 18) S.1 S.2.1 dX0_isShown_14 (by decide) ?_
    exact tw_iro S hr rfl hlk z (by first | exact Or.inr ⟨rfl, (tw_bit_i _ h16 _ hc).mp h10⟩ | exact Or.inl ⟨rfl, by cases hb : (st 5 i).testBit a with | true => rfl | false => exact absurd ((tw_bit_i _ h16 _ hc).mpr hb) h10⟩) dX0_isShown_18
set_option maxHeartbeats 4000000 in
set_option maxRecDepth 100000 in
/-- whether a copy has a change -/
theorem kX0_isIn (l : Launch) (D : va_G) (cI cJ : ClassId) (x : Nat) (ad : Nat → Nat) (st : Nat → Nat → Nat) (sz : Nat) {a i : Nat} (hc : a < 4) (hi : i < 512) (hm : st 0 i < 4) (hb1 : st 1 i < 2147483648) (hb2 : st (24 + a) (st 0 i) < 2147483648) : Met l yX0_isIn wsX0_isIn ({ frames := 0, cells := 0, slots := 0, locals := 0 }) (va_Pc [.ref x, .int (nI a), .int (nI i)] (fun U => U.heap.size = sz ∧ tw_XU D cI cJ x ad st U)) (va_Qi (fun r (_ : Unit) => (r = 1 ∧ tw_has st a i) ∨ (r = 0 ∧ ¬ tw_has st a i)) (fun _ _ => True) (fun q => sz ≤ q)) 0 0 (fun q => sz ≤ q) := by
  refine Met.ofW (cc := cX0_isIn) (maxL := 3) (ret := (some .boolean)) (by decide) rfl ?_
  intro p e s m args below meth cd s₁ B hml hv
  obtain ⟨rfl, hsz, hU⟩ := hv
  subst hsz
  have S : CallFix p m cd cX0_isIn 3 s ([.ref x, .int (nI a), .int (nI i)] : List Value).toArray tw_wall RX0 := ⟨B.exec, B.bytes, hml, findClass_of_methodNamed B.named, fun w h => atoms_spec (ws := wsX0_isIn) B.pre w (List.mem_cons_of_mem _ h)⟩
  have hr := B.returns
  have hlk := B.notSynchronized
  have z : va_S (fun q => s.heap.size ≤ q) s.heap s.heap [] := va_S.rf
  have w := tw_X0 hU
  have hA : ∀ q : Nat, s.heap.size ≤ q → va_A (tw_x cI cJ x ad st) s.heap.size q := fun q h => Or.inr h
  generalize va_A (tw_x cI cJ x ad st) s.heap.size = A at w hA
  have hl := lv_entry ([.ref x, .int (nI a), .int (nI i)]) (n := 3) (Nat.le_of_ble_eq_true rfl)
  rw [lg_entry_eq]
  generalize (lg_sl ([.ref x, .int (nI a), .int (nI i)]) ++ List.replicate (3 - (lg_sl ([.ref x, .int (nI a), .int (nI i)])).length) Slot.unset).toArray = ls at hl ⊢
  have hl : lv_has ls 3 [(0, .ref x), (1, .int (nI a)), (2, .int (nI i))] := hl
  refine lv_aload_n S.1 S.2.1 dX0_isIn_0 rfl (lv_at hl 0 rfl) ?_
  refine xxg_number S w dX0_isIn_1 ?_
  refine lv_iload_n S.1 S.2.1 dX0_isIn_4 rfl (lv_at hl 2 rfl) ?_
  refine xxl_1 S w (by omega) dX0_isIn_5 ?_
  refine lv_aload_n S.1 S.2.1 dX0_isIn_6 rfl (lv_at hl 0 rfl) ?_
  refine xxg_known S w dX0_isIn_7 ?_
  refine lv_iload_n S.1 S.2.1 dX0_isIn_10 rfl (lv_at hl 1 rfl) ?_
  refine xxr_12 S w (by omega) dX0_isIn_11 ?_
  refine lv_aload_n S.1 S.2.1 dX0_isIn_12 rfl (lv_at hl 0 rfl) ?_
  refine xxg_maker S w dX0_isIn_13 ?_
  refine lv_iload_n S.1 S.2.1 dX0_isIn_16 rfl (lv_at hl 2 rfl) ?_
  refine xxl_0 S w (by omega) dX0_isIn_17 ?_
  refine xxl_24 S w (by omega) (by omega) dX0_isIn_18 ?_
  refine lv_icmp_ge (tgt := 26) S.1 S.2.1 dX0_isIn_19 (by decide) (fun h19 => ?_) (fun h19 => ?_)
  · refine lv_iconst (v := 0) S.1 S.2.1 dX0_isIn_26 (by decide) ?_
    exact tw_iro S hr rfl hlk z (by first | exact Or.inr ⟨rfl, fun q => by have := (tw_le hb2 hb1).mp h19; unfold tw_has at q; omega⟩ | exact Or.inl ⟨rfl, by unfold tw_has; exact Nat.not_le.mp (fun g => h19 ((tw_le hb2 hb1).mpr g))⟩) dX0_isIn_27
  · refine lv_iconst (v := 1) S.1 S.2.1 dX0_isIn_22 (by decide) ?_
    refine lv_goto (tgt := 27) S.1 S.2.1 dX0_isIn_23 (by decide) ?_
    exact tw_iro S hr rfl hlk z (by first | exact Or.inr ⟨rfl, fun q => by have := (tw_le hb2 hb1).mp h19; unfold tw_has at q; omega⟩ | exact Or.inl ⟨rfl, by unfold tw_has; exact Nat.not_le.mp (fun g => h19 ((tw_le hb2 hb1).mpr g))⟩) dX0_isIn_27
set_option maxHeartbeats 4000000 in
set_option maxRecDepth 100000 in
/-- whether a change can come to a copy -/
theorem kX0_canCome (l : Launch) (D : va_G) (cI cJ : ClassId) (x : Nat) (ad : Nat → Nat) (st : Nat → Nat → Nat) (sz : Nat) {a i : Nat} (hc : a < 4) (hi : i < 512) (hb1 : ∀ j, j < 4 → st (16 + j) i < 2147483648) (hb2 : ∀ j, j < 4 → st (24 + a) j < 2147483648) : Met l yX0_canCome wsX0_canCome ({ frames := 0, cells := 0, slots := 0, locals := 0 }) (va_Pc [.ref x, .int (nI a), .int (nI i)] (fun U => U.heap.size = sz ∧ tw_XU D cI cJ x ad st U)) (va_Qi (fun r (_ : Unit) => (r = 1 ∧ ∀ j, j < 4 → st (16 + j) i ≤ st (24 + a) j) ∨ (r = 0 ∧ ¬ ∀ j, j < 4 → st (16 + j) i ≤ st (24 + a) j)) (fun _ _ => True) (fun q => sz ≤ q)) 0 0 (fun q => sz ≤ q) := by
  refine Met.ofW (cc := cX0_canCome) (maxL := 4) (ret := (some .boolean)) (by decide) rfl ?_
  intro p e s m args below meth cd s₁ B hml hv
  obtain ⟨rfl, hsz, hU⟩ := hv
  subst hsz
  have S : CallFix p m cd cX0_canCome 4 s ([.ref x, .int (nI a), .int (nI i)] : List Value).toArray tw_wall RX0 := ⟨B.exec, B.bytes, hml, findClass_of_methodNamed B.named, fun w h => atoms_spec (ws := wsX0_canCome) B.pre w (List.mem_cons_of_mem _ h)⟩
  have hr := B.returns
  have hlk := B.notSynchronized
  have z : va_S (fun q => s.heap.size ≤ q) s.heap s.heap [] := va_S.rf
  have w := tw_X0 hU
  have hA : ∀ q : Nat, s.heap.size ≤ q → va_A (tw_x cI cJ x ad st) s.heap.size q := fun q h => Or.inr h
  generalize va_A (tw_x cI cJ x ad st) s.heap.size = A at w hA
  have hl := lv_entry ([.ref x, .int (nI a), .int (nI i)]) (n := 4) (Nat.le_of_ble_eq_true rfl)
  rw [lg_entry_eq]
  generalize (lg_sl ([.ref x, .int (nI a), .int (nI i)]) ++ List.replicate (4 - (lg_sl ([.ref x, .int (nI a), .int (nI i)])).length) Slot.unset).toArray = ls at hl ⊢
  have hl : lv_has ls 4 [(0, .ref x), (1, .int (nI a)), (2, .int (nI i))] := hl
  have loop : ∀ (n : Nat) (k : Nat) (H : Heap) (locs : List Loc) (ls : Array Slot), k ≤ 4 → 4 - k < n → (∀ j, j < k → st (16 + j) i ≤ st (24 + a) j) → TWX D cI cJ x ad st A s.heap H locs s → va_S (fun q => s.heap.size ≤ q) s.heap H locs → lv_has ls 4 [(3, .int (nI k)), (0, .ref x), (1, .int (nI a)), (2, .int (nI i))] → W p l e (headSpec wsX0_canCome ({ frames := 0, cells := 0, slots := 0, locals := 0 })).room s m ([.ref x, .int (nI a), .int (nI i)] : List Value).toArray below meth cd H locs 0 0 (MQ below (va_Qi (fun r (_ : Unit) => (r = 1 ∧ ∀ j, j < 4 → st (16 + j) i ≤ st (24 + a) j) ∨ (r = 0 ∧ ¬ ∀ j, j < 4 → st (16 + j) i ≤ st (24 + a) j)) (fun _ _ => True) (fun q => s.heap.size ≤ q)) ([.ref x, .int (nI a), .int (nI i)] : List Value).toArray s 0 0 (fun q => s.heap.size ≤ q)) (F0 m 2 ls []) := by
    intro n
    induction n with
    | zero => intros; omega
    | succ n ih =>
      intro k H locs ls hk hm hin w z hl
      refine lv_iload_n S.1 S.2.1 dX0_canCome_2 rfl (lv_at hl 0 rfl) ?_
      refine lv_iconst (v := nI 4) S.1 S.2.1 dX0_canCome_3 (by decide) ?_
      refine lv_icmp_ge (tgt := 34) S.1 S.2.1 dX0_canCome_4 (by decide) (fun h4 => ?_) (fun h4 => ?_)
      · have hk4 : k = 4 := by have := (tw_le (by omega) (by omega)).mp h4; omega
        refine lv_iconst (v := 1) S.1 S.2.1 dX0_canCome_34 (by decide) ?_
        exact tw_iro S hr rfl hlk z (Or.inl ⟨rfl, fun j hj => hin j (by omega)⟩) dX0_canCome_35
      · have hk4 : k < 4 := Nat.not_le.mp (fun g => h4 ((tw_le (by omega) (by omega)).mpr g))
        refine lv_aload_n S.1 S.2.1 dX0_canCome_7 rfl (lv_at hl 1 rfl) ?_
        refine xxg_known S w dX0_canCome_8 ?_
        refine lv_iload_n S.1 S.2.1 dX0_canCome_11 rfl (lv_at hl 2 rfl) ?_
        refine xxr_12 S w (by omega) dX0_canCome_12 ?_
        refine lv_iload_n S.1 S.2.1 dX0_canCome_13 rfl (lv_at hl 0 rfl) ?_
        refine xxl_24 S w (by omega) (by omega) dX0_canCome_14 ?_
        refine lv_aload_n S.1 S.2.1 dX0_canCome_15 rfl (lv_at hl 1 rfl) ?_
        refine xxg_had S w dX0_canCome_16 ?_
        refine lv_iload_n S.1 S.2.1 dX0_canCome_19 rfl (lv_at hl 0 rfl) ?_
        refine xxr_10 S w (by omega) dX0_canCome_20 ?_
        refine lv_iload_n S.1 S.2.1 dX0_canCome_21 rfl (lv_at hl 3 rfl) ?_
        refine xxl_16 S w (by omega) (by omega) dX0_canCome_22 ?_
        refine lv_icmp_ge (tgt := 28) S.1 S.2.1 dX0_canCome_23 (by decide) (fun h23 => ?_) (fun h23 => ?_)
        · refine lv_iinc S.1 S.2.1 dX0_canCome_28 hl (k := 0) rfl (tw_inc _) (by decide) rfl (fun ls hl => ?_)
          refine lv_goto (tgt := 2) S.1 S.2.1 dX0_canCome_31 (by decide) ?_
          exact ih (k + 1) H locs ls (by omega) (by omega) (fun j hj => by rcases Nat.lt_or_ge j k with g | g; exact hin j g; rw [show j = k by omega]; exact (tw_le (hb1 k hk4) (hb2 k hk4)).mp h23) w z (lv_sub hl [0, 1, 2, 3] rfl)
        · refine lv_iconst (v := 0) S.1 S.2.1 dX0_canCome_26 (by decide) ?_
          exact tw_iro S hr rfl hlk z (Or.inr ⟨rfl, fun q => h23 ((tw_le (hb1 k hk4) (hb2 k hk4)).mpr (q k hk4))⟩) dX0_canCome_27
  refine lv_iconst (v := nI 0) S.1 S.2.1 dX0_canCome_0 (by decide) ?_
  refine lv_istore_n S.1 S.2.1 dX0_canCome_1 rfl hl (by decide) rfl (fun ls hl => ?_)
  exact loop 5 0 _ _ _ (by omega) (by omega) (fun j hj => by omega) w z (lv_sub hl [0, 1, 2, 3] rfl)
set_option maxHeartbeats 4000000 in
set_option maxRecDepth 100000 in
/-- the place of letter t of the text in the order -/
theorem kX0_placeOf (l : Launch) (D : va_G) (cI cJ : ClassId) (x : Nat) (ad : Nat → Nat) (st : Nat → Nat → Nat) (sz : Nat) {a : Nat} {t : Int32} (hc : a < 4) (hlt : st 9 1 ≤ 512) (hod : ∀ p, p < st 9 1 → st 6 p < 512) (h16 : ∀ i, st 5 i < 16) : Met l yX0_placeOf wsX0_placeOf ({ frames := 1, cells := 0, slots := 0, locals := 22 }) (va_Pc [.ref x, .int (nI a), .int t] (fun U => U.heap.size = sz ∧ tw_XU D cI cJ x ad st U)) (va_Qi (fun r (_ : Unit) => (∃ p, p < st 9 1 ∧ tw_f st a p = true ∧ t = nI (tw_cn (tw_f st a) p) ∧ r = nI p) ∨ (r = -1 ∧ ∀ p, p < st 9 1 → tw_f st a p = true → t ≠ nI (tw_cn (tw_f st a) p))) (fun _ _ => True) (fun q => sz ≤ q)) 0 0 (fun q => sz ≤ q) := by
  refine Met.ofW (cc := cX0_placeOf) (maxL := 5) (ret := (some .int)) (by decide) rfl ?_
  intro p e s m args below meth cd s₁ B hml hv
  obtain ⟨rfl, hsz, hU⟩ := hv
  subst hsz
  have S : CallFix p m cd cX0_placeOf 5 s ([.ref x, .int (nI a), .int t] : List Value).toArray tw_wall RX0 := ⟨B.exec, B.bytes, hml, findClass_of_methodNamed B.named, fun w h => atoms_spec (ws := wsX0_placeOf) B.pre w (List.mem_cons_of_mem _ h)⟩
  have hr := B.returns
  have hlk := B.notSynchronized
  have z : va_S (fun q => s.heap.size ≤ q) s.heap s.heap [] := va_S.rf
  have w := tw_X0 hU
  have hA : ∀ q : Nat, s.heap.size ≤ q → va_A (tw_x cI cJ x ad st) s.heap.size q := fun q h => Or.inr h
  generalize va_A (tw_x cI cJ x ad st) s.heap.size = A at w hA
  have hl := lv_entry ([.ref x, .int (nI a), .int t]) (n := 5) (Nat.le_of_ble_eq_true rfl)
  rw [lg_entry_eq]
  generalize (lg_sl ([.ref x, .int (nI a), .int t]) ++ List.replicate (5 - (lg_sl ([.ref x, .int (nI a), .int t])).length) Slot.unset).toArray = ls at hl ⊢
  have hl : lv_has ls 5 [(0, .ref x), (1, .int (nI a)), (2, .int t)] := hl
  have loop : ∀ (n : Nat) (q b : Nat) (H : Heap) (locs : List Loc) (ls : Array Slot), q ≤ st 9 1 → st 9 1 - q < n → b = tw_cn (tw_f st a) q → (∀ j, j < q → tw_f st a j = true → t ≠ nI (tw_cn (tw_f st a) j)) → TWX D cI cJ x ad st A s.heap H locs s → va_S (fun q => s.heap.size ≤ q) s.heap H locs → lv_has ls 5 [(4, .int (nI q)), (3, .int (nI b)), (0, .ref x), (1, .int (nI a)), (2, .int t)] → W p l e (headSpec wsX0_placeOf ({ frames := 1, cells := 0, slots := 0, locals := 22 })).room s m ([.ref x, .int (nI a), .int t] : List Value).toArray below meth cd H locs 0 0 (MQ below (va_Qi (fun r (_ : Unit) => (∃ p, p < st 9 1 ∧ tw_f st a p = true ∧ t = nI (tw_cn (tw_f st a) p) ∧ r = nI p) ∨ (r = -1 ∧ ∀ p, p < st 9 1 → tw_f st a p = true → t ≠ nI (tw_cn (tw_f st a) p))) (fun _ _ => True) (fun q => s.heap.size ≤ q)) ([.ref x, .int (nI a), .int t] : List Value).toArray s 0 0 (fun q => s.heap.size ≤ q)) (F0 m 5 ls []) := by
    intro n
    induction n with
    | zero => intros; omega
    | succ n ih =>
      intro q b H locs ls hq0 hm hb hno w z hl
      refine lv_iload S.1 S.2.1 dX0_placeOf_5 (lv_at hl 0 rfl) ?_
      refine lv_aload_n S.1 S.2.1 dX0_placeOf_7 rfl (lv_at hl 2 rfl) ?_
      refine xxg_letters S w dX0_placeOf_8 ?_
      refine lv_icmp_ge (tgt := 46) S.1 S.2.1 dX0_placeOf_11 (by decide) (fun h11 => ?_) (fun h11 => ?_)
      · have hq : q = st 9 1 := by have := (tw_le (by omega) (by omega)).mp h11; omega
        refine lv_iconst (v := -1) S.1 S.2.1 dX0_placeOf_46 (by decide) ?_
        exact tw_iro S hr rfl hlk z (Or.inr ⟨rfl, fun j hj => hno j (by omega)⟩) dX0_placeOf_47
      · have hq : q < st 9 1 := Nat.not_le.mp (fun g => h11 ((tw_le (by omega) (by omega)).mpr g))
        refine lv_aload_n S.1 S.2.1 dX0_placeOf_14 rfl (lv_at hl 2 rfl) ?_
        refine lv_iload_n S.1 S.2.1 dX0_placeOf_15 rfl (lv_at hl 3 rfl) ?_
        refine lv_aload_n S.1 S.2.1 dX0_placeOf_16 rfl (lv_at hl 2 rfl) ?_
        refine xxg_order S w dX0_placeOf_17 ?_
        refine lv_iload S.1 S.2.1 dX0_placeOf_20 (lv_at hl 0 rfl) ?_
        refine xxl_6 S w (by omega) dX0_placeOf_22 ?_
        refine tw_cro (n := 2) S w z (fun q h => h) hA (kX0_isShown l D cI cJ x ad st _ hc (hod q hq) (h16 _)) (tw_gV wl_X0_110 wn_X0_isShown ws_X0_isShown wi_X0 wy_X0_isShown) rfl rfl (by decide +kernel) ⟨Nat.le_of_ble_eq_true rfl, Nat.le_of_ble_eq_true rfl⟩ rfl hl.1 rfl (Nat.le_of_ble_eq_true rfl) dX0_placeOf_23 ⟨Nat.le_of_ble_eq_true rfl, Nat.le_of_ble_eq_true rfl⟩ (fun r H locs hp w z => ?_)
        refine lv_if_eq (tgt := 40) S.1 S.2.1 dX0_placeOf_26 (by decide) (fun h26 => ?_) (fun h26 => ?_)
        · have hf : tw_f st a q = false := by exact hp.elim (fun g => absurd (g.1.symm.trans h26) (by decide)) (fun g => g.2)
          refine lv_iinc S.1 S.2.1 dX0_placeOf_40 hl (k := 0) rfl (tw_inc _) (by decide) rfl (fun ls hl => ?_)
          refine lv_goto (tgt := 5) S.1 S.2.1 dX0_placeOf_43 (by decide) ?_
          first
            | exact ih (q + 1) (b + 1) H locs ls (by omega) (by omega) (by rw [tw_cn_t hf, hb]) (fun j hj fj => by rcases Nat.lt_or_ge j q with g | g; exact hno j g fj; rw [show j = q by omega, ← hb]; exact fun z => h31 z.symm) w z (lv_sub hl [0, 1, 2, 3, 4] rfl)
            | exact ih (q + 1) b H locs ls (by omega) (by omega) (by rw [tw_cn_f hf, hb]) (fun j hj fj => by rcases Nat.lt_or_ge j q with g | g; exact hno j g fj; rw [show j = q by omega, hf] at fj; cases fj) w z (lv_sub hl [0, 1, 2, 3, 4] rfl)
        · have hf : tw_f st a q = true := by exact hp.elim (fun g => g.2) (fun g => absurd g.1 h26)
          refine lv_iload_n S.1 S.2.1 dX0_placeOf_29 rfl (lv_at hl 1 rfl) ?_
          refine lv_iload_n S.1 S.2.1 dX0_placeOf_30 rfl (lv_at hl 4 rfl) ?_
          refine lv_icmp_ne (tgt := 37) S.1 S.2.1 dX0_placeOf_31 (by decide) (fun h31 => ?_) (fun h31 => ?_)
          · refine lv_iinc S.1 S.2.1 dX0_placeOf_37 hl (k := 1) rfl (tw_inc _) (by decide) rfl (fun ls hl => ?_)
            refine lv_iinc S.1 S.2.1 dX0_placeOf_40 hl (k := 1) rfl (tw_inc _) (by decide) rfl (fun ls hl => ?_)
            refine lv_goto (tgt := 5) S.1 S.2.1 dX0_placeOf_43 (by decide) ?_
            first
              | exact ih (q + 1) (b + 1) H locs ls (by omega) (by omega) (by rw [tw_cn_t hf, hb]) (fun j hj fj => by rcases Nat.lt_or_ge j q with g | g; exact hno j g fj; rw [show j = q by omega, ← hb]; exact fun z => h31 z.symm) w z (lv_sub hl [0, 1, 2, 3, 4] rfl)
              | exact ih (q + 1) b H locs ls (by omega) (by omega) (by rw [tw_cn_f hf, hb]) (fun j hj fj => by rcases Nat.lt_or_ge j q with g | g; exact hno j g fj; rw [show j = q by omega, hf] at fj; cases fj) w z (lv_sub hl [0, 1, 2, 3, 4] rfl)
          · refine lv_iload S.1 S.2.1 dX0_placeOf_34 (lv_at hl 0 rfl) ?_
            exact tw_iro S hr rfl hlk z (Or.inl ⟨q, hq, hf, by rw [← h31, hb], rfl⟩) dX0_placeOf_36
  refine lv_iconst (v := nI 0) S.1 S.2.1 dX0_placeOf_0 (by decide) ?_
  refine lv_istore_n S.1 S.2.1 dX0_placeOf_1 rfl hl (by decide) rfl (fun ls hl => ?_)
  refine lv_iconst (v := nI 0) S.1 S.2.1 dX0_placeOf_2 (by decide) ?_
  refine lv_istore S.1 S.2.1 dX0_placeOf_3 hl (by decide) rfl (fun ls hl => ?_)
  exact loop (st 9 1 + 1) 0 0 _ _ _ (by omega) (by omega) rfl (fun j hj => by omega) w z (lv_sub hl [0, 1, 2, 3, 4] rfl)
end
section
theorem tw_max {a b : Nat} (ha : a < 2147483648) (hb : b < 2147483648) : (if nI a < nI b then nI b else nI a) = nI (max a b) := by
  by_cases h : a < b
  · rw [if_pos ((tw_lt ha hb).mpr h), Nat.max_eq_right (Nat.le_of_lt h)]
  · rw [if_neg (fun q => h ((tw_lt ha hb).mp q)), Nat.max_eq_left (Nat.not_lt.mp h)]
set_option maxHeartbeats 4000000 in
set_option maxRecDepth 100000 in
/-- a letter comes to a text -/
theorem kX0_showLetter (l : Launch) (D : va_G) (cI cJ : ClassId) (x : Nat) (ad : Nat → Nat) (st : Nat → Nat → Nat) (sz : Nat) {a i : Nat} (hc : a < 4) (hi : i < 512) (h16 : st 5 i < 16) (h4 : st 4 i < 2147483648) (h7 : st 7 a < 2147483648) : Met l yX0_showLetter wsX0_showLetter ({ frames := 1, cells := 0, slots := 0, locals := 22 }) (va_Pc [.ref x, .int (nI a), .int (nI i)] (fun U => U.heap.size = sz ∧ tw_XU D cI cJ x ad st U)) (va_Qv (fun u => u = tw_up (tw_up (tw_up st 5 i (tw_on (st 5 i) a)) 8 a (st 8 a + 1)) 7 a (max (st 7 a) (st 4 i / 4))) (tw_XT D cI cJ x ad (va_A (tw_x cI cJ x ad st) sz)) (va_A (tw_x cI cJ x ad st) sz)) 0 0 (va_A (tw_x cI cJ x ad st) sz) := by
  refine Met.ofW (cc := cX0_showLetter) (maxL := 3) (ret := none) (by decide) rfl ?_
  intro p e s m args below meth cd s₁ B hml hv
  obtain ⟨rfl, hsz, hU⟩ := hv
  subst hsz
  have S : CallFix p m cd cX0_showLetter 3 s ([.ref x, .int (nI a), .int (nI i)] : List Value).toArray tw_wall RX0 := ⟨B.exec, B.bytes, hml, findClass_of_methodNamed B.named, fun w h => atoms_spec (ws := wsX0_showLetter) B.pre w (List.mem_cons_of_mem _ h)⟩
  have hr := B.returns
  have hlk := B.notSynchronized
  have z : va_S (fun q => s.heap.size ≤ q) s.heap s.heap [] := va_S.rf
  have w := tw_X0 hU
  have hA : ∀ q : Nat, s.heap.size ≤ q → va_A (tw_x cI cJ x ad st) s.heap.size q := fun q h => Or.inr h
  generalize va_A (tw_x cI cJ x ad st) s.heap.size = A at w hA ⊢
  have hl := lv_entry ([.ref x, .int (nI a), .int (nI i)]) (n := 3) (Nat.le_of_ble_eq_true rfl)
  rw [lg_entry_eq]
  generalize (lg_sl ([.ref x, .int (nI a), .int (nI i)]) ++ List.replicate (3 - (lg_sl ([.ref x, .int (nI a), .int (nI i)])).length) Slot.unset).toArray = ls at hl ⊢
  have hl : lv_has ls 3 [(0, .ref x), (1, .int (nI a)), (2, .int (nI i))] := hl
  refine lv_aload_n S.1 S.2.1 dX0_showLetter_0 rfl (lv_at hl 0 rfl) ?_
  refine xxg_shownIn S w dX0_showLetter_1 ?_
  refine lv_iload_n S.1 S.2.1 dX0_showLetter_4 rfl (lv_at hl 2 rfl) ?_
  refine lv_dup2_11 S.1 S.2.1 dX0_showLetter_5 rfl rfl ?_
  refine xxl_5 S w (by omega) dX0_showLetter_6 ?_
  refine lv_iconst (v := 1) S.1 S.2.1 dX0_showLetter_7 (by decide) ?_
  refine lv_iload_n S.1 S.2.1 dX0_showLetter_8 rfl (lv_at hl 1 rfl) ?_
  refine lv_ishl S.1 S.2.1 dX0_showLetter_9 ?_
  refine lv_ior S.1 S.2.1 dX0_showLetter_10 ?_
  refine tw_t (tw_on_i _ h16 _ hc) ?_
  refine xxs_5 S w (by omega)  dX0_showLetter_11 (fun H locs w => ?_)
  refine lv_aload_n S.1 S.2.1 dX0_showLetter_12 rfl (lv_at hl 0 rfl) ?_
  refine xxg_lengths S w dX0_showLetter_13 ?_
  refine lv_iload_n S.1 S.2.1 dX0_showLetter_16 rfl (lv_at hl 1 rfl) ?_
  refine lv_dup2_11 S.1 S.2.1 dX0_showLetter_17 rfl rfl ?_
  refine xxl_8 S w (by omega) dX0_showLetter_18 ?_
  refine tw_t (show _ = nI (st 8 a) from rfl) ?_
  refine lv_iconst (v := nI 1) S.1 S.2.1 dX0_showLetter_19 (by decide) ?_
  refine lv_iadd S.1 S.2.1 dX0_showLetter_20 ?_
  refine tw_t (nI_add _ _) ?_
  refine xxs_8 S w (by omega)  dX0_showLetter_21 (fun H locs w => ?_)
  refine lv_aload_n S.1 S.2.1 dX0_showLetter_22 rfl (lv_at hl 0 rfl) ?_
  refine xxg_greatest S w dX0_showLetter_23 ?_
  refine lv_iload_n S.1 S.2.1 dX0_showLetter_26 rfl (lv_at hl 1 rfl) ?_
  refine lv_aload_n S.1 S.2.1 dX0_showLetter_27 rfl (lv_at hl 0 rfl) ?_
  refine xxg_greatest S w dX0_showLetter_28 ?_
  refine lv_iload_n S.1 S.2.1 dX0_showLetter_31 rfl (lv_at hl 1 rfl) ?_
  refine xxl_7 S w (by omega) dX0_showLetter_32 ?_
  refine tw_t (show _ = nI (st 7 a) from rfl) ?_
  refine lv_aload_n S.1 S.2.1 dX0_showLetter_33 rfl (lv_at hl 0 rfl) ?_
  refine xxg_names S w dX0_showLetter_34 ?_
  refine lv_iload_n S.1 S.2.1 dX0_showLetter_37 rfl (lv_at hl 2 rfl) ?_
  refine xxl_4 S w (by omega) dX0_showLetter_38 ?_
  refine tw_t (show _ = nI (st 4 i) from rfl) ?_
  refine lv_iconst (v := nI 4) S.1 S.2.1 dX0_showLetter_39 (by decide) ?_
  refine lv_idiv S.1 S.2.1 dX0_showLetter_40 (by decide) ?_
  refine tw_t (pk_div (a := st 4 i) (d := 4) h4 (by decide) (by decide)) ?_
  refine va_mmax S.1 S.2.1 (S.2.2.1.trans hl.1.symm) S.2.2.2.1 (S.2.2.2.2 _ wl_X0_125) (S.2.2.2.2 _ wt_max) (S.2.2.2.2 _ wi_Math) (S.2.2.2.2 _ wy_max) (Nat.le_of_ble_eq_true rfl) (Nat.le_of_ble_eq_true rfl) (Nat.le_of_ble_eq_true rfl) (Nat.le_of_ble_eq_true rfl) dX0_showLetter_41 ?_
  refine tw_t (tw_max h7 (by omega)) ?_
  refine xxs_7 S w (by omega)  dX0_showLetter_44 (fun H locs w => ?_)
  exact tw_vret S hr hlk w rfl dX0_showLetter_45
set_option maxHeartbeats 4000000 in
set_option maxRecDepth 100000 in
/-- a letter is taken out of a text -/
theorem kX0_hideLetter (l : Launch) (D : va_G) (cI cJ : ClassId) (x : Nat) (ad : Nat → Nat) (st : Nat → Nat → Nat) (sz : Nat) {a i : Nat} (hc : a < 4) (hi : i < 512) (h16 : st 5 i < 16) (h8 : (st 5 i).testBit a = true → 1 ≤ st 8 a) : Met l yX0_hideLetter wsX0_hideLetter ({ frames := 1, cells := 0, slots := 0, locals := 22 }) (va_Pc [.ref x, .int (nI a), .int (nI i)] (fun U => U.heap.size = sz ∧ tw_XU D cI cJ x ad st U)) (va_Qv (fun u => u = if (st 5 i).testBit a = true then tw_up (tw_up st 5 i (tw_off (st 5 i) a)) 8 a (st 8 a - 1) else st) (tw_XT D cI cJ x ad (va_A (tw_x cI cJ x ad st) sz)) (va_A (tw_x cI cJ x ad st) sz)) 0 0 (va_A (tw_x cI cJ x ad st) sz) := by
  refine Met.ofW (cc := cX0_hideLetter) (maxL := 3) (ret := none) (by decide) rfl ?_
  intro p e s m args below meth cd s₁ B hml hv
  obtain ⟨rfl, hsz, hU⟩ := hv
  subst hsz
  have S : CallFix p m cd cX0_hideLetter 3 s ([.ref x, .int (nI a), .int (nI i)] : List Value).toArray tw_wall RX0 := ⟨B.exec, B.bytes, hml, findClass_of_methodNamed B.named, fun w h => atoms_spec (ws := wsX0_hideLetter) B.pre w (List.mem_cons_of_mem _ h)⟩
  have hr := B.returns
  have hlk := B.notSynchronized
  have z : va_S (fun q => s.heap.size ≤ q) s.heap s.heap [] := va_S.rf
  have w := tw_X0 hU
  have hA : ∀ q : Nat, s.heap.size ≤ q → va_A (tw_x cI cJ x ad st) s.heap.size q := fun q h => Or.inr h
  generalize va_A (tw_x cI cJ x ad st) s.heap.size = A at w hA ⊢
  have hl := lv_entry ([.ref x, .int (nI a), .int (nI i)]) (n := 3) (Nat.le_of_ble_eq_true rfl)
  rw [lg_entry_eq]
  generalize (lg_sl ([.ref x, .int (nI a), .int (nI i)]) ++ List.replicate (3 - (lg_sl ([.ref x, .int (nI a), .int (nI i)])).length) Slot.unset).toArray = ls at hl ⊢
  have hl : lv_has ls 3 [(0, .ref x), (1, .int (nI a)), (2, .int (nI i))] := hl
  refine lv_aload_n S.1 S.2.1 dX0_hideLetter_0 rfl (lv_at hl 0 rfl) ?_
  refine lv_iload_n S.1 S.2.1 dX0_hideLetter_1 rfl (lv_at hl 1 rfl) ?_
  refine lv_iload_n S.1 S.2.1 dX0_hideLetter_2 rfl (lv_at hl 2 rfl) ?_
  refine tw_cro (n := 2) S w w.2.2.2 hA (fun q h => h) (kX0_isShown l D cI cJ x ad st _ hc hi h16) (tw_gV wl_X0_110 wn_X0_isShown ws_X0_isShown wi_X0 wy_X0_isShown) rfl rfl (by decide +kernel) ⟨Nat.le_of_ble_eq_true rfl, Nat.le_of_ble_eq_true rfl⟩ rfl hl.1 rfl (Nat.le_of_ble_eq_true rfl) dX0_hideLetter_3 ⟨Nat.le_of_ble_eq_true rfl, Nat.le_of_ble_eq_true rfl⟩ (fun r H locs hp w _ => ?_)
  refine lv_if_eq (tgt := 33) S.1 S.2.1 dX0_hideLetter_6 (by decide) (fun h6 => ?_) (fun h6 => ?_)
  · have hf : (st 5 i).testBit a = false := hp.elim (fun g => absurd (g.1.symm.trans h6) (by decide)) (fun g => g.2)
    exact tw_vret S hr hlk w (by rw [hf]; rfl) dX0_hideLetter_33
  · have hf : (st 5 i).testBit a = true := hp.elim (fun g => g.2) (fun g => absurd g.1 h6)
    refine lv_aload_n S.1 S.2.1 dX0_hideLetter_9 rfl (lv_at hl 0 rfl) ?_
    refine xxg_shownIn S w dX0_hideLetter_10 ?_
    refine lv_iload_n S.1 S.2.1 dX0_hideLetter_13 rfl (lv_at hl 2 rfl) ?_
    refine lv_dup2_11 S.1 S.2.1 dX0_hideLetter_14 rfl rfl ?_
    refine xxl_5 S w (by omega) dX0_hideLetter_15 ?_
    refine lv_iconst (v := 1) S.1 S.2.1 dX0_hideLetter_16 (by decide) ?_
    refine lv_iload_n S.1 S.2.1 dX0_hideLetter_17 rfl (lv_at hl 1 rfl) ?_
    refine lv_ishl S.1 S.2.1 dX0_hideLetter_18 ?_
    refine lv_iconst (v := -1) S.1 S.2.1 dX0_hideLetter_19 (by decide) ?_
    refine lv_ixor S.1 S.2.1 dX0_hideLetter_20 ?_
    refine lv_iand S.1 S.2.1 dX0_hideLetter_21 ?_
    refine tw_t (tw_off_i _ h16 _ hc) ?_
    refine xxs_5 S w (by omega)  dX0_hideLetter_22 (fun H locs w => ?_)
    refine lv_aload_n S.1 S.2.1 dX0_hideLetter_23 rfl (lv_at hl 0 rfl) ?_
    refine xxg_lengths S w dX0_hideLetter_24 ?_
    refine lv_iload_n S.1 S.2.1 dX0_hideLetter_27 rfl (lv_at hl 1 rfl) ?_
    refine lv_dup2_11 S.1 S.2.1 dX0_hideLetter_28 rfl rfl ?_
    refine xxl_8 S w (by omega) dX0_hideLetter_29 ?_
    refine tw_t (show _ = nI (st 8 a) from rfl) ?_
    refine lv_iconst (v := nI 1) S.1 S.2.1 dX0_hideLetter_30 (by decide) ?_
    refine lv_isub S.1 S.2.1 dX0_hideLetter_31 ?_
    refine tw_t (pk_sub (h8 hf)) ?_
    refine xxs_8 S w (by omega)  dX0_hideLetter_32 (fun H locs w => ?_)
    exact tw_vret S hr hlk w (by rw [hf]; rfl) dX0_hideLetter_33
theorem tw_m1z {k : Nat} (h : nI k - 1 = -1) (hk : k < 2147483648) : k = 0 := by
  have h1 : nI k = nI 0 := by
    have h2 : nI k - 1 + 1 = (-1 : Int32) + 1 := by rw [h]
    rw [Int32.sub_add_cancel] at h2
    rw [h2]; decide
  exact (tw_eq hk (by decide)).mp h1
set_option maxHeartbeats 4000000 in
set_option maxRecDepth 100000 in
/-- a change comes to a copy -/
theorem kX0_receive (l : Launch) (D : va_G) (cI cJ : ClassId) (x : Nat) (ad : Nat → Nat) (st : Nat → Nat → Nat) (sz : Nat) {a i : Nat} (hc : a < 4) (hi : i < 512) (hm : st 0 i < 4) (hb2 : st 2 i < 2147483648) (ht : ∀ j, st 2 i = j + 1 → j < 512) (h16 : ∀ j, st 5 j < 16) (h4 : st 4 i < 2147483648) (h7 : st 7 a < 2147483648) (h8 : ∀ j, st 2 i = j + 1 → (st 5 j).testBit a = true → 1 ≤ st 8 a) : Met l yX0_receive wsX0_receive ({ frames := 2, cells := 0, slots := 0, locals := 44 }) (va_Pc [.ref x, .int (nI a), .int (nI i)] (fun U => U.heap.size = sz ∧ tw_XU D cI cJ x ad st U)) (va_Qv (fun u => u = tw_rcv st a i) (tw_XT D cI cJ x ad (va_A (tw_x cI cJ x ad st) sz)) (va_A (tw_x cI cJ x ad st) sz)) 0 0 (va_A (tw_x cI cJ x ad st) sz) := by
  refine Met.ofW (cc := cX0_receive) (maxL := 3) (ret := none) (by decide) rfl ?_
  intro p e s m args below meth cd s₁ B hml hv
  obtain ⟨rfl, hsz, hU⟩ := hv
  subst hsz
  have S : CallFix p m cd cX0_receive 3 s ([.ref x, .int (nI a), .int (nI i)] : List Value).toArray tw_wall RX0 := ⟨B.exec, B.bytes, hml, findClass_of_methodNamed B.named, fun w h => atoms_spec (ws := wsX0_receive) B.pre w (List.mem_cons_of_mem _ h)⟩
  have hr := B.returns
  have hlk := B.notSynchronized
  have z : va_S (fun q => s.heap.size ≤ q) s.heap s.heap [] := va_S.rf
  have w := tw_X0 hU
  have hA : ∀ q : Nat, s.heap.size ≤ q → va_A (tw_x cI cJ x ad st) s.heap.size q := fun q h => Or.inr h
  generalize va_A (tw_x cI cJ x ad st) s.heap.size = A at w hA ⊢
  have hl := lv_entry ([.ref x, .int (nI a), .int (nI i)]) (n := 3) (Nat.le_of_ble_eq_true rfl)
  rw [lg_entry_eq]
  generalize (lg_sl ([.ref x, .int (nI a), .int (nI i)]) ++ List.replicate (3 - (lg_sl ([.ref x, .int (nI a), .int (nI i)])).length) Slot.unset).toArray = ls at hl ⊢
  have hl : lv_has ls 3 [(0, .ref x), (1, .int (nI a)), (2, .int (nI i))] := hl
  refine lv_aload_n S.1 S.2.1 dX0_receive_0 rfl (lv_at hl 0 rfl) ?_
  refine xxg_known S w dX0_receive_1 ?_
  refine lv_iload_n S.1 S.2.1 dX0_receive_4 rfl (lv_at hl 1 rfl) ?_
  refine xxr_12 S w (by omega) dX0_receive_5 ?_
  refine lv_aload_n S.1 S.2.1 dX0_receive_6 rfl (lv_at hl 0 rfl) ?_
  refine xxg_maker S w dX0_receive_7 ?_
  refine lv_iload_n S.1 S.2.1 dX0_receive_10 rfl (lv_at hl 2 rfl) ?_
  refine xxl_0 S w (by omega) dX0_receive_11 ?_
  refine lv_aload_n S.1 S.2.1 dX0_receive_12 rfl (lv_at hl 0 rfl) ?_
  refine xxg_number S w dX0_receive_13 ?_
  refine lv_iload_n S.1 S.2.1 dX0_receive_16 rfl (lv_at hl 2 rfl) ?_
  refine xxl_1 S w (by omega) dX0_receive_17 ?_
  refine lv_iconst (v := nI 1) S.1 S.2.1 dX0_receive_18 (by decide) ?_
  refine lv_iadd S.1 S.2.1 dX0_receive_19 ?_
  refine tw_t (nI_add _ _) ?_
  refine xxs_24 S w (by omega) (by omega) dX0_receive_20 (fun H locs w => ?_)
  refine lv_aload_n S.1 S.2.1 dX0_receive_21 rfl (lv_at hl 0 rfl) ?_
  refine xxg_taken S w dX0_receive_22 ?_
  refine lv_iload_n S.1 S.2.1 dX0_receive_25 rfl (lv_at hl 2 rfl) ?_
  refine xxl_2 S w (by omega) dX0_receive_26 ?_
  refine tw_t (show _ = nI (st 2 i) - 1 from by rw [tw_up_k (by omega)]) ?_
  refine lv_iconst (v := -1) S.1 S.2.1 dX0_receive_27 (by decide) ?_
  refine lv_icmp_ne (tgt := 40) S.1 S.2.1 dX0_receive_28 (by decide) (fun h28 => ?_) (fun h28 => ?_)
  · have h2 : st 2 i ≠ 0 := fun g => h28 (by rw [g]; decide)
    obtain ⟨j, hj⟩ : ∃ j, st 2 i = j + 1 := ⟨st 2 i - 1, by omega⟩
    refine lv_aload_n S.1 S.2.1 dX0_receive_40 rfl (lv_at hl 0 rfl) ?_
    refine lv_iload_n S.1 S.2.1 dX0_receive_41 rfl (lv_at hl 1 rfl) ?_
    refine lv_aload_n S.1 S.2.1 dX0_receive_42 rfl (lv_at hl 0 rfl) ?_
    refine xxg_taken S w dX0_receive_43 ?_
    refine lv_iload_n S.1 S.2.1 dX0_receive_46 rfl (lv_at hl 2 rfl) ?_
    refine xxl_2 S w (by omega) dX0_receive_47 ?_
    refine tw_t (show _ = nI j from by rw [tw_up_k (by omega), hj]; exact nI_pred j) ?_
    refine tw_cwv (n := 2) S w hA (kX0_hideLetter l D cI cJ x ad (tw_up st (24 + a) (st 0 i) (st 1 i + 1)) _ (i := j) hc (ht j hj) (by rw [tw_up_k (by omega)]; exact h16 j) (by rw [tw_up_k (by omega), tw_up_k (by omega)]; exact h8 j hj)) (tw_gV wl_X0_122 wn_X0_hideLetter ws_X0_hideLetter wi_X0 wy_X0_hideLetter) rfl rfl (by decide +kernel) ⟨Nat.le_of_ble_eq_true rfl, Nat.le_of_ble_eq_true rfl⟩ rfl hl.1 rfl (Nat.le_of_ble_eq_true rfl) dX0_receive_48 ⟨Nat.le_of_ble_eq_true rfl, Nat.le_of_ble_eq_true rfl⟩ (fun u H locs hp w => ?_)
    first
      | exact tw_vret S hr hlk w (by rw [hp]; unfold tw_rcv; rw [if_pos h2, tw_up_k (k := 24 + a) (by omega), tw_up_k (k := 24 + a) (by omega), tw_up_k (k := 24 + a) (by omega), tw_up_k (k := 24 + a) (by omega)]) dX0_receive_51
      | exact tw_vret S hr hlk w (by rw [hp]; unfold tw_rcv; rw [if_neg h2, show st 2 i - 1 = j by omega, tw_up_k (k := 24 + a) (by omega), tw_up_k (k := 24 + a) (by omega)]) dX0_receive_51
  · have h2 : st 2 i = 0 := tw_m1z h28 hb2
    refine lv_aload_n S.1 S.2.1 dX0_receive_31 rfl (lv_at hl 0 rfl) ?_
    refine lv_iload_n S.1 S.2.1 dX0_receive_32 rfl (lv_at hl 1 rfl) ?_
    refine lv_iload_n S.1 S.2.1 dX0_receive_33 rfl (lv_at hl 2 rfl) ?_
    refine tw_cwv (n := 2) S w hA (kX0_showLetter l D cI cJ x ad (tw_up st (24 + a) (st 0 i) (st 1 i + 1)) _ hc hi (by rw [tw_up_k (by omega)]; exact h16 i) (by rw [tw_up_k (by omega)]; exact h4) (by rw [tw_up_k (by omega)]; exact h7)) (tw_gV wl_X0_119 wn_X0_showLetter ws_X0_showLetter wi_X0 wy_X0_showLetter) rfl rfl (by decide +kernel) ⟨Nat.le_of_ble_eq_true rfl, Nat.le_of_ble_eq_true rfl⟩ rfl hl.1 rfl (Nat.le_of_ble_eq_true rfl) dX0_receive_34 ⟨Nat.le_of_ble_eq_true rfl, Nat.le_of_ble_eq_true rfl⟩ (fun u H locs hp w => ?_)
    refine lv_goto (tgt := 51) S.1 S.2.1 dX0_receive_37 (by decide) ?_
    first
      | exact tw_vret S hr hlk w (by rw [hp]; unfold tw_rcv; rw [if_pos h2, tw_up_k (k := 24 + a) (by omega), tw_up_k (k := 24 + a) (by omega), tw_up_k (k := 24 + a) (by omega), tw_up_k (k := 24 + a) (by omega)]) dX0_receive_51
      | exact tw_vret S hr hlk w (by rw [hp]; unfold tw_rcv; rw [if_neg h2, show st 2 i - 1 = j by omega, tw_up_k (k := 24 + a) (by omega), tw_up_k (k := 24 + a) (by omega)]) dX0_receive_51
end
section
def tw_hadK (st s : Nat → Nat → Nat) (a i : Nat) : Nat → (Nat → Nat → Nat)
  | 0 => s
  | k + 1 => tw_up (tw_hadK st s a i k) (16 + k) i (st (24 + a) k)
theorem tw_hadK_o {st s : Nat → Nat → Nat} {a i : Nat} : ∀ {k k' y : Nat}, k ≤ 4 → (k' < 16 ∨ 20 ≤ k') → tw_hadK st s a i k k' y = s k' y
  | 0, _, _, _, _ => rfl
  | k + 1, k', y, h, h2 => by
    show tw_up (tw_hadK st s a i k) (16 + k) i (st (24 + a) k) k' y = s k' y
    rw [tw_up_k (by omega)]
    exact tw_hadK_o (by omega) h2
def tw_add3 (st : Nat → Nat → Nat) (a t : Nat) : Nat → Nat → Nat := tw_up (tw_up (tw_up st 0 (st 9 0) a) 1 (st 9 0) (st (24 + a) a)) 2 (st 9 0) t
/-- a change of copy a, that takes t, behind the others -/
def tw_add (st : Nat → Nat → Nat) (a t : Nat) : Nat → Nat → Nat := tw_up (tw_up (tw_hadK st (tw_add3 st a t) a (st 9 0) 4) (20 + a) (st (24 + a) a) (st 9 0)) 9 0 (st 9 0 + 1)
theorem tw_add3_o {st : Nat → Nat → Nat} {a t k y : Nat} (h : 2 < k) : tw_add3 st a t k y = st k y := by
  unfold tw_add3
  rw [tw_up_k (by omega), tw_up_k (by omega), tw_up_k (by omega)]
set_option maxHeartbeats 4000000 in
set_option maxRecDepth 100000 in
/-- a change behind the others in the log -/
theorem kX0_addChange (l : Launch) (D : va_G) (cI cJ : ClassId) (x : Nat) (ad : Nat → Nat) (st : Nat → Nat → Nat) (sz : Nat) {a t : Nat} (hc : a < 4) (hn : st 9 0 < 512) (hk : st (24 + a) a < 400) : Met l yX0_addChange wsX0_addChange ({ frames := 0, cells := 0, slots := 0, locals := 0 }) (va_Pc [.ref x, .int (nI a), .int (nI t - 1)] (fun U => U.heap.size = sz ∧ tw_XU D cI cJ x ad st U)) (va_Qi (fun r u => r = nI (st 9 0) ∧ u = tw_add st a t) (tw_XT D cI cJ x ad (va_A (tw_x cI cJ x ad st) sz)) (va_A (tw_x cI cJ x ad st) sz)) 0 0 (va_A (tw_x cI cJ x ad st) sz) := by
  refine Met.ofW (cc := cX0_addChange) (maxL := 5) (ret := (some .int)) (by decide) rfl ?_
  intro p e s m args below meth cd s₁ B hml hv
  obtain ⟨rfl, hsz, hU⟩ := hv
  subst hsz
  have S : CallFix p m cd cX0_addChange 5 s ([.ref x, .int (nI a), .int (nI t - 1)] : List Value).toArray tw_wall RX0 := ⟨B.exec, B.bytes, hml, findClass_of_methodNamed B.named, fun w h => atoms_spec (ws := wsX0_addChange) B.pre w (List.mem_cons_of_mem _ h)⟩
  have hr := B.returns
  have hlk := B.notSynchronized
  have z : va_S (fun q => s.heap.size ≤ q) s.heap s.heap [] := va_S.rf
  have w := tw_X0 hU
  have hA : ∀ q : Nat, s.heap.size ≤ q → va_A (tw_x cI cJ x ad st) s.heap.size q := fun q h => Or.inr h
  generalize va_A (tw_x cI cJ x ad st) s.heap.size = A at w hA ⊢
  have hl := lv_entry ([.ref x, .int (nI a), .int (nI t - 1)]) (n := 5) (Nat.le_of_ble_eq_true rfl)
  rw [lg_entry_eq]
  generalize (lg_sl ([.ref x, .int (nI a), .int (nI t - 1)]) ++ List.replicate (5 - (lg_sl ([.ref x, .int (nI a), .int (nI t - 1)])).length) Slot.unset).toArray = ls at hl ⊢
  have hl : lv_has ls 5 [(0, .ref x), (1, .int (nI a)), (2, .int (nI t - 1))] := hl
  have loop : ∀ (n : Nat) (k : Nat) (H : Heap) (locs : List Loc) (ls : Array Slot), k ≤ 4 → 4 - k < n → TWX D cI cJ x ad (tw_hadK st (tw_add3 st a t) a (st 9 0) k) A s.heap H locs s → lv_has ls 5 [(4, .int (nI k)), (3, .int (nI (st 9 0))), (0, .ref x), (1, .int (nI a)), (2, .int (nI t - 1))] → W p l e (headSpec wsX0_addChange ({ frames := 0, cells := 0, slots := 0, locals := 0 })).room s m ([.ref x, .int (nI a), .int (nI t - 1)] : List Value).toArray below meth cd H locs 0 0 (MQ below (va_Qi (fun r u => r = nI (st 9 0) ∧ u = tw_add st a t) (tw_XT D cI cJ x ad A) A) ([.ref x, .int (nI a), .int (nI t - 1)] : List Value).toArray s 0 0 A) (F0 m 36 ls []) := by
    intro n
    induction n with
    | zero => intros; omega
    | succ n ih =>
      intro k H locs ls hk hm w hl
      refine lv_iload S.1 S.2.1 dX0_addChange_36 (lv_at hl 0 rfl) ?_
      refine lv_iconst (v := nI 4) S.1 S.2.1 dX0_addChange_38 (by decide) ?_
      refine lv_icmp_ge (tgt := 66) S.1 S.2.1 dX0_addChange_39 (by decide) (fun h39 => ?_) (fun h39 => ?_)
      · have hk4 : k = 4 := by have := (tw_le (by omega) (by omega)).mp h39; omega
        subst hk4
        refine lv_aload_n S.1 S.2.1 dX0_addChange_66 rfl (lv_at hl 2 rfl) ?_
        refine xxg_own S w dX0_addChange_67 ?_
        refine lv_iload_n S.1 S.2.1 dX0_addChange_70 rfl (lv_at hl 3 rfl) ?_
        refine xxr_11 S w (by omega) dX0_addChange_71 ?_
        refine lv_aload_n S.1 S.2.1 dX0_addChange_72 rfl (lv_at hl 2 rfl) ?_
        refine xxg_number S w dX0_addChange_73 ?_
        refine lv_iload_n S.1 S.2.1 dX0_addChange_76 rfl (lv_at hl 1 rfl) ?_
        refine xxl_1 S w (by omega) dX0_addChange_77 ?_
        refine tw_t (show _ = nI (st (24 + a) a) from by rw [tw_hadK_o (by omega) (by omega)]; unfold tw_add3; rw [tw_up_k (by omega), tw_up_e]) ?_
        refine lv_iload_n S.1 S.2.1 dX0_addChange_78 rfl (lv_at hl 1 rfl) ?_
        refine xxs_20 S w (by omega) (by omega) dX0_addChange_79 (fun H locs w => ?_)
        refine lv_aload_n S.1 S.2.1 dX0_addChange_80 rfl (lv_at hl 2 rfl) ?_
        refine lv_dup S.1 S.2.1 dX0_addChange_81 rfl ?_
        refine xxg_changes S w dX0_addChange_82 ?_
        refine tw_t (show _ = nI (st 9 0) from by rw [tw_up_k (by omega), tw_hadK_o (by omega) (by omega), tw_add3_o (by omega)]) ?_
        refine lv_iconst (v := nI 1) S.1 S.2.1 dX0_addChange_85 (by decide) ?_
        refine lv_iadd S.1 S.2.1 dX0_addChange_86 ?_
        refine tw_t (nI_add _ _) ?_
        refine xxp_changes S w dX0_addChange_87 (fun H locs w => ?_)
        refine lv_iload_n S.1 S.2.1 dX0_addChange_90 rfl (lv_at hl 1 rfl) ?_
        exact tw_iret S hr hlk w ⟨rfl, rfl⟩ dX0_addChange_91
      · have hk4 : k < 4 := Nat.not_le.mp (fun g => h39 ((tw_le (by omega) (by omega)).mpr g))
        refine lv_aload_n S.1 S.2.1 dX0_addChange_42 rfl (lv_at hl 2 rfl) ?_
        refine xxg_had S w dX0_addChange_43 ?_
        refine lv_iload S.1 S.2.1 dX0_addChange_46 (lv_at hl 0 rfl) ?_
        refine xxr_10 S w (by omega) dX0_addChange_48 ?_
        refine lv_iload_n S.1 S.2.1 dX0_addChange_49 rfl (lv_at hl 1 rfl) ?_
        refine lv_aload_n S.1 S.2.1 dX0_addChange_50 rfl (lv_at hl 2 rfl) ?_
        refine xxg_known S w dX0_addChange_51 ?_
        refine lv_iload_n S.1 S.2.1 dX0_addChange_54 rfl (lv_at hl 3 rfl) ?_
        refine xxr_12 S w (by omega) dX0_addChange_55 ?_
        refine lv_iload S.1 S.2.1 dX0_addChange_56 (lv_at hl 0 rfl) ?_
        refine xxl_24 S w (by omega) (by omega) dX0_addChange_58 ?_
        refine tw_t (show _ = nI (st (24 + a) k) from by rw [tw_hadK_o (by omega) (by omega), tw_add3_o (by omega)]) ?_
        refine xxs_16 S w (by omega) (by omega) dX0_addChange_59 (fun H locs w => ?_)
        refine lv_iinc S.1 S.2.1 dX0_addChange_60 hl (k := 0) rfl (tw_inc _) (by decide) rfl (fun ls hl => ?_)
        refine lv_goto (tgt := 36) S.1 S.2.1 dX0_addChange_63 (by decide) ?_
        exact ih (k + 1) H locs ls (by omega) (by omega) w (lv_sub hl [0, 1, 2, 3, 4] rfl)
  refine lv_aload_n S.1 S.2.1 dX0_addChange_0 rfl (lv_at hl 0 rfl) ?_
  refine xxg_changes S w dX0_addChange_1 ?_
  refine lv_istore_n S.1 S.2.1 dX0_addChange_4 rfl hl (by decide) rfl (fun ls hl => ?_)
  refine lv_aload_n S.1 S.2.1 dX0_addChange_5 rfl (lv_at hl 1 rfl) ?_
  refine xxg_maker S w dX0_addChange_6 ?_
  refine lv_iload_n S.1 S.2.1 dX0_addChange_9 rfl (lv_at hl 0 rfl) ?_
  refine lv_iload_n S.1 S.2.1 dX0_addChange_10 rfl (lv_at hl 2 rfl) ?_
  refine xxs_0 S w (by omega)  dX0_addChange_11 (fun H locs w => ?_)
  refine lv_aload_n S.1 S.2.1 dX0_addChange_12 rfl (lv_at hl 1 rfl) ?_
  refine xxg_number S w dX0_addChange_13 ?_
  refine lv_iload_n S.1 S.2.1 dX0_addChange_16 rfl (lv_at hl 0 rfl) ?_
  refine lv_aload_n S.1 S.2.1 dX0_addChange_17 rfl (lv_at hl 1 rfl) ?_
  refine xxg_known S w dX0_addChange_18 ?_
  refine lv_iload_n S.1 S.2.1 dX0_addChange_21 rfl (lv_at hl 2 rfl) ?_
  refine xxr_12 S w (by omega) dX0_addChange_22 ?_
  refine lv_iload_n S.1 S.2.1 dX0_addChange_23 rfl (lv_at hl 2 rfl) ?_
  refine xxl_24 S w (by omega) (by omega) dX0_addChange_24 ?_
  refine tw_t (show _ = nI (st (24 + a) a) from by rw [tw_up_k (by omega)]) ?_
  refine xxs_1 S w (by omega)  dX0_addChange_25 (fun H locs w => ?_)
  refine lv_aload_n S.1 S.2.1 dX0_addChange_26 rfl (lv_at hl 1 rfl) ?_
  refine xxg_taken S w dX0_addChange_27 ?_
  refine lv_iload_n S.1 S.2.1 dX0_addChange_30 rfl (lv_at hl 0 rfl) ?_
  refine lv_iload_n S.1 S.2.1 dX0_addChange_31 rfl (lv_at hl 3 rfl) ?_
  refine xxs_2 S w (by omega)  dX0_addChange_32 (fun H locs w => ?_)
  refine lv_iconst (v := nI 0) S.1 S.2.1 dX0_addChange_33 (by decide) ?_
  refine lv_istore S.1 S.2.1 dX0_addChange_34 hl (by decide) rfl (fun ls hl => ?_)
  exact loop 5 0 _ _ _ (by omega) (by omega) w (lv_sub hl [0, 1, 2, 3, 4] rfl)
theorem tw_pm1 (b : Nat) : nI b - 1 + nI 1 = nI b := by
  rw [show nI 1 = (1 : Int32) by decide, Int32.sub_add_cancel]
/-- the order with the places from q on moved by one -/
def tw_mv (st : Nat → Nat → Nat) (q : Nat) : Nat → Nat → Nat := fun k y => if k = 6 then (if q + 1 ≤ y ∧ y < st 9 1 + 1 then st 6 (y - 1) else st 6 y) else st k y
theorem tw_mv_w {cI cJ : ClassId} {x : Nat} {ad : Nat → Nat} {st : Nat → Nat → Nat} {q : Nat} (hq : q ≤ st 9 1) (h5 : st 9 1 < 512) : (tw_x cI cJ x ad st).set 7 (ad 6, .inl (cI, 512, .inl (va_cpy (fun i => nI (st 6 i)) (fun i => nI (st 6 i)) (nI q).toNatClampNeg (nI (q + 1)).toNatClampNeg (nI (st 9 1 - q)).toNatClampNeg))) = tw_x cI cJ x ad (tw_mv st q) := by
  have h : va_cpy (fun i => nI (st 6 i)) (fun i => nI (st 6 i)) (nI q).toNatClampNeg (nI (q + 1)).toNatClampNeg (nI (st 9 1 - q)).toNatClampNeg = (fun j => nI (tw_mv st q 6 j)) := by
    rw [nI_clamp (by omega), nI_clamp (by omega), nI_clamp (by omega)]
    funext j
    unfold va_cpy tw_mv
    rw [if_pos rfl]
    by_cases g : q + 1 ≤ j ∧ j < st 9 1 + 1
    · rw [if_pos (show q + 1 ≤ j ∧ j < q + 1 + (st 9 1 - q) from ⟨g.1, by omega⟩), if_pos g, show q + (j - (q + 1)) = j - 1 by omega]
    · rw [if_neg (show ¬ (q + 1 ≤ j ∧ j < q + 1 + (st 9 1 - q)) from fun z => g ⟨z.1, by omega⟩), if_neg g]
  rw [h]
  rfl
/-- the order with i put in at q -/
def tw_wv (st : Nat → Nat → Nat) (q i : Nat) : Nat → Nat → Nat := tw_up (tw_up (tw_mv st q) 6 q i) 9 1 (st 9 1 + 1)
set_option maxHeartbeats 4000000 in
set_option maxRecDepth 100000 in
/-- a letter is woven into the order -/
theorem kX0_weave (l : Launch) (D : va_G) (cI cJ : ClassId) (x : Nat) (ad : Nat → Nat) (st : Nat → Nat → Nat) (sz : Nat) {i b : Nat} (hi : i < 512) (hb : b ≤ st 9 1) (h5 : st 9 1 < 512) (hod : ∀ p, p < st 9 1 → st 6 p < 512) (hn4 : ∀ j, st 4 j < 2147483648) : Met l yX0_weave wsX0_weave ({ frames := 1, cells := 0, slots := 0, locals := 60 }) (va_Pc [.ref x, .int (nI i), .int (nI b - 1)] (fun U => U.heap.size = sz ∧ tw_XU D cI cJ x ad st U)) (va_Qv (fun u => ∃ q, b ≤ q ∧ q ≤ st 9 1 ∧ (∀ j, b ≤ j → j < q → st 4 i < st 4 (st 6 j)) ∧ (q < st 9 1 → st 4 (st 6 q) ≤ st 4 i) ∧ u = tw_wv st q i) (tw_XT D cI cJ x ad (va_A (tw_x cI cJ x ad st) sz)) (va_A (tw_x cI cJ x ad st) sz)) 0 0 (va_A (tw_x cI cJ x ad st) sz) := by
  refine Met.ofW (cc := cX0_weave) (maxL := 4) (ret := none) (by decide) rfl ?_
  intro p e s m args below meth cd s₁ B hml hv
  obtain ⟨rfl, hsz, hU⟩ := hv
  subst hsz
  have S : CallFix p m cd cX0_weave 4 s ([.ref x, .int (nI i), .int (nI b - 1)] : List Value).toArray tw_wall RX0 := ⟨B.exec, B.bytes, hml, findClass_of_methodNamed B.named, fun w h => atoms_spec (ws := wsX0_weave) B.pre w (List.mem_cons_of_mem _ h)⟩
  have hr := B.returns
  have hlk := B.notSynchronized
  have z : va_S (fun q => s.heap.size ≤ q) s.heap s.heap [] := va_S.rf
  have w := tw_X0 hU
  have hA : ∀ q : Nat, s.heap.size ≤ q → va_A (tw_x cI cJ x ad st) s.heap.size q := fun q h => Or.inr h
  generalize va_A (tw_x cI cJ x ad st) s.heap.size = A at w hA ⊢
  have hl := lv_entry ([.ref x, .int (nI i), .int (nI b - 1)]) (n := 4) (Nat.le_of_ble_eq_true rfl)
  rw [lg_entry_eq]
  generalize (lg_sl ([.ref x, .int (nI i), .int (nI b - 1)]) ++ List.replicate (4 - (lg_sl ([.ref x, .int (nI i), .int (nI b - 1)])).length) Slot.unset).toArray = ls at hl ⊢
  have hl : lv_has ls 4 [(0, .ref x), (1, .int (nI i)), (2, .int (nI b - 1))] := hl
  have loop : ∀ (n : Nat) (q : Nat) (H : Heap) (locs : List Loc) (ls : Array Slot), q ≤ st 9 1 → st 9 1 - q < n → b ≤ q → (∀ j, b ≤ j → j < q → st 4 i < st 4 (st 6 j)) → TWX D cI cJ x ad st A s.heap H locs s → lv_has ls 4 [(3, .int (nI q)), (0, .ref x), (1, .int (nI i)), (2, .int (nI b - 1))] → W p l e (headSpec wsX0_weave ({ frames := 1, cells := 0, slots := 0, locals := 60 })).room s m ([.ref x, .int (nI i), .int (nI b - 1)] : List Value).toArray below meth cd H locs 0 0 (MQ below (va_Qv (fun u => ∃ q, b ≤ q ∧ q ≤ st 9 1 ∧ (∀ j, b ≤ j → j < q → st 4 i < st 4 (st 6 j)) ∧ (q < st 9 1 → st 4 (st 6 q) ≤ st 4 i) ∧ u = tw_wv st q i) (tw_XT D cI cJ x ad A) A) ([.ref x, .int (nI i), .int (nI b - 1)] : List Value).toArray s 0 0 A) (F0 m 4 ls []) := by
    intro n
    induction n with
    | zero => intros; omega
    | succ n ih =>
      intro q H locs ls hq0 hm hb hgt w hl
      refine lv_iload_n S.1 S.2.1 dX0_weave_4 rfl (lv_at hl 0 rfl) ?_
      refine lv_aload_n S.1 S.2.1 dX0_weave_5 rfl (lv_at hl 1 rfl) ?_
      refine xxg_letters S w dX0_weave_6 ?_
      refine lv_icmp_ge (tgt := 38) S.1 S.2.1 dX0_weave_9 (by decide) (fun h9 => ?_) (fun h9 => ?_)
      · have hqe : q < st 9 1 → st 4 (st 6 q) ≤ st 4 i := fun g => by have := (tw_le (by omega) (by omega)).mp h9; omega
        refine lv_aload_n S.1 S.2.1 dX0_weave_38 rfl (lv_at hl 1 rfl) ?_
        refine xxg_order S w dX0_weave_39 ?_
        refine lv_iload_n S.1 S.2.1 dX0_weave_42 rfl (lv_at hl 0 rfl) ?_
        refine lv_aload_n S.1 S.2.1 dX0_weave_43 rfl (lv_at hl 1 rfl) ?_
        refine xxg_order S w dX0_weave_44 ?_
        refine lv_iload_n S.1 S.2.1 dX0_weave_47 rfl (lv_at hl 0 rfl) ?_
        refine lv_iconst (v := nI 1) S.1 S.2.1 dX0_weave_48 (by decide) ?_
        refine lv_iadd S.1 S.2.1 dX0_weave_49 ?_
        refine tw_t (nI_add _ _) ?_
        refine lv_aload_n S.1 S.2.1 dX0_weave_50 rfl (lv_at hl 1 rfl) ?_
        refine xxg_letters S w dX0_weave_51 ?_
        refine lv_iload_n S.1 S.2.1 dX0_weave_54 rfl (lv_at hl 0 rfl) ?_
        refine lv_isub S.1 S.2.1 dX0_weave_55 ?_
        refine tw_t (pk_sub (by omega)) ?_
        refine va_copyi S.1 S.2.1 (S.2.2.1.trans hl.1.symm) S.2.2.2.1 (S.2.2.2.2 _ wl_X0_113) (S.2.2.2.2 _ wv_arraycopy) (S.2.2.2.2 _ wt_arraycopy) (S.2.2.2.2 _ wi_System) w.1 w.2.1 w.2.2.1 w.2.2.2 7 7 0 0 rfl rfl rfl rfl rfl (nI_pos (by omega)) (nI_pos (by omega)) (nI_pos (by omega)) (by rw [nI_clamp (by omega), nI_clamp (by omega)]; omega) (by rw [nI_clamp (by omega), nI_clamp (by omega)]; omega) (fun _ _ => rfl) (Nat.le_of_ble_eq_true rfl) (Nat.le_of_ble_eq_true rfl) dX0_weave_56 (fun H locs hP hD hS => ?_)
        rw [tw_mv_w hq0 h5] at hP hD
        have w : TWX D cI cJ x ad (tw_mv st q) A s.heap H locs s := ⟨w.1, hP, hD, hS⟩
        refine lv_aload_n S.1 S.2.1 dX0_weave_59 rfl (lv_at hl 1 rfl) ?_
        refine xxg_order S w dX0_weave_60 ?_
        refine lv_iload_n S.1 S.2.1 dX0_weave_63 rfl (lv_at hl 0 rfl) ?_
        refine lv_iload_n S.1 S.2.1 dX0_weave_64 rfl (lv_at hl 2 rfl) ?_
        refine xxs_6 S w (by omega)  dX0_weave_65 (fun H locs w => ?_)
        refine lv_aload_n S.1 S.2.1 dX0_weave_66 rfl (lv_at hl 1 rfl) ?_
        refine lv_dup S.1 S.2.1 dX0_weave_67 rfl ?_
        refine xxg_letters S w dX0_weave_68 ?_
        refine tw_t (show _ = nI (st 9 1) from rfl) ?_
        refine lv_iconst (v := nI 1) S.1 S.2.1 dX0_weave_71 (by decide) ?_
        refine lv_iadd S.1 S.2.1 dX0_weave_72 ?_
        refine tw_t (nI_add _ _) ?_
        refine xxp_letters S w dX0_weave_73 (fun H locs w => ?_)
        exact tw_vret S hr hlk w ⟨q, hb, hq0, hgt, hqe, rfl⟩ dX0_weave_76
      · have hq : q < st 9 1 := Nat.not_le.mp (fun g => h9 ((tw_le (by omega) (by omega)).mpr g))
        refine lv_aload_n S.1 S.2.1 dX0_weave_12 rfl (lv_at hl 1 rfl) ?_
        refine xxg_names S w dX0_weave_13 ?_
        refine lv_aload_n S.1 S.2.1 dX0_weave_16 rfl (lv_at hl 1 rfl) ?_
        refine xxg_order S w dX0_weave_17 ?_
        refine lv_iload_n S.1 S.2.1 dX0_weave_20 rfl (lv_at hl 0 rfl) ?_
        refine xxl_6 S w (by omega) dX0_weave_21 ?_
        refine xxl_4 S w (hod q hq) dX0_weave_22 ?_
        refine lv_aload_n S.1 S.2.1 dX0_weave_23 rfl (lv_at hl 1 rfl) ?_
        refine xxg_names S w dX0_weave_24 ?_
        refine lv_iload_n S.1 S.2.1 dX0_weave_27 rfl (lv_at hl 2 rfl) ?_
        refine xxl_4 S w (by omega) dX0_weave_28 ?_
        refine lv_icmp_le (tgt := 38) S.1 S.2.1 dX0_weave_29 (by decide) (fun h29 => ?_) (fun h29 => ?_)
        · have hqe : q < st 9 1 → st 4 (st 6 q) ≤ st 4 i := fun _ => (tw_le (hn4 _) (hn4 _)).mp h29
          refine lv_aload_n S.1 S.2.1 dX0_weave_38 rfl (lv_at hl 1 rfl) ?_
          refine xxg_order S w dX0_weave_39 ?_
          refine lv_iload_n S.1 S.2.1 dX0_weave_42 rfl (lv_at hl 0 rfl) ?_
          refine lv_aload_n S.1 S.2.1 dX0_weave_43 rfl (lv_at hl 1 rfl) ?_
          refine xxg_order S w dX0_weave_44 ?_
          refine lv_iload_n S.1 S.2.1 dX0_weave_47 rfl (lv_at hl 0 rfl) ?_
          refine lv_iconst (v := nI 1) S.1 S.2.1 dX0_weave_48 (by decide) ?_
          refine lv_iadd S.1 S.2.1 dX0_weave_49 ?_
          refine tw_t (nI_add _ _) ?_
          refine lv_aload_n S.1 S.2.1 dX0_weave_50 rfl (lv_at hl 1 rfl) ?_
          refine xxg_letters S w dX0_weave_51 ?_
          refine lv_iload_n S.1 S.2.1 dX0_weave_54 rfl (lv_at hl 0 rfl) ?_
          refine lv_isub S.1 S.2.1 dX0_weave_55 ?_
          refine tw_t (pk_sub (by omega)) ?_
          refine va_copyi S.1 S.2.1 (S.2.2.1.trans hl.1.symm) S.2.2.2.1 (S.2.2.2.2 _ wl_X0_113) (S.2.2.2.2 _ wv_arraycopy) (S.2.2.2.2 _ wt_arraycopy) (S.2.2.2.2 _ wi_System) w.1 w.2.1 w.2.2.1 w.2.2.2 7 7 0 0 rfl rfl rfl rfl rfl (nI_pos (by omega)) (nI_pos (by omega)) (nI_pos (by omega)) (by rw [nI_clamp (by omega), nI_clamp (by omega)]; omega) (by rw [nI_clamp (by omega), nI_clamp (by omega)]; omega) (fun _ _ => rfl) (Nat.le_of_ble_eq_true rfl) (Nat.le_of_ble_eq_true rfl) dX0_weave_56 (fun H locs hP hD hS => ?_)
          rw [tw_mv_w hq0 h5] at hP hD
          have w : TWX D cI cJ x ad (tw_mv st q) A s.heap H locs s := ⟨w.1, hP, hD, hS⟩
          refine lv_aload_n S.1 S.2.1 dX0_weave_59 rfl (lv_at hl 1 rfl) ?_
          refine xxg_order S w dX0_weave_60 ?_
          refine lv_iload_n S.1 S.2.1 dX0_weave_63 rfl (lv_at hl 0 rfl) ?_
          refine lv_iload_n S.1 S.2.1 dX0_weave_64 rfl (lv_at hl 2 rfl) ?_
          refine xxs_6 S w (by omega)  dX0_weave_65 (fun H locs w => ?_)
          refine lv_aload_n S.1 S.2.1 dX0_weave_66 rfl (lv_at hl 1 rfl) ?_
          refine lv_dup S.1 S.2.1 dX0_weave_67 rfl ?_
          refine xxg_letters S w dX0_weave_68 ?_
          refine tw_t (show _ = nI (st 9 1) from rfl) ?_
          refine lv_iconst (v := nI 1) S.1 S.2.1 dX0_weave_71 (by decide) ?_
          refine lv_iadd S.1 S.2.1 dX0_weave_72 ?_
          refine tw_t (nI_add _ _) ?_
          refine xxp_letters S w dX0_weave_73 (fun H locs w => ?_)
          exact tw_vret S hr hlk w ⟨q, hb, hq0, hgt, hqe, rfl⟩ dX0_weave_76
        · refine lv_iinc S.1 S.2.1 dX0_weave_32 hl (k := 0) rfl (tw_inc _) (by decide) rfl (fun ls hl => ?_)
          refine lv_goto (tgt := 4) S.1 S.2.1 dX0_weave_35 (by decide) ?_
          exact ih (q + 1) H locs ls (by omega) (by omega) (by omega) (fun j h1 h2 => by rcases Nat.lt_or_ge j q with g | g; exact hgt j h1 g; rw [show j = q by omega]; exact Nat.not_le.mp (fun g => h29 ((tw_le (hn4 _) (hn4 _)).mpr g))) w (lv_sub hl [0, 1, 2, 3] rfl)
  refine lv_iload_n S.1 S.2.1 dX0_weave_0 rfl (lv_at hl 2 rfl) ?_
  refine lv_iconst (v := nI 1) S.1 S.2.1 dX0_weave_1 (by decide) ?_
  refine lv_iadd S.1 S.2.1 dX0_weave_2 ?_
  refine tw_t (tw_pm1 b) ?_
  refine lv_istore_n S.1 S.2.1 dX0_weave_3 rfl hl (by decide) rfl (fun ls hl => ?_)
  exact loop (st 9 1 + 1) b _ _ _ hb (by omega) (Nat.le_refl b) (fun j h1 h2 => by omega) w (lv_sub hl [0, 1, 2, 3] rfl)
set_option maxHeartbeats 4000000 in
set_option maxRecDepth 100000 in
/-- a number from 0 up to b -/
theorem kX0_checkUpTo (l : Launch) (sz : Nat) (hlt : l.stackTraces = false) {v b : Int32} : vx_Met l yX0_checkUpTo wsX0_checkUpTo ({ frames := 6, cells := 1, slots := 6, locals := 82 }) (va_Pc [.int v, .int b] (fun U => U.heap.size = sz ∧ tw_Z (fun q => sz ≤ q) U)) (va_Qv (fun (_ : Unit) => (¬ v < 0 ∧ v ≤ b)) (fun _ _ => True) (fun q => sz ≤ q)) (tw_XC (fun u => u = 1 ∧ (v < 0 ∨ b < v)) sz) 1 6 (fun q => sz ≤ q) := by
  refine vx_ofW (cc := cX0_checkUpTo) (maxL := 2) (ret := none) (by decide) rfl ?_
  intro p e s m args below meth cd s₁ B hml ht hv
  obtain ⟨rfl, hsz, Z⟩ := hv
  subst hsz
  have S : CallFix p m cd cX0_checkUpTo 2 s ([.int v, .int b] : List Value).toArray tw_wall RX0 := ⟨B.exec, B.bytes, hml, findClass_of_methodNamed B.named, fun w h => atoms_spec (ws := wsX0_checkUpTo) B.pre w (List.mem_cons_of_mem _ h)⟩
  have hr := B.returns
  have hlk := B.notSynchronized
  have z : va_S (fun q => s.heap.size ≤ q) s.heap s.heap [] := va_S.rf
  have hl := lv_entry ([.int v, .int b]) (n := 2) (Nat.le_of_ble_eq_true rfl)
  rw [lg_entry_eq]
  generalize (lg_sl ([.int v, .int b]) ++ List.replicate (2 - (lg_sl ([.int v, .int b])).length) Slot.unset).toArray = ls at hl ⊢
  have hl : lv_has ls 2 [(0, .int v), (1, .int b)] := hl
  refine lv_iload_n S.1 S.2.1 dX0_checkUpTo_0 rfl (lv_at hl 0 rfl) ?_
  refine lv_if_lt (tgt := 9) S.1 S.2.1 dX0_checkUpTo_1 (by decide) (fun h1 => ?_) (fun h1 => ?_)
  · exact tw_throwA S hlt ht hlk Z Z.2.2.2.1 z hl.1 (by first | exact ⟨rfl, Or.inl h1⟩ | exact ⟨rfl, Or.inr (Int32.not_le.mp h6)⟩) (fun q h => h) dX0_checkUpTo_9 dX0_checkUpTo_12 dX0_checkUpTo_13 dX0_checkUpTo_15 dX0_checkUpTo_18 (Nat.le_of_ble_eq_true rfl) (Nat.le_of_ble_eq_true rfl) (Nat.le_of_ble_eq_true rfl) (Nat.le_of_ble_eq_true rfl) (Nat.le_of_ble_eq_true rfl) (Nat.le_of_ble_eq_true rfl)
  · refine lv_iload_n S.1 S.2.1 dX0_checkUpTo_4 rfl (lv_at hl 0 rfl) ?_
    refine lv_iload_n S.1 S.2.1 dX0_checkUpTo_5 rfl (lv_at hl 1 rfl) ?_
    refine lv_icmp_le (tgt := 19) S.1 S.2.1 dX0_checkUpTo_6 (by decide) (fun h6 => ?_) (fun h6 => ?_)
    · refine vx_ret ?_
      refine W.widen (k := 1) (n := 6) (by omega) (by omega) ?_
      exact tw_vro S hr hlk z ⟨h1, h6⟩ dX0_checkUpTo_19
    · exact tw_throwA S hlt ht hlk Z Z.2.2.2.1 z hl.1 (by first | exact ⟨rfl, Or.inl h1⟩ | exact ⟨rfl, Or.inr (Int32.not_le.mp h6)⟩) (fun q h => h) dX0_checkUpTo_9 dX0_checkUpTo_12 dX0_checkUpTo_13 dX0_checkUpTo_15 dX0_checkUpTo_18 (Nat.le_of_ble_eq_true rfl) (Nat.le_of_ble_eq_true rfl) (Nat.le_of_ble_eq_true rfl) (Nat.le_of_ble_eq_true rfl) (Nat.le_of_ble_eq_true rfl) (Nat.le_of_ble_eq_true rfl)
set_option maxHeartbeats 4000000 in
set_option maxRecDepth 100000 in
/-- a copy -/
theorem kX0_checkCopy (l : Launch) (sz : Nat) (hlt : l.stackTraces = false) {v : Int32} : vx_Met l yX0_checkCopy wsX0_checkCopy ({ frames := 7, cells := 1, slots := 6, locals := 103 }) (va_Pc [.int v] (fun U => U.heap.size = sz ∧ tw_Z (fun q => sz ≤ q) U)) (va_Qv (fun (_ : Unit) => (¬ v < 0 ∧ v ≤ nI 3)) (fun _ _ => True) (fun q => sz ≤ q)) (tw_XC (fun u => u = 1 ∧ (v < 0 ∨ nI 3 < v)) sz) 1 6 (fun q => sz ≤ q) := by
  refine vx_ofW (cc := cX0_checkCopy) (maxL := 1) (ret := none) (by decide) rfl ?_
  intro p e s m args below meth cd s₁ B hml ht hv
  obtain ⟨rfl, hsz, Z⟩ := hv
  subst hsz
  have S : CallFix p m cd cX0_checkCopy 1 s ([.int v] : List Value).toArray tw_wall RX0 := ⟨B.exec, B.bytes, hml, findClass_of_methodNamed B.named, fun w h => atoms_spec (ws := wsX0_checkCopy) B.pre w (List.mem_cons_of_mem _ h)⟩
  have hr := B.returns
  have hlk := B.notSynchronized
  have z : va_S (fun q => s.heap.size ≤ q) s.heap s.heap [] := va_S.rf
  have hl := lv_entry ([.int v]) (n := 1) (Nat.le_of_ble_eq_true rfl)
  rw [lg_entry_eq]
  generalize (lg_sl ([.int v]) ++ List.replicate (1 - (lg_sl ([.int v])).length) Slot.unset).toArray = ls at hl ⊢
  have hl : lv_has ls 1 [(0, .int v)] := hl
  refine lv_iload_n S.1 S.2.1 dX0_checkCopy_0 rfl (lv_at hl 0 rfl) ?_
  refine lv_iconst (v := nI 3) S.1 S.2.1 dX0_checkCopy_1 (by decide) ?_
  refine tw_chk (n := 2) S ht hlk Z z (fun q h => h) (kX0_checkUpTo l _ hlt (v := v) (b := nI 3)) (tw_gS wl_X0_59 wt_X0_checkUpTo wi_X0 wy_X0_checkUpTo) rfl rfl (by decide +kernel) ⟨Nat.le_of_ble_eq_true rfl, Nat.le_of_ble_eq_true rfl⟩ rfl hl.1 rfl (Nat.le_of_ble_eq_true rfl) dX0_checkCopy_2 ⟨Nat.le_of_ble_eq_true rfl, Nat.le_of_ble_eq_true rfl⟩ (Nat.le_of_ble_eq_true rfl) (Nat.le_of_ble_eq_true rfl) (fun u h => h) (fun H locs hp hk z => ?_)
  refine vx_ret ?_
  exact tw_vro S hr hlk z hp dX0_checkCopy_5
set_option maxHeartbeats 4000000 in
set_option maxRecDepth 100000 in
/-- room for a change -/
theorem kX0_checkRoom (l : Launch) (D : va_G) (cI cJ : ClassId) (x : Nat) (ad : Nat → Nat) (st : Nat → Nat → Nat) (sz : Nat) (hlt : l.stackTraces = false) {a : Nat} (hc : a < 4) (hb : st (24 + a) a < 2147483648) (hn : st 9 0 < 2147483648) : vx_Met l yX0_checkRoom wsX0_checkRoom ({ frames := 6, cells := 1, slots := 6, locals := 82 }) (va_Pc [.ref x, .int (nI a)] (fun U => U.heap.size = sz ∧ tw_Z (fun q => sz ≤ q) U ∧ tw_XU D cI cJ x ad st U)) (va_Qv (fun (_ : Unit) => (st (24 + a) a < 400 ∧ st 9 0 < 512)) (fun _ _ => True) (fun q => sz ≤ q)) (tw_XC (fun u => u = 2 ∧ (400 ≤ st (24 + a) a ∨ 512 ≤ st 9 0)) sz) 1 6 (fun q => sz ≤ q) := by
  refine vx_ofW (cc := cX0_checkRoom) (maxL := 2) (ret := none) (by decide) rfl ?_
  intro p e s m args below meth cd s₁ B hml ht hv
  obtain ⟨rfl, hsz, Z, hU⟩ := hv
  subst hsz
  have S : CallFix p m cd cX0_checkRoom 2 s ([.ref x, .int (nI a)] : List Value).toArray tw_wall RX0 := ⟨B.exec, B.bytes, hml, findClass_of_methodNamed B.named, fun w h => atoms_spec (ws := wsX0_checkRoom) B.pre w (List.mem_cons_of_mem _ h)⟩
  have hr := B.returns
  have hlk := B.notSynchronized
  have z : va_S (fun q => s.heap.size ≤ q) s.heap s.heap [] := va_S.rf
  have w := tw_X0 hU
  have hA : ∀ q : Nat, s.heap.size ≤ q → va_A (tw_x cI cJ x ad st) s.heap.size q := fun q h => Or.inr h
  generalize va_A (tw_x cI cJ x ad st) s.heap.size = A at w hA
  have hl := lv_entry ([.ref x, .int (nI a)]) (n := 2) (Nat.le_of_ble_eq_true rfl)
  rw [lg_entry_eq]
  generalize (lg_sl ([.ref x, .int (nI a)]) ++ List.replicate (2 - (lg_sl ([.ref x, .int (nI a)])).length) Slot.unset).toArray = ls at hl ⊢
  have hl : lv_has ls 2 [(0, .ref x), (1, .int (nI a))] := hl
  refine lv_aload_n S.1 S.2.1 dX0_checkRoom_0 rfl (lv_at hl 0 rfl) ?_
  refine xxg_known S w dX0_checkRoom_1 ?_
  refine lv_iload_n S.1 S.2.1 dX0_checkRoom_4 rfl (lv_at hl 1 rfl) ?_
  refine xxr_12 S w (by omega) dX0_checkRoom_5 ?_
  refine lv_iload_n S.1 S.2.1 dX0_checkRoom_6 rfl (lv_at hl 1 rfl) ?_
  refine xxl_24 S w (by omega) (by omega) dX0_checkRoom_7 ?_
  refine lv_sipush (v := nI 400) S.1 S.2.1 dX0_checkRoom_8 (by decide) ?_
  refine lv_icmp_ge (tgt := 24) S.1 S.2.1 dX0_checkRoom_11 (by decide) (fun h11 => ?_) (fun h11 => ?_)
  · have ha : 400 ≤ st (24 + a) a := (tw_le (by omega) hb).mp h11
    exact tw_throwB S hlt ht hlk Z Z.2.2.2.2.1 z hl.1 (by first | exact ⟨rfl, Or.inl ha⟩ | exact ⟨rfl, Or.inr h9⟩) (fun q h => h) dX0_checkRoom_24 dX0_checkRoom_27 dX0_checkRoom_28 dX0_checkRoom_30 dX0_checkRoom_33 (Nat.le_of_ble_eq_true rfl) (Nat.le_of_ble_eq_true rfl) (Nat.le_of_ble_eq_true rfl) (Nat.le_of_ble_eq_true rfl) (Nat.le_of_ble_eq_true rfl) (Nat.le_of_ble_eq_true rfl)
  · have ha : st (24 + a) a < 400 := Nat.not_le.mp (fun g => h11 ((tw_le (by omega) hb).mpr g))
    refine lv_aload_n S.1 S.2.1 dX0_checkRoom_14 rfl (lv_at hl 0 rfl) ?_
    refine xxg_changes S w dX0_checkRoom_15 ?_
    refine lv_sipush (v := nI 512) S.1 S.2.1 dX0_checkRoom_18 (by decide) ?_
    refine lv_icmp_lt (tgt := 34) S.1 S.2.1 dX0_checkRoom_21 (by decide) (fun h21 => ?_) (fun h21 => ?_)
    · have h9 : st 9 0 < 512 := by first | exact (tw_lt hn (by omega)).mp h21 | exact Nat.not_le.mp (fun g => by first | exact h21 ((tw_le (by omega) hn).mpr g) | exact absurd h21 (Int32.not_lt.mpr ((tw_le (by omega) hn).mpr g)))
      refine vx_ret ?_
      refine W.widen (k := 1) (n := 6) (by omega) (by omega) ?_
      exact tw_vro S hr hlk z ⟨ha, h9⟩ dX0_checkRoom_34
    · have h9 : 512 ≤ st 9 0 := by first | exact (tw_le (by omega) hn).mp h21 | exact Nat.not_lt.mp (fun g => h21 ((tw_lt hn (by omega)).mpr g))
      exact tw_throwB S hlt ht hlk Z Z.2.2.2.2.1 z hl.1 (by first | exact ⟨rfl, Or.inl ha⟩ | exact ⟨rfl, Or.inr h9⟩) (fun q h => h) dX0_checkRoom_24 dX0_checkRoom_27 dX0_checkRoom_28 dX0_checkRoom_30 dX0_checkRoom_33 (Nat.le_of_ble_eq_true rfl) (Nat.le_of_ble_eq_true rfl) (Nat.le_of_ble_eq_true rfl) (Nat.le_of_ble_eq_true rfl) (Nat.le_of_ble_eq_true rfl) (Nat.le_of_ble_eq_true rfl)
end
section
/-! What the class's calls answer, in words of its state. -/
theorem tw_add_o {st : Nat → Nat → Nat} {a t k y : Nat} (h : (2 < k ∧ k < 9) ∨ 24 ≤ k ∨ (k = 9 ∧ y ≠ 0)) (ha : a < 4) : tw_add st a t k y = st k y := by
  unfold tw_add
  have e1 : tw_up (tw_up (tw_hadK st (tw_add3 st a t) a (st 9 0) 4) (20 + a) (st (24 + a) a) (st 9 0)) 9 0 (st 9 0 + 1) k y = tw_up (tw_hadK st (tw_add3 st a t) a (st 9 0) 4) (20 + a) (st (24 + a) a) (st 9 0) k y := by
    by_cases g : k = 9
    · exact tw_up_i (by omega)
    · exact tw_up_k g
  rw [e1, tw_up_k (by omega), tw_hadK_o (by omega) (by omega), tw_add3_o (by omega)]
theorem tw_add_l {st : Nat → Nat → Nat} {a t k y : Nat} (h : k ≤ 2) (ha : a < 4) : tw_add st a t k y = tw_add3 st a t k y := by
  unfold tw_add
  rw [tw_up_k (by omega), tw_up_k (by omega), tw_hadK_o (by omega) (by omega)]
theorem tw_add_0 {st : Nat → Nat → Nat} {a t : Nat} (ha : a < 4) : tw_add st a t 0 (st 9 0) = a := by
  rw [tw_add_l (by omega) ha]; unfold tw_add3; rw [tw_up_k (by omega), tw_up_k (by omega), tw_up_e]
theorem tw_add_1 {st : Nat → Nat → Nat} {a t : Nat} (ha : a < 4) : tw_add st a t 1 (st 9 0) = st (24 + a) a := by
  rw [tw_add_l (by omega) ha]; unfold tw_add3; rw [tw_up_k (by omega), tw_up_e]
theorem tw_add_2 {st : Nat → Nat → Nat} {a t : Nat} (ha : a < 4) : tw_add st a t 2 (st 9 0) = t := by
  rw [tw_add_l (by omega) ha]; unfold tw_add3; rw [tw_up_e]
theorem tw_add_9 {st : Nat → Nat → Nat} {a t : Nat} : tw_add st a t 9 0 = st 9 0 + 1 := by unfold tw_add; rw [tw_up_e]
/-- .. with its byte and name -/
def tw_new (st : Nat → Nat → Nat) (a b : Nat) : Nat → Nat → Nat := tw_up (tw_up (tw_add st a 0) 3 (st 9 0) b) 4 (st 9 0) (4 * (st 7 a + 1) + a)
theorem tw_new_o {st : Nat → Nat → Nat} {a b k y : Nat} (h : k ≠ 3) (h2 : k ≠ 4) : tw_new st a b k y = tw_add st a 0 k y := by unfold tw_new; rw [tw_up_k h2, tw_up_k h]
theorem tw_new_4 {st : Nat → Nat → Nat} {a b y : Nat} (ha : a < 4) : tw_new st a b 4 y = if y = st 9 0 then 4 * (st 7 a + 1) + a else st 4 y := by
  unfold tw_new
  by_cases g : y = st 9 0
  · rw [if_pos g, g, tw_up_e]
  · rw [if_neg g, tw_up_i g, tw_up_k (by omega), tw_add_o (by omega) ha]
theorem tw_wv_o {st : Nat → Nat → Nat} {q i k y : Nat} (h : k ≠ 6) (h2 : k ≠ 9 ∨ y ≠ 1) : tw_wv st q i k y = st k y := by
  unfold tw_wv
  have e : tw_up (tw_up (tw_mv st q) 6 q i) 9 1 (st 9 1 + 1) k y = tw_up (tw_mv st q) 6 q i k y := by
    by_cases g : k = 9
    · exact tw_up_i (by omega)
    · exact tw_up_k g
  rw [e, tw_up_k h]
  unfold tw_mv
  rw [if_neg h]
theorem tw_wv_9 {st : Nat → Nat → Nat} {q i : Nat} : tw_wv st q i 9 1 = st 9 1 + 1 := by unfold tw_wv; rw [tw_up_e]
theorem tw_wv_6 {st : Nat → Nat → Nat} {q i p : Nat} (hp : p < st 9 1 + 1) : tw_wv st q i 6 p = tw_ins (st 6) q i p := by
  unfold tw_wv
  rw [tw_up_k (by omega)]
  rcases Nat.lt_trichotomy p q with g | g | g
  · rw [tw_up_i (by omega), tw_ins_lt g]
    unfold tw_mv
    rw [if_pos rfl, if_neg (by omega)]
  · rw [g, tw_up_e, tw_ins_eq]
  · rw [tw_up_i (by omega), tw_ins_gt g]
    unfold tw_mv
    rw [if_pos rfl, if_pos (by omega)]
def tw_nc (v : Int32) : Prop := v < 0 ∨ nI 3 < v
theorem tw_up_of {v : Int32} {n : Nat} (hn : n < 2147483648) (h : ¬ v < 0 ∧ v ≤ nI n) : ∃ k, k ≤ n ∧ v = nI k := nI_of2 (nI_toInt hn) h.1 h.2
theorem tw_copy {v : Int32} (h : ¬ v < 0 ∧ v ≤ nI 3) : ∃ a, a < 4 ∧ v = nI a := by
  obtain ⟨k, h1, h2⟩ := tw_up_of (by decide) h
  exact ⟨k, by omega, h2⟩
theorem tw_max_i {v : Int32} : ¬ (2147483647 : Int32) < v := by
  intro h
  have h1 := Int32.lt_iff_toInt_lt.mp h
  have h2 : (2147483647 : Int32).toInt = 2147483647 := by decide
  have h3 := Int32.toInt_lt v
  omega
/-- numbers that the class's state keeps to -/
def tw_bd (md : Nat → Nat) (st : Nat → Nat → Nat) : Prop :=
  st 9 1 ≤ 512 ∧ (∀ p, p < st 9 1 → st 6 p < 512) ∧ (∀ i, st 5 i < 16) ∧ (∀ c m, c < 4 → m < 4 → st (24 + c) m ≤ 400) ∧ (∀ c, c < 4 → st 8 c ≤ 512 ∧ st 7 c ≤ 512) ∧
  (∀ i, i < st 9 0 → i < 512 ∧ st 0 i < 4 ∧ st 1 i < 400 ∧ (∀ j, st 2 i = j + 1 → j < 512) ∧ st 2 i < 2147483648 ∧ ∀ m, m < 4 → st (16 + m) i < 2147483648) ∧
  (∀ c k, c < 4 → k < md c → st (20 + c) k < st 9 0) ∧ (∀ c j, c < 4 → (st 5 j).testBit c = true → 1 ≤ st 8 c)
theorem tw_bd_of {md : Nat → Nat} {st : Nat → Nat → Nat} (h : tw_ci md st) (hn : st 9 0 ≤ 512) : tw_bd md st := by
  obtain ⟨⟨l1, l2, l3, l4, l5⟩, ⟨k1, k2⟩, ⟨b1, b2, b3⟩, ho, hg⟩ := h
  have ho2 := ho
  obtain ⟨o1, o2, o3, o4, o5⟩ := ho
  refine ⟨by omega, fun p hp => by have := (o2 p hp).1; omega, b1, fun c m hc hm => by have := k1 c m hc hm; have := l3 m hm; omega, fun c hc => ⟨by rw [b3 c hc]; have := tw_cn_le (fun p => (st 5 (st 6 p)).testBit c) (st 9 1); omega, by have := tw_gr_le ho2 hg hc; omega⟩, fun i hi => ?_, fun c k hc hk => (l1 c k hc hk).1, fun c j hc hb => ?_⟩
  · obtain ⟨x1, x2, x3⟩ := l2 i hi
    refine ⟨by omega, x1, by have := l3 _ x1; omega, fun j hj => by have := (l5 i j hi hj).1; omega, ?_, fun m hm => ?_⟩
    · rcases Nat.eq_zero_or_pos (st 2 i) with g | g
      · omega
      · have := (l5 i (st 2 i - 1) hi (by omega)).1
        omega
    · rcases Nat.lt_or_ge (st (16 + m) i) 2147483648 with g | g
      · exact g
      · have := ((l4 i hi).2 m 400 hm (by omega)).1
        have := l3 m hm
        omega
  · obtain ⟨x1, x2, -, -⟩ := (b2 j c hc).mp hb
    obtain ⟨p, p1, p2⟩ := o4 j x1 x2
    rw [b3 c hc]
    have : tw_cn (fun p => (st 5 (st 6 p)).testBit c) p < tw_cn (fun p => (st 5 (st 6 p)).testBit c) (st 9 1) := tw_cn_lt p1 (by rw [p2]; exact hb)
    omega
def tw_pl (st : Nat → Nat → Nat) (a : Nat) (t r : Int32) (g : Nat → Nat) : Prop := (∃ p, p < st 9 1 ∧ tw_f st a p = true ∧ t = nI (tw_cn (tw_f st a) p) ∧ r = nI (g p)) ∨ (r = -1 ∧ ∀ p, p < st 9 1 → tw_f st a p = true → t ≠ nI (tw_cn (tw_f st a) p))
/-- which place stands behind place b (counted from 1, 0 the START) of text letter k -/
def tw_bh (st : Nat → Nat → Nat) (a k b : Nat) : Prop := (k = 0 ∧ b = 0) ∨ ∃ p, p < st 9 1 ∧ tw_f st a p = true ∧ tw_cn (tw_f st a) p + 1 = k ∧ b = p + 1
def tw_okIns (st : Nat → Nat → Nat) (v t b r : Int32) (u : Nat → Nat → Nat) : Prop :=
  ∃ a k d bh q, a < 4 ∧ v = nI a ∧ k ≤ st 8 a ∧ t = nI k ∧ d ≤ 255 ∧ b = nI d ∧ st (24 + a) a < 400 ∧ st 9 0 < 512 ∧ r = nI (st (24 + a) a) ∧ tw_bh st a k bh ∧ bh ≤ q ∧ q ≤ st 9 1 ∧
    (∀ j, bh ≤ j → j < q → tw_new st a d 4 (st 9 0) < tw_new st a d 4 (st 6 j)) ∧ (q < st 9 1 → tw_new st a d 4 (st 6 q) ≤ tw_new st a d 4 (st 9 0)) ∧ u = tw_rcv (tw_wv (tw_new st a d) q (st 9 0)) a (st 9 0)
def tw_pxIns (st : Nat → Nat → Nat) (v t b : Int32) (u : Nat) : Prop :=
  (u = 1 ∧ (tw_nc v ∨ ∃ a, a < 4 ∧ v = nI a ∧ (t < 0 ∨ nI (st 8 a) < t ∨ b < 0 ∨ nI 255 < b))) ∨ (u = 2 ∧ ∃ a k d, a < 4 ∧ v = nI a ∧ k ≤ st 8 a ∧ t = nI k ∧ d ≤ 255 ∧ b = nI d ∧ (400 ≤ st (24 + a) a ∨ 512 ≤ st 9 0))
def tw_okRem (st : Nat → Nat → Nat) (v t r : Int32) (u : Nat → Nat → Nat) : Prop :=
  ∃ a p, a < 4 ∧ v = nI a ∧ p < st 9 1 ∧ tw_f st a p = true ∧ t = nI (tw_cn (tw_f st a) p) ∧ st (24 + a) a < 400 ∧ st 9 0 < 512 ∧ r = nI (st (24 + a) a) ∧ u = tw_rcv (tw_add st a (st 6 p + 1)) a (st 9 0)
def tw_pxRem (st : Nat → Nat → Nat) (v t : Int32) (u : Nat) : Prop :=
  (u = 1 ∧ (tw_nc v ∨ ∃ a, a < 4 ∧ v = nI a ∧ ∀ p, p < st 9 1 → tw_f st a p = true → t ≠ nI (tw_cn (tw_f st a) p))) ∨ (u = 2 ∧ ∃ a p, a < 4 ∧ v = nI a ∧ p < st 9 1 ∧ tw_f st a p = true ∧ t = nI (tw_cn (tw_f st a) p) ∧ (400 ≤ st (24 + a) a ∨ 512 ≤ st 9 0))
def tw_okBr (st : Nat → Nat → Nat) (v t w : Int32) (u : Nat → Nat → Nat) : Prop :=
  ∃ a b k, a < 4 ∧ v = nI a ∧ b < 4 ∧ w = nI b ∧ a ≠ b ∧ k < st (24 + a) a ∧ t = nI k ∧ ((tw_has st b (st (20 + a) k) ∧ u = st) ∨ (¬ tw_has st b (st (20 + a) k) ∧ (∀ j, j < 4 → st (16 + j) (st (20 + a) k) ≤ st (24 + b) j) ∧ u = tw_rcv st b (st (20 + a) k)))
def tw_pxBr (st : Nat → Nat → Nat) (v t w : Int32) (u : Nat) : Prop :=
  (u = 1 ∧ (tw_nc v ∨ tw_nc w ∨ v = w ∨ ∃ a, a < 4 ∧ v = nI a ∧ (t < 0 ∨ nI (st (24 + a) a) - nI 1 < t))) ∨ (u = 2 ∧ ∃ a b k, a < 4 ∧ v = nI a ∧ b < 4 ∧ w = nI b ∧ a ≠ b ∧ k < st (24 + a) a ∧ t = nI k ∧ ¬ tw_has st b (st (20 + a) k) ∧ ¬ ∀ j, j < 4 → st (16 + j) (st (20 + a) k) ≤ st (24 + b) j)
theorem tw_m1le {t : Int32} {n : Nat} (hn : n < 2147483648) (h : ¬ t < 0 ∧ t ≤ nI n - nI 1) : ∃ k, k < n ∧ t = nI k := by
  rcases Nat.eq_zero_or_pos n with g | g
  · rw [g] at h
    have h1 : nI 0 - nI 1 = (-1 : Int32) := by decide
    rw [h1] at h
    have h2 := Int32.le_iff_toInt_le.mp h.2
    have h3 : ¬ t.toInt < 0 := fun q => h.1 (Int32.lt_iff_toInt_lt.mpr (by simpa using q))
    have h4 : (-1 : Int32).toInt = -1 := by decide
    omega
  · rw [pk_sub g] at h
    obtain ⟨k, h1, h2⟩ := tw_up_of (by omega) h
    exact ⟨k, by omega, h2⟩
end
section
theorem tw_nm1 {k : Nat} (h : k < 2147483648) : nI k ≠ -1 := fun q => by
  have h1 := nI_toInt (n := k) h
  rw [q] at h1
  have h2 : (-1 : Int32).toInt = -1 := by decide
  omega
set_option maxHeartbeats 4000000 in
set_option maxRecDepth 100000 in
/-- length(c) -/
theorem kX0_length (l : Launch) (D : va_G) (cI cJ : ClassId) (x : Nat) (ad : Nat → Nat) (st : Nat → Nat → Nat) (sz : Nat) (hlt : l.stackTraces = false) {v : Int32} {md : Nat → Nat} (hci : tw_ci md st) (hcc : ∀ c, c < 4 → st (24 + c) c = md c) (hnc : st 9 0 ≤ 512) (hn4 : ∀ j, st 4 j < 2147483648) : vx_Met l yX0_length wsX0_length ({ frames := 9, cells := 4, slots := 24, locals := 150 }) (va_Pc [.ref x, .int v] (fun U => U.heap.size = sz ∧ tw_Z (fun q => sz ≤ q) U ∧ tw_XU D cI cJ x ad st U)) (va_Qi (fun r u => ∃ a, a < 4 ∧ v = nI a ∧ r = nI (st 8 a) ∧ u = st) (tw_XT D cI cJ x ad (va_A (tw_x cI cJ x ad st) sz)) (va_A (tw_x cI cJ x ad st) sz)) (tw_XC (fun u => u = 1 ∧ tw_nc v) sz) 4 24 (va_A (tw_x cI cJ x ad st) sz) := by
  refine vx_ofW (cc := cX0_length) (maxL := 2) (ret := (some .int)) (by decide) rfl ?_
  intro p e s m args below meth cd s₁ B hml ht hv
  obtain ⟨rfl, hsz, Z, hU⟩ := hv
  subst hsz
  have S : CallFix p m cd cX0_length 2 s ([.ref x, .int v] : List Value).toArray tw_wall RX0 := ⟨B.exec, B.bytes, hml, findClass_of_methodNamed B.named, fun w h => atoms_spec (ws := wsX0_length) B.pre w (List.mem_cons_of_mem _ h)⟩
  have hr := B.returns
  have hlk := B.notSynchronized
  have z : va_S (fun q => s.heap.size ≤ q) s.heap s.heap [] := va_S.rf
  have w := tw_X0 hU
  have hA : ∀ q : Nat, s.heap.size ≤ q → va_A (tw_x cI cJ x ad st) s.heap.size q := fun q h => Or.inr h
  generalize va_A (tw_x cI cJ x ad st) s.heap.size = A at w hA ⊢
  have hl := lv_entry ([.ref x, .int v]) (n := 2) (Nat.le_of_ble_eq_true rfl)
  rw [lg_entry_eq]
  generalize (lg_sl ([.ref x, .int v]) ++ List.replicate (2 - (lg_sl ([.ref x, .int v])).length) Slot.unset).toArray = ls at hl ⊢
  have hl : lv_has ls 2 [(0, .ref x), (1, .int v)] := hl
  obtain ⟨bl, bo, b5, bk, b8, bi, bw, bs⟩ := tw_bd_of hci hnc
  refine lv_iload_n S.1 S.2.1 dX0_length_0 rfl (lv_at hl 1 rfl) ?_
  refine tw_chk (n := 1) S ht hlk Z z hA (kX0_checkCopy l _ hlt (v := v)) (tw_gS wl_X0_55 wt_X0_checkCopy wi_X0 wy_X0_checkCopy) rfl rfl (by decide +kernel) ⟨Nat.le_of_ble_eq_true rfl, Nat.le_of_ble_eq_true rfl⟩ rfl hl.1 rfl (Nat.le_of_ble_eq_true rfl) dX0_length_1 ⟨Nat.le_of_ble_eq_true rfl, Nat.le_of_ble_eq_true rfl⟩ (Nat.le_of_ble_eq_true rfl) (Nat.le_of_ble_eq_true rfl) (fun u h => h) (fun H locs hp hk z => ?_)
  have w := w.kept hk (tw_mono z hA)
  obtain ⟨a, ha, rfl⟩ := tw_copy hp
  refine lv_aload_n S.1 S.2.1 dX0_length_4 rfl (lv_at hl 0 rfl) ?_
  refine xxg_lengths S w dX0_length_5 ?_
  refine lv_iload_n S.1 S.2.1 dX0_length_8 rfl (lv_at hl 1 rfl) ?_
  refine xxl_8 S w (by omega) dX0_length_9 ?_
  refine vx_ret ?_
  refine W.widen (k := 4) (n := 24) (by omega) (by omega) ?_
  exact tw_iret S hr hlk w ⟨a, ha, rfl, rfl, rfl⟩ dX0_length_10
set_option maxHeartbeats 4000000 in
set_option maxRecDepth 100000 in
/-- has(c, of) -/
theorem kX0_has (l : Launch) (D : va_G) (cI cJ : ClassId) (x : Nat) (ad : Nat → Nat) (st : Nat → Nat → Nat) (sz : Nat) (hlt : l.stackTraces = false) {v t : Int32} {md : Nat → Nat} (hci : tw_ci md st) (hcc : ∀ c, c < 4 → st (24 + c) c = md c) (hnc : st 9 0 ≤ 512) (hn4 : ∀ j, st 4 j < 2147483648) : vx_Met l yX0_has wsX0_has ({ frames := 9, cells := 4, slots := 24, locals := 150 }) (va_Pc [.ref x, .int v, .int t] (fun U => U.heap.size = sz ∧ tw_Z (fun q => sz ≤ q) U ∧ tw_XU D cI cJ x ad st U)) (va_Qi (fun r u => ∃ a b, a < 4 ∧ v = nI a ∧ b < 4 ∧ t = nI b ∧ r = nI (st (24 + a) b) ∧ u = st) (tw_XT D cI cJ x ad (va_A (tw_x cI cJ x ad st) sz)) (va_A (tw_x cI cJ x ad st) sz)) (tw_XC (fun u => u = 1 ∧ (tw_nc v ∨ tw_nc t)) sz) 4 24 (va_A (tw_x cI cJ x ad st) sz) := by
  refine vx_ofW (cc := cX0_has) (maxL := 3) (ret := (some .int)) (by decide) rfl ?_
  intro p e s m args below meth cd s₁ B hml ht hv
  obtain ⟨rfl, hsz, Z, hU⟩ := hv
  subst hsz
  have S : CallFix p m cd cX0_has 3 s ([.ref x, .int v, .int t] : List Value).toArray tw_wall RX0 := ⟨B.exec, B.bytes, hml, findClass_of_methodNamed B.named, fun w h => atoms_spec (ws := wsX0_has) B.pre w (List.mem_cons_of_mem _ h)⟩
  have hr := B.returns
  have hlk := B.notSynchronized
  have z : va_S (fun q => s.heap.size ≤ q) s.heap s.heap [] := va_S.rf
  have w := tw_X0 hU
  have hA : ∀ q : Nat, s.heap.size ≤ q → va_A (tw_x cI cJ x ad st) s.heap.size q := fun q h => Or.inr h
  generalize va_A (tw_x cI cJ x ad st) s.heap.size = A at w hA ⊢
  have hl := lv_entry ([.ref x, .int v, .int t]) (n := 3) (Nat.le_of_ble_eq_true rfl)
  rw [lg_entry_eq]
  generalize (lg_sl ([.ref x, .int v, .int t]) ++ List.replicate (3 - (lg_sl ([.ref x, .int v, .int t])).length) Slot.unset).toArray = ls at hl ⊢
  have hl : lv_has ls 3 [(0, .ref x), (1, .int v), (2, .int t)] := hl
  obtain ⟨bl, bo, b5, bk, b8, bi, bw, bs⟩ := tw_bd_of hci hnc
  refine lv_iload_n S.1 S.2.1 dX0_has_0 rfl (lv_at hl 1 rfl) ?_
  refine tw_chk (n := 1) S ht hlk Z z hA (kX0_checkCopy l _ hlt (v := v)) (tw_gS wl_X0_55 wt_X0_checkCopy wi_X0 wy_X0_checkCopy) rfl rfl (by decide +kernel) ⟨Nat.le_of_ble_eq_true rfl, Nat.le_of_ble_eq_true rfl⟩ rfl hl.1 rfl (Nat.le_of_ble_eq_true rfl) dX0_has_1 ⟨Nat.le_of_ble_eq_true rfl, Nat.le_of_ble_eq_true rfl⟩ (Nat.le_of_ble_eq_true rfl) (Nat.le_of_ble_eq_true rfl) (fun u h => ⟨h.1, Or.inl h.2⟩) (fun H locs hp hk z => ?_)
  have w := w.kept hk (tw_mono z hA)
  obtain ⟨a, ha, rfl⟩ := tw_copy hp
  refine lv_iload_n S.1 S.2.1 dX0_has_4 rfl (lv_at hl 2 rfl) ?_
  refine tw_chk (n := 1) S ht hlk Z z hA (kX0_checkCopy l _ hlt (v := t)) (tw_gS wl_X0_55 wt_X0_checkCopy wi_X0 wy_X0_checkCopy) rfl rfl (by decide +kernel) ⟨Nat.le_of_ble_eq_true rfl, Nat.le_of_ble_eq_true rfl⟩ rfl hl.1 rfl (Nat.le_of_ble_eq_true rfl) dX0_has_5 ⟨Nat.le_of_ble_eq_true rfl, Nat.le_of_ble_eq_true rfl⟩ (Nat.le_of_ble_eq_true rfl) (Nat.le_of_ble_eq_true rfl) (fun u h => ⟨h.1, Or.inr h.2⟩) (fun H locs hp hk z => ?_)
  have w := w.kept hk (tw_mono z hA)
  obtain ⟨b, hb, rfl⟩ := tw_copy hp
  refine lv_aload_n S.1 S.2.1 dX0_has_8 rfl (lv_at hl 0 rfl) ?_
  refine xxg_known S w dX0_has_9 ?_
  refine lv_iload_n S.1 S.2.1 dX0_has_12 rfl (lv_at hl 1 rfl) ?_
  refine xxr_12 S w (by omega) dX0_has_13 ?_
  refine lv_iload_n S.1 S.2.1 dX0_has_14 rfl (lv_at hl 2 rfl) ?_
  refine xxl_24 S w (by omega) (by omega) dX0_has_15 ?_
  refine vx_ret ?_
  refine W.widen (k := 4) (n := 24) (by omega) (by omega) ?_
  exact tw_iret S hr hlk w ⟨a, b, ha, rfl, hb, rfl, rfl, rfl⟩ dX0_has_16
set_option maxHeartbeats 4000000 in
set_option maxRecDepth 100000 in
/-- the place to be read -/
theorem kX0_placeToRead (l : Launch) (D : va_G) (cI cJ : ClassId) (x : Nat) (ad : Nat → Nat) (st : Nat → Nat → Nat) (sz : Nat) (hlt : l.stackTraces = false) {v t : Int32} {md : Nat → Nat} (hci : tw_ci md st) (hcc : ∀ c, c < 4 → st (24 + c) c = md c) (hnc : st 9 0 ≤ 512) (hn4 : ∀ j, st 4 j < 2147483648) : vx_Met l yX0_placeToRead wsX0_placeToRead ({ frames := 8, cells := 2, slots := 12, locals := 123 }) (va_Pc [.ref x, .int v, .int t] (fun U => U.heap.size = sz ∧ tw_Z (fun q => sz ≤ q) U ∧ tw_XU D cI cJ x ad st U)) (va_Qi (fun r (_ : Unit) => ∃ a, a < 4 ∧ v = nI a ∧ ¬ t < 0 ∧ tw_pl st a t r (fun p => p)) (fun _ _ => True) (fun q => sz ≤ q)) (tw_XC (fun u => u = 1 ∧ (tw_nc v ∨ t < 0)) sz) 2 12 (fun q => sz ≤ q) := by
  refine vx_ofW (cc := cX0_placeToRead) (maxL := 3) (ret := (some .int)) (by decide) rfl ?_
  intro p e s m args below meth cd s₁ B hml ht hv
  obtain ⟨rfl, hsz, Z, hU⟩ := hv
  subst hsz
  have S : CallFix p m cd cX0_placeToRead 3 s ([.ref x, .int v, .int t] : List Value).toArray tw_wall RX0 := ⟨B.exec, B.bytes, hml, findClass_of_methodNamed B.named, fun w h => atoms_spec (ws := wsX0_placeToRead) B.pre w (List.mem_cons_of_mem _ h)⟩
  have hr := B.returns
  have hlk := B.notSynchronized
  have z : va_S (fun q => s.heap.size ≤ q) s.heap s.heap [] := va_S.rf
  have w := tw_X0 hU
  have hA : ∀ q : Nat, s.heap.size ≤ q → va_A (tw_x cI cJ x ad st) s.heap.size q := fun q h => Or.inr h
  generalize va_A (tw_x cI cJ x ad st) s.heap.size = A at w hA
  have hl := lv_entry ([.ref x, .int v, .int t]) (n := 3) (Nat.le_of_ble_eq_true rfl)
  rw [lg_entry_eq]
  generalize (lg_sl ([.ref x, .int v, .int t]) ++ List.replicate (3 - (lg_sl ([.ref x, .int v, .int t])).length) Slot.unset).toArray = ls at hl ⊢
  have hl : lv_has ls 3 [(0, .ref x), (1, .int v), (2, .int t)] := hl
  obtain ⟨bl, bo, b5, bk, b8, bi, bw, bs⟩ := tw_bd_of hci hnc
  refine lv_iload_n S.1 S.2.1 dX0_placeToRead_0 rfl (lv_at hl 1 rfl) ?_
  refine tw_chk (n := 1) S ht hlk Z z (fun q h => h) (kX0_checkCopy l _ hlt (v := v)) (tw_gS wl_X0_55 wt_X0_checkCopy wi_X0 wy_X0_checkCopy) rfl rfl (by decide +kernel) ⟨Nat.le_of_ble_eq_true rfl, Nat.le_of_ble_eq_true rfl⟩ rfl hl.1 rfl (Nat.le_of_ble_eq_true rfl) dX0_placeToRead_1 ⟨Nat.le_of_ble_eq_true rfl, Nat.le_of_ble_eq_true rfl⟩ (Nat.le_of_ble_eq_true rfl) (Nat.le_of_ble_eq_true rfl) (fun u h => ⟨h.1, Or.inl h.2⟩) (fun H locs hp hk z => ?_)
  have w := w.kept hk (tw_mono z hA)
  obtain ⟨a, ha, rfl⟩ := tw_copy hp
  refine lv_iload_n S.1 S.2.1 dX0_placeToRead_4 rfl (lv_at hl 2 rfl) ?_
  refine lv_ldc S.1 S.2.1 S.2.2.2.1 (S.2.2.2.2 _ wo_109) dX0_placeToRead_5 ?_
  refine tw_chk (n := 2) S ht hlk Z z (fun q h => h) (kX0_checkUpTo l _ hlt (v := t) (b := 2147483647)) (tw_gS wl_X0_59 wt_X0_checkUpTo wi_X0 wy_X0_checkUpTo) rfl rfl (by decide +kernel) ⟨Nat.le_of_ble_eq_true rfl, Nat.le_of_ble_eq_true rfl⟩ rfl hl.1 rfl (Nat.le_of_ble_eq_true rfl) dX0_placeToRead_7 ⟨Nat.le_of_ble_eq_true rfl, Nat.le_of_ble_eq_true rfl⟩ (Nat.le_of_ble_eq_true rfl) (Nat.le_of_ble_eq_true rfl) (fun u h => ⟨h.1, Or.inr (h.2.elim id (fun q => absurd q tw_max_i))⟩) (fun H locs hp hk z => ?_)
  have w := w.kept hk (tw_mono z hA)
  refine lv_aload_n S.1 S.2.1 dX0_placeToRead_10 rfl (lv_at hl 0 rfl) ?_
  refine lv_iload_n S.1 S.2.1 dX0_placeToRead_11 rfl (lv_at hl 1 rfl) ?_
  refine lv_iload_n S.1 S.2.1 dX0_placeToRead_12 rfl (lv_at hl 2 rfl) ?_
  have ht0 := hp.1
  refine tw_cro (n := 2) S w z (fun q h => h) hA (kX0_placeOf l D cI cJ x ad st _ (t := t) ha bl bo b5) (tw_gV wl_X0_66 wn_X0_placeOf ws_X0_placeOf wi_X0 wy_X0_placeOf) rfl rfl (by decide +kernel) ⟨Nat.le_of_ble_eq_true rfl, Nat.le_of_ble_eq_true rfl⟩ rfl hl.1 rfl (Nat.le_of_ble_eq_true rfl) dX0_placeToRead_13 ⟨Nat.le_of_ble_eq_true rfl, Nat.le_of_ble_eq_true rfl⟩ (fun r H locs hp w z => ?_)
  refine vx_ret ?_
  refine W.widen (k := 2) (n := 12) (by omega) (by omega) ?_
  exact tw_iro S hr rfl hlk z ⟨a, ha, rfl, ht0, hp⟩ dX0_placeToRead_16
set_option maxHeartbeats 4000000 in
set_option maxRecDepth 100000 in
/-- letter(c, at) -/
theorem kX0_letter (l : Launch) (D : va_G) (cI cJ : ClassId) (x : Nat) (ad : Nat → Nat) (st : Nat → Nat → Nat) (sz : Nat) (hlt : l.stackTraces = false) {v t : Int32} {md : Nat → Nat} (hci : tw_ci md st) (hcc : ∀ c, c < 4 → st (24 + c) c = md c) (hnc : st 9 0 ≤ 512) (hn4 : ∀ j, st 4 j < 2147483648) : vx_Met l yX0_letter wsX0_letter ({ frames := 9, cells := 4, slots := 24, locals := 150 }) (va_Pc [.ref x, .int v, .int t] (fun U => U.heap.size = sz ∧ tw_Z (fun q => sz ≤ q) U ∧ tw_XU D cI cJ x ad st U)) (va_Qi (fun r u => ∃ a, a < 4 ∧ v = nI a ∧ ¬ t < 0 ∧ tw_pl st a t r (fun p => st 3 (st 6 p)) ∧ u = st) (tw_XT D cI cJ x ad (va_A (tw_x cI cJ x ad st) sz)) (va_A (tw_x cI cJ x ad st) sz)) (tw_XC (fun u => u = 1 ∧ (tw_nc v ∨ t < 0)) sz) 4 24 (va_A (tw_x cI cJ x ad st) sz) := by
  refine vx_ofW (cc := cX0_letter) (maxL := 4) (ret := (some .int)) (by decide) rfl ?_
  intro p e s m args below meth cd s₁ B hml ht hv
  obtain ⟨rfl, hsz, Z, hU⟩ := hv
  subst hsz
  have S : CallFix p m cd cX0_letter 4 s ([.ref x, .int v, .int t] : List Value).toArray tw_wall RX0 := ⟨B.exec, B.bytes, hml, findClass_of_methodNamed B.named, fun w h => atoms_spec (ws := wsX0_letter) B.pre w (List.mem_cons_of_mem _ h)⟩
  have hr := B.returns
  have hlk := B.notSynchronized
  have z : va_S (fun q => s.heap.size ≤ q) s.heap s.heap [] := va_S.rf
  have w := tw_X0 hU
  have hA : ∀ q : Nat, s.heap.size ≤ q → va_A (tw_x cI cJ x ad st) s.heap.size q := fun q h => Or.inr h
  generalize va_A (tw_x cI cJ x ad st) s.heap.size = A at w hA ⊢
  have hl := lv_entry ([.ref x, .int v, .int t]) (n := 4) (Nat.le_of_ble_eq_true rfl)
  rw [lg_entry_eq]
  generalize (lg_sl ([.ref x, .int v, .int t]) ++ List.replicate (4 - (lg_sl ([.ref x, .int v, .int t])).length) Slot.unset).toArray = ls at hl ⊢
  have hl : lv_has ls 4 [(0, .ref x), (1, .int v), (2, .int t)] := hl
  obtain ⟨bl, bo, b5, bk, b8, bi, bw, bs⟩ := tw_bd_of hci hnc
  refine lv_aload_n S.1 S.2.1 dX0_letter_0 rfl (lv_at hl 0 rfl) ?_
  refine lv_iload_n S.1 S.2.1 dX0_letter_1 rfl (lv_at hl 1 rfl) ?_
  refine lv_iload_n S.1 S.2.1 dX0_letter_2 rfl (lv_at hl 2 rfl) ?_
  refine tw_chi (n := 2) (mc1 := 2) (ms1 := 12) S ht hlk w hA Z z hA (kX0_placeToRead l D cI cJ x ad st _ hlt hci hcc hnc hn4) (tw_gV wl_X0_100 wn_X0_placeToRead ws_X0_placeToRead wi_X0 wy_X0_placeToRead) rfl rfl (by decide +kernel) ⟨Nat.le_of_ble_eq_true rfl, Nat.le_of_ble_eq_true rfl⟩ rfl hl.1 rfl (Nat.le_of_ble_eq_true rfl) dX0_letter_3 ⟨Nat.le_of_ble_eq_true rfl, Nat.le_of_ble_eq_true rfl⟩ (Nat.le_of_ble_eq_true rfl) (Nat.le_of_ble_eq_true rfl) (fun u h => h) (fun r H locs hp w z => ?_)
  obtain ⟨a, ha, rfl, ht0, hp⟩ := hp
  refine lv_istore_n S.1 S.2.1 dX0_letter_6 rfl hl (by decide) rfl (fun ls hl => ?_)
  refine lv_iload_n S.1 S.2.1 dX0_letter_7 rfl (lv_at hl 0 rfl) ?_
  refine lv_iconst (v := -1) S.1 S.2.1 dX0_letter_8 (by decide) ?_
  refine lv_icmp_ne (tgt := 16) S.1 S.2.1 dX0_letter_9 (by decide) (fun h9 => ?_) (fun h9 => ?_)
  · rcases hp with ⟨q, q1, q2, q3, rfl⟩ | ⟨g, -⟩
    rotate_left
    · exact absurd g h9
    refine lv_aload_n S.1 S.2.1 dX0_letter_16 rfl (lv_at hl 1 rfl) ?_
    refine xxg_bytes S w dX0_letter_17 ?_
    refine lv_aload_n S.1 S.2.1 dX0_letter_20 rfl (lv_at hl 1 rfl) ?_
    refine xxg_order S w dX0_letter_21 ?_
    refine lv_iload_n S.1 S.2.1 dX0_letter_24 rfl (lv_at hl 0 rfl) ?_
    refine xxl_6 S w (by dsimp only; omega) dX0_letter_25 ?_
    refine xxl_3 S w (bo q q1) dX0_letter_26 ?_
    first
      | (refine vx_ret ?_; refine W.widen (k := 4) (n := 24) (by omega) (by omega) ?_; exact tw_iret S hr hlk w ⟨a, ha, rfl, ht0, Or.inl ⟨q, q1, q2, q3, rfl⟩, rfl⟩ dX0_letter_27)
      | (refine vx_ret ?_; refine W.widen (k := 4) (n := 24) (by omega) (by omega) ?_; exact tw_iret S hr hlk w ⟨a, ha, rfl, ht0, Or.inr ⟨rfl, g2⟩, rfl⟩ dX0_letter_27)
  · rcases hp with ⟨q, q1, q2, q3, rfl⟩ | ⟨g, g2⟩
    · exact absurd h9 (tw_nm1 (by dsimp only; omega))
    refine lv_iconst (v := -1) S.1 S.2.1 dX0_letter_12 (by decide) ?_
    refine lv_goto (tgt := 27) S.1 S.2.1 dX0_letter_13 (by decide) ?_
    first
      | (refine vx_ret ?_; refine W.widen (k := 4) (n := 24) (by omega) (by omega) ?_; exact tw_iret S hr hlk w ⟨a, ha, rfl, ht0, Or.inl ⟨q, q1, q2, q3, rfl⟩, rfl⟩ dX0_letter_27)
      | (refine vx_ret ?_; refine W.widen (k := 4) (n := 24) (by omega) (by omega) ?_; exact tw_iret S hr hlk w ⟨a, ha, rfl, ht0, Or.inr ⟨rfl, g2⟩, rfl⟩ dX0_letter_27)
set_option maxHeartbeats 4000000 in
set_option maxRecDepth 100000 in
/-- name(c, at) -/
theorem kX0_name (l : Launch) (D : va_G) (cI cJ : ClassId) (x : Nat) (ad : Nat → Nat) (st : Nat → Nat → Nat) (sz : Nat) (hlt : l.stackTraces = false) {v t : Int32} {md : Nat → Nat} (hci : tw_ci md st) (hcc : ∀ c, c < 4 → st (24 + c) c = md c) (hnc : st 9 0 ≤ 512) (hn4 : ∀ j, st 4 j < 2147483648) : vx_Met l yX0_name wsX0_name ({ frames := 9, cells := 4, slots := 24, locals := 150 }) (va_Pc [.ref x, .int v, .int t] (fun U => U.heap.size = sz ∧ tw_Z (fun q => sz ≤ q) U ∧ tw_XU D cI cJ x ad st U)) (va_Qi (fun r u => ∃ a, a < 4 ∧ v = nI a ∧ ¬ t < 0 ∧ tw_pl st a t r (fun p => st 4 (st 6 p)) ∧ u = st) (tw_XT D cI cJ x ad (va_A (tw_x cI cJ x ad st) sz)) (va_A (tw_x cI cJ x ad st) sz)) (tw_XC (fun u => u = 1 ∧ (tw_nc v ∨ t < 0)) sz) 4 24 (va_A (tw_x cI cJ x ad st) sz) := by
  refine vx_ofW (cc := cX0_name) (maxL := 4) (ret := (some .int)) (by decide) rfl ?_
  intro p e s m args below meth cd s₁ B hml ht hv
  obtain ⟨rfl, hsz, Z, hU⟩ := hv
  subst hsz
  have S : CallFix p m cd cX0_name 4 s ([.ref x, .int v, .int t] : List Value).toArray tw_wall RX0 := ⟨B.exec, B.bytes, hml, findClass_of_methodNamed B.named, fun w h => atoms_spec (ws := wsX0_name) B.pre w (List.mem_cons_of_mem _ h)⟩
  have hr := B.returns
  have hlk := B.notSynchronized
  have z : va_S (fun q => s.heap.size ≤ q) s.heap s.heap [] := va_S.rf
  have w := tw_X0 hU
  have hA : ∀ q : Nat, s.heap.size ≤ q → va_A (tw_x cI cJ x ad st) s.heap.size q := fun q h => Or.inr h
  generalize va_A (tw_x cI cJ x ad st) s.heap.size = A at w hA ⊢
  have hl := lv_entry ([.ref x, .int v, .int t]) (n := 4) (Nat.le_of_ble_eq_true rfl)
  rw [lg_entry_eq]
  generalize (lg_sl ([.ref x, .int v, .int t]) ++ List.replicate (4 - (lg_sl ([.ref x, .int v, .int t])).length) Slot.unset).toArray = ls at hl ⊢
  have hl : lv_has ls 4 [(0, .ref x), (1, .int v), (2, .int t)] := hl
  obtain ⟨bl, bo, b5, bk, b8, bi, bw, bs⟩ := tw_bd_of hci hnc
  refine lv_aload_n S.1 S.2.1 dX0_name_0 rfl (lv_at hl 0 rfl) ?_
  refine lv_iload_n S.1 S.2.1 dX0_name_1 rfl (lv_at hl 1 rfl) ?_
  refine lv_iload_n S.1 S.2.1 dX0_name_2 rfl (lv_at hl 2 rfl) ?_
  refine tw_chi (n := 2) (mc1 := 2) (ms1 := 12) S ht hlk w hA Z z hA (kX0_placeToRead l D cI cJ x ad st _ hlt hci hcc hnc hn4) (tw_gV wl_X0_100 wn_X0_placeToRead ws_X0_placeToRead wi_X0 wy_X0_placeToRead) rfl rfl (by decide +kernel) ⟨Nat.le_of_ble_eq_true rfl, Nat.le_of_ble_eq_true rfl⟩ rfl hl.1 rfl (Nat.le_of_ble_eq_true rfl) dX0_name_3 ⟨Nat.le_of_ble_eq_true rfl, Nat.le_of_ble_eq_true rfl⟩ (Nat.le_of_ble_eq_true rfl) (Nat.le_of_ble_eq_true rfl) (fun u h => h) (fun r H locs hp w z => ?_)
  obtain ⟨a, ha, rfl, ht0, hp⟩ := hp
  refine lv_istore_n S.1 S.2.1 dX0_name_6 rfl hl (by decide) rfl (fun ls hl => ?_)
  refine lv_iload_n S.1 S.2.1 dX0_name_7 rfl (lv_at hl 0 rfl) ?_
  refine lv_iconst (v := -1) S.1 S.2.1 dX0_name_8 (by decide) ?_
  refine lv_icmp_ne (tgt := 16) S.1 S.2.1 dX0_name_9 (by decide) (fun h9 => ?_) (fun h9 => ?_)
  · rcases hp with ⟨q, q1, q2, q3, rfl⟩ | ⟨g, -⟩
    rotate_left
    · exact absurd g h9
    refine lv_aload_n S.1 S.2.1 dX0_name_16 rfl (lv_at hl 1 rfl) ?_
    refine xxg_names S w dX0_name_17 ?_
    refine lv_aload_n S.1 S.2.1 dX0_name_20 rfl (lv_at hl 1 rfl) ?_
    refine xxg_order S w dX0_name_21 ?_
    refine lv_iload_n S.1 S.2.1 dX0_name_24 rfl (lv_at hl 0 rfl) ?_
    refine xxl_6 S w (by dsimp only; omega) dX0_name_25 ?_
    refine xxl_4 S w (bo q q1) dX0_name_26 ?_
    first
      | (refine vx_ret ?_; refine W.widen (k := 4) (n := 24) (by omega) (by omega) ?_; exact tw_iret S hr hlk w ⟨a, ha, rfl, ht0, Or.inl ⟨q, q1, q2, q3, rfl⟩, rfl⟩ dX0_name_27)
      | (refine vx_ret ?_; refine W.widen (k := 4) (n := 24) (by omega) (by omega) ?_; exact tw_iret S hr hlk w ⟨a, ha, rfl, ht0, Or.inr ⟨rfl, g2⟩, rfl⟩ dX0_name_27)
  · rcases hp with ⟨q, q1, q2, q3, rfl⟩ | ⟨g, g2⟩
    · exact absurd h9 (tw_nm1 (by dsimp only; omega))
    refine lv_iconst (v := -1) S.1 S.2.1 dX0_name_12 (by decide) ?_
    refine lv_goto (tgt := 27) S.1 S.2.1 dX0_name_13 (by decide) ?_
    first
      | (refine vx_ret ?_; refine W.widen (k := 4) (n := 24) (by omega) (by omega) ?_; exact tw_iret S hr hlk w ⟨a, ha, rfl, ht0, Or.inl ⟨q, q1, q2, q3, rfl⟩, rfl⟩ dX0_name_27)
      | (refine vx_ret ?_; refine W.widen (k := 4) (n := 24) (by omega) (by omega) ?_; exact tw_iret S hr hlk w ⟨a, ha, rfl, ht0, Or.inr ⟨rfl, g2⟩, rfl⟩ dX0_name_27)
end
section
set_option maxHeartbeats 4000000 in
set_option maxRecDepth 100000 in
/-- remove(c, at) -/
theorem kX0_remove (l : Launch) (D : va_G) (cI cJ : ClassId) (x : Nat) (ad : Nat → Nat) (st : Nat → Nat → Nat) (sz : Nat) (hlt : l.stackTraces = false) {v t : Int32} {md : Nat → Nat} (hci : tw_ci md st) (hcc : ∀ c, c < 4 → st (24 + c) c = md c) (hnc : st 9 0 ≤ 512) (hn4 : ∀ j, st 4 j < 2147483648) : vx_Met l yX0_remove wsX0_remove ({ frames := 9, cells := 4, slots := 24, locals := 150 }) (va_Pc [.ref x, .int v, .int t] (fun U => U.heap.size = sz ∧ tw_Z (fun q => sz ≤ q) U ∧ tw_XU D cI cJ x ad st U)) (va_Qi (fun r u => tw_okRem st v t r u) (tw_XT D cI cJ x ad (va_A (tw_x cI cJ x ad st) sz)) (va_A (tw_x cI cJ x ad st) sz)) (tw_XC (tw_pxRem st v t) sz) 4 24 (va_A (tw_x cI cJ x ad st) sz) := by
  refine vx_ofW (cc := cX0_remove) (maxL := 5) (ret := (some .int)) (by decide) rfl ?_
  intro p e s m args below meth cd s₁ B hml ht hv
  obtain ⟨rfl, hsz, Z, hU⟩ := hv
  subst hsz
  have S : CallFix p m cd cX0_remove 5 s ([.ref x, .int v, .int t] : List Value).toArray tw_wall RX0 := ⟨B.exec, B.bytes, hml, findClass_of_methodNamed B.named, fun w h => atoms_spec (ws := wsX0_remove) B.pre w (List.mem_cons_of_mem _ h)⟩
  have hr := B.returns
  have hlk := B.notSynchronized
  have z : va_S (fun q => s.heap.size ≤ q) s.heap s.heap [] := va_S.rf
  have w := tw_X0 hU
  have hA : ∀ q : Nat, s.heap.size ≤ q → va_A (tw_x cI cJ x ad st) s.heap.size q := fun q h => Or.inr h
  generalize va_A (tw_x cI cJ x ad st) s.heap.size = A at w hA ⊢
  have hl := lv_entry ([.ref x, .int v, .int t]) (n := 5) (Nat.le_of_ble_eq_true rfl)
  rw [lg_entry_eq]
  generalize (lg_sl ([.ref x, .int v, .int t]) ++ List.replicate (5 - (lg_sl ([.ref x, .int v, .int t])).length) Slot.unset).toArray = ls at hl ⊢
  have hl : lv_has ls 5 [(0, .ref x), (1, .int v), (2, .int t)] := hl
  obtain ⟨bl, bo, b5, bk, b8, bi, bw, bs⟩ := tw_bd_of hci hnc
  refine lv_iload_n S.1 S.2.1 dX0_remove_0 rfl (lv_at hl 1 rfl) ?_
  refine tw_chk (n := 1) S ht hlk Z z hA (kX0_checkCopy l _ hlt (v := v)) (tw_gS wl_X0_55 wt_X0_checkCopy wi_X0 wy_X0_checkCopy) rfl rfl (by decide +kernel) ⟨Nat.le_of_ble_eq_true rfl, Nat.le_of_ble_eq_true rfl⟩ rfl hl.1 rfl (Nat.le_of_ble_eq_true rfl) dX0_remove_1 ⟨Nat.le_of_ble_eq_true rfl, Nat.le_of_ble_eq_true rfl⟩ (Nat.le_of_ble_eq_true rfl) (Nat.le_of_ble_eq_true rfl) (fun u h => Or.inl ⟨h.1, Or.inl h.2⟩) (fun H locs hp hk z => ?_)
  have w := w.kept hk (tw_mono z hA)
  obtain ⟨a, ha, rfl⟩ := tw_copy hp
  refine lv_aload_n S.1 S.2.1 dX0_remove_4 rfl (lv_at hl 0 rfl) ?_
  refine lv_iload_n S.1 S.2.1 dX0_remove_5 rfl (lv_at hl 1 rfl) ?_
  refine lv_iload_n S.1 S.2.1 dX0_remove_6 rfl (lv_at hl 2 rfl) ?_
  refine tw_cro (n := 2) S w z (fun q h => h) hA (kX0_placeOf l D cI cJ x ad st _ (t := t) ha bl bo b5) (tw_gV wl_X0_66 wn_X0_placeOf ws_X0_placeOf wi_X0 wy_X0_placeOf) rfl rfl (by decide +kernel) ⟨Nat.le_of_ble_eq_true rfl, Nat.le_of_ble_eq_true rfl⟩ rfl hl.1 rfl (Nat.le_of_ble_eq_true rfl) dX0_remove_7 ⟨Nat.le_of_ble_eq_true rfl, Nat.le_of_ble_eq_true rfl⟩ (fun r H locs hp w z => ?_)
  refine lv_istore_n S.1 S.2.1 dX0_remove_10 rfl hl (by decide) rfl (fun ls hl => ?_)
  refine lv_iload_n S.1 S.2.1 dX0_remove_11 rfl (lv_at hl 0 rfl) ?_
  refine lv_iconst (v := -1) S.1 S.2.1 dX0_remove_12 (by decide) ?_
  refine lv_icmp_ne (tgt := 26) S.1 S.2.1 dX0_remove_13 (by decide) (fun h13 => ?_) (fun h13 => ?_)
  · rcases hp with ⟨q, q1, q2, q3, rfl⟩ | ⟨g, -⟩
    rotate_left
    · exact absurd g h13
    refine lv_aload_n S.1 S.2.1 dX0_remove_26 rfl (lv_at hl 1 rfl) ?_
    refine lv_iload_n S.1 S.2.1 dX0_remove_27 rfl (lv_at hl 2 rfl) ?_
    refine tw_chv (n := 1) S ht hlk w hA Z z hA (kX0_checkRoom l D cI cJ x ad st _ hlt ha (by have := bk a a ha ha; omega) (by omega)) (tw_gV wl_X0_63 wn_X0_checkRoom ws_X0_checkRoom wi_X0 wy_X0_checkRoom) rfl rfl (by decide +kernel) ⟨Nat.le_of_ble_eq_true rfl, Nat.le_of_ble_eq_true rfl⟩ rfl hl.1 rfl (Nat.le_of_ble_eq_true rfl) dX0_remove_28 ⟨Nat.le_of_ble_eq_true rfl, Nat.le_of_ble_eq_true rfl⟩ (Nat.le_of_ble_eq_true rfl) (Nat.le_of_ble_eq_true rfl) (fun u h => Or.inr ⟨h.1, a, q, ha, rfl, q1, q2, q3, h.2⟩) (fun H locs hp w z => ?_)
    obtain ⟨hr1, hr2⟩ := hp
    refine lv_aload_n S.1 S.2.1 dX0_remove_31 rfl (lv_at hl 1 rfl) ?_
    refine lv_iload_n S.1 S.2.1 dX0_remove_32 rfl (lv_at hl 2 rfl) ?_
    refine lv_aload_n S.1 S.2.1 dX0_remove_33 rfl (lv_at hl 1 rfl) ?_
    refine xxg_order S w dX0_remove_34 ?_
    refine lv_iload_n S.1 S.2.1 dX0_remove_37 rfl (lv_at hl 0 rfl) ?_
    refine xxl_6 S w (by omega) dX0_remove_38 ?_
    refine tw_t (nI_pred (st 6 q)).symm ?_
    refine tw_cwi (n := 2) S w hA (kX0_addChange l D cI cJ x ad st _ (t := st 6 q + 1) ha hr2 hr1) (tw_gV wl_X0_70 wn_X0_addChange ws_X0_addChange wi_X0 wy_X0_addChange) rfl rfl (by decide +kernel) ⟨Nat.le_of_ble_eq_true rfl, Nat.le_of_ble_eq_true rfl⟩ rfl hl.1 rfl (Nat.le_of_ble_eq_true rfl) dX0_remove_39 ⟨Nat.le_of_ble_eq_true rfl, Nat.le_of_ble_eq_true rfl⟩ (fun r u H locs hp w => ?_)
    obtain ⟨rfl, rfl⟩ := hp
    refine lv_istore S.1 S.2.1 dX0_remove_42 hl (by decide) rfl (fun ls hl => ?_)
    refine lv_aload_n S.1 S.2.1 dX0_remove_44 rfl (lv_at hl 2 rfl) ?_
    refine lv_iload_n S.1 S.2.1 dX0_remove_45 rfl (lv_at hl 3 rfl) ?_
    refine lv_iload S.1 S.2.1 dX0_remove_46 (lv_at hl 0 rfl) ?_
    refine tw_cwv (n := 2) S w hA (kX0_receive l D cI cJ x ad (tw_add st a (st 6 q + 1)) _ ha hr2 (by rw [tw_add_0 ha]; exact ha) (by rw [tw_add_2 ha]; have := bo q q1; omega) (fun j hj => by rw [tw_add_2 ha] at hj; have := bo q q1; omega) (fun j => by rw [tw_add_o (by omega) ha]; exact b5 j) (by rw [tw_add_o (by omega) ha]; exact hn4 _) (by rw [tw_add_o (by omega) ha]; have := (b8 a ha).2; omega) (fun j _ hb => by rw [tw_add_o (by omega) ha] at hb; rw [tw_add_o (by omega) ha]; exact bs a j ha hb)) (tw_gV wl_X0_76 wn_X0_receive ws_X0_receive wi_X0 wy_X0_receive) rfl rfl (by decide +kernel) ⟨Nat.le_of_ble_eq_true rfl, Nat.le_of_ble_eq_true rfl⟩ rfl hl.1 rfl (Nat.le_of_ble_eq_true rfl) dX0_remove_48 ⟨Nat.le_of_ble_eq_true rfl, Nat.le_of_ble_eq_true rfl⟩ (fun u H locs hp w => ?_)
    subst hp
    refine lv_aload_n S.1 S.2.1 dX0_remove_51 rfl (lv_at hl 2 rfl) ?_
    refine xxg_number S w dX0_remove_52 ?_
    refine lv_iload S.1 S.2.1 dX0_remove_55 (lv_at hl 0 rfl) ?_
    refine xxl_1 S w (by omega) dX0_remove_57 ?_
    refine tw_t (show _ = nI (st (24 + a) a) from by rw [tw_rcv_o (by omega), tw_add_1 ha]) ?_
    refine vx_ret ?_
    refine W.widen (k := 4) (n := 24) (by omega) (by omega) ?_
    exact tw_iret S hr hlk w ⟨a, q, ha, rfl, q1, q2, q3, hr1, hr2, rfl, rfl⟩ dX0_remove_58
  · rcases hp with ⟨q, q1, q2, q3, rfl⟩ | ⟨g, g2⟩
    · exact absurd h13 (tw_nm1 (by omega))
    exact tw_throwA S hlt ht hlk Z Z.2.2.2.2.2.1 z hl.1 (Or.inl ⟨rfl, Or.inr ⟨a, ha, rfl, g2⟩⟩) hA dX0_remove_16 dX0_remove_19 dX0_remove_20 dX0_remove_22 dX0_remove_25 (Nat.le_of_ble_eq_true rfl) (Nat.le_of_ble_eq_true rfl) (Nat.le_of_ble_eq_true rfl) (Nat.le_of_ble_eq_true rfl) (Nat.le_of_ble_eq_true rfl) (Nat.le_of_ble_eq_true rfl)
set_option maxHeartbeats 4000000 in
set_option maxRecDepth 100000 in
/-- bring(from, k, to) -/
theorem kX0_bring (l : Launch) (D : va_G) (cI cJ : ClassId) (x : Nat) (ad : Nat → Nat) (st : Nat → Nat → Nat) (sz : Nat) (hlt : l.stackTraces = false) {v t w0 : Int32} {md : Nat → Nat} (hci : tw_ci md st) (hcc : ∀ c, c < 4 → st (24 + c) c = md c) (hnc : st 9 0 ≤ 512) (hn4 : ∀ j, st 4 j < 2147483648) : vx_Met l yX0_bring wsX0_bring ({ frames := 9, cells := 4, slots := 24, locals := 150 }) (va_Pc [.ref x, .int v, .int t, .int w0] (fun U => U.heap.size = sz ∧ tw_Z (fun q => sz ≤ q) U ∧ tw_XU D cI cJ x ad st U)) (va_Qv (fun u => tw_okBr st v t w0 u) (tw_XT D cI cJ x ad (va_A (tw_x cI cJ x ad st) sz)) (va_A (tw_x cI cJ x ad st) sz)) (tw_XC (tw_pxBr st v t w0) sz) 4 24 (va_A (tw_x cI cJ x ad st) sz) := by
  refine vx_ofW (cc := cX0_bring) (maxL := 5) (ret := none) (by decide) rfl ?_
  intro p e s m args below meth cd s₁ B hml ht hv
  obtain ⟨rfl, hsz, Z, hU⟩ := hv
  subst hsz
  have S : CallFix p m cd cX0_bring 5 s ([.ref x, .int v, .int t, .int w0] : List Value).toArray tw_wall RX0 := ⟨B.exec, B.bytes, hml, findClass_of_methodNamed B.named, fun w h => atoms_spec (ws := wsX0_bring) B.pre w (List.mem_cons_of_mem _ h)⟩
  have hr := B.returns
  have hlk := B.notSynchronized
  have z : va_S (fun q => s.heap.size ≤ q) s.heap s.heap [] := va_S.rf
  have w := tw_X0 hU
  have hA : ∀ q : Nat, s.heap.size ≤ q → va_A (tw_x cI cJ x ad st) s.heap.size q := fun q h => Or.inr h
  generalize va_A (tw_x cI cJ x ad st) s.heap.size = A at w hA ⊢
  have hl := lv_entry ([.ref x, .int v, .int t, .int w0]) (n := 5) (Nat.le_of_ble_eq_true rfl)
  rw [lg_entry_eq]
  generalize (lg_sl ([.ref x, .int v, .int t, .int w0]) ++ List.replicate (5 - (lg_sl ([.ref x, .int v, .int t, .int w0])).length) Slot.unset).toArray = ls at hl ⊢
  have hl : lv_has ls 5 [(0, .ref x), (1, .int v), (2, .int t), (3, .int w0)] := hl
  obtain ⟨bl, bo, b5, bk, b8, bi, bw, bs⟩ := tw_bd_of hci hnc
  refine lv_iload_n S.1 S.2.1 dX0_bring_0 rfl (lv_at hl 1 rfl) ?_
  refine tw_chk (n := 1) S ht hlk Z z hA (kX0_checkCopy l _ hlt (v := v)) (tw_gS wl_X0_55 wt_X0_checkCopy wi_X0 wy_X0_checkCopy) rfl rfl (by decide +kernel) ⟨Nat.le_of_ble_eq_true rfl, Nat.le_of_ble_eq_true rfl⟩ rfl hl.1 rfl (Nat.le_of_ble_eq_true rfl) dX0_bring_1 ⟨Nat.le_of_ble_eq_true rfl, Nat.le_of_ble_eq_true rfl⟩ (Nat.le_of_ble_eq_true rfl) (Nat.le_of_ble_eq_true rfl) (fun u h => Or.inl ⟨h.1, Or.inl h.2⟩) (fun H locs hp hk z => ?_)
  have w := w.kept hk (tw_mono z hA)
  obtain ⟨a, ha, rfl⟩ := tw_copy hp
  refine lv_iload_n S.1 S.2.1 dX0_bring_4 rfl (lv_at hl 3 rfl) ?_
  refine tw_chk (n := 1) S ht hlk Z z hA (kX0_checkCopy l _ hlt (v := w0)) (tw_gS wl_X0_55 wt_X0_checkCopy wi_X0 wy_X0_checkCopy) rfl rfl (by decide +kernel) ⟨Nat.le_of_ble_eq_true rfl, Nat.le_of_ble_eq_true rfl⟩ rfl hl.1 rfl (Nat.le_of_ble_eq_true rfl) dX0_bring_5 ⟨Nat.le_of_ble_eq_true rfl, Nat.le_of_ble_eq_true rfl⟩ (Nat.le_of_ble_eq_true rfl) (Nat.le_of_ble_eq_true rfl) (fun u h => Or.inl ⟨h.1, Or.inr (Or.inl h.2)⟩) (fun H locs hp hk z => ?_)
  have w := w.kept hk (tw_mono z hA)
  obtain ⟨b, hb, rfl⟩ := tw_copy hp
  refine lv_iload_n S.1 S.2.1 dX0_bring_8 rfl (lv_at hl 1 rfl) ?_
  refine lv_iload_n S.1 S.2.1 dX0_bring_9 rfl (lv_at hl 3 rfl) ?_
  refine lv_icmp_ne (tgt := 23) S.1 S.2.1 dX0_bring_10 (by decide) (fun h10 => ?_) (fun h10 => ?_)
  · have hab : a ≠ b := fun q => h10 (by rw [q])
    refine lv_iload_n S.1 S.2.1 dX0_bring_23 rfl (lv_at hl 2 rfl) ?_
    refine lv_aload_n S.1 S.2.1 dX0_bring_24 rfl (lv_at hl 0 rfl) ?_
    refine xxg_known S w dX0_bring_25 ?_
    refine lv_iload_n S.1 S.2.1 dX0_bring_28 rfl (lv_at hl 1 rfl) ?_
    refine xxr_12 S w (by omega) dX0_bring_29 ?_
    refine lv_iload_n S.1 S.2.1 dX0_bring_30 rfl (lv_at hl 1 rfl) ?_
    refine xxl_24 S w (by omega) (by omega) dX0_bring_31 ?_
    refine lv_iconst (v := nI 1) S.1 S.2.1 dX0_bring_32 (by decide) ?_
    refine lv_isub S.1 S.2.1 dX0_bring_33 ?_
    refine tw_chk (n := 2) S ht hlk Z z hA (kX0_checkUpTo l _ hlt (v := t) (b := nI (st (24 + a) a) - nI 1)) (tw_gS wl_X0_59 wt_X0_checkUpTo wi_X0 wy_X0_checkUpTo) rfl rfl (by decide +kernel) ⟨Nat.le_of_ble_eq_true rfl, Nat.le_of_ble_eq_true rfl⟩ rfl hl.1 rfl (Nat.le_of_ble_eq_true rfl) dX0_bring_34 ⟨Nat.le_of_ble_eq_true rfl, Nat.le_of_ble_eq_true rfl⟩ (Nat.le_of_ble_eq_true rfl) (Nat.le_of_ble_eq_true rfl) (fun u h => Or.inl ⟨h.1, Or.inr (Or.inr (Or.inr ⟨a, ha, rfl, h.2⟩))⟩) (fun H locs hp hk z => ?_)
    have w := w.kept hk (tw_mono z hA)
    have ba := bk a a ha ha
    obtain ⟨k, hk1, rfl⟩ := tw_m1le (by omega) hp
    have hi := bw a k ha (by rw [← hcc a ha]; exact hk1)
    obtain ⟨i1, i2, i3, i4, i5, i6⟩ := bi _ hi
    refine lv_aload_n S.1 S.2.1 dX0_bring_37 rfl (lv_at hl 0 rfl) ?_
    refine xxg_own S w dX0_bring_38 ?_
    refine lv_iload_n S.1 S.2.1 dX0_bring_41 rfl (lv_at hl 1 rfl) ?_
    refine xxr_11 S w (by omega) dX0_bring_42 ?_
    refine lv_iload_n S.1 S.2.1 dX0_bring_43 rfl (lv_at hl 2 rfl) ?_
    refine xxl_20 S w (by omega) (by omega) dX0_bring_44 ?_
    refine lv_istore S.1 S.2.1 dX0_bring_45 hl (by decide) rfl (fun ls hl => ?_)
    refine lv_aload_n S.1 S.2.1 dX0_bring_47 rfl (lv_at hl 1 rfl) ?_
    refine lv_iload_n S.1 S.2.1 dX0_bring_48 rfl (lv_at hl 4 rfl) ?_
    refine lv_iload S.1 S.2.1 dX0_bring_49 (lv_at hl 0 rfl) ?_
    refine tw_cro (n := 2) S w z (fun q h => h) hA (kX0_isIn l D cI cJ x ad st _ (i := (st (20 + a) k)) hb i1 i2 (by omega) (by have := bk b _ hb i2; omega)) (tw_gV wl_X0_88 wn_X0_isIn ws_X0_isIn wi_X0 wy_X0_isIn) rfl rfl (by decide +kernel) ⟨Nat.le_of_ble_eq_true rfl, Nat.le_of_ble_eq_true rfl⟩ rfl hl.1 rfl (Nat.le_of_ble_eq_true rfl) dX0_bring_51 ⟨Nat.le_of_ble_eq_true rfl, Nat.le_of_ble_eq_true rfl⟩ (fun r H locs hp w z => ?_)
    refine lv_if_eq (tgt := 58) S.1 S.2.1 dX0_bring_54 (by decide) (fun h54 => ?_) (fun h54 => ?_)
    · have hno : ¬ tw_has st b (st (20 + a) k) := hp.elim (fun g => absurd (g.1.symm.trans h54) (by decide)) (fun g => g.2)
      refine lv_aload_n S.1 S.2.1 dX0_bring_58 rfl (lv_at hl 1 rfl) ?_
      refine lv_iload_n S.1 S.2.1 dX0_bring_59 rfl (lv_at hl 4 rfl) ?_
      refine lv_iload S.1 S.2.1 dX0_bring_60 (lv_at hl 0 rfl) ?_
      refine tw_cro (n := 2) S w z (fun q h => h) hA (kX0_canCome l D cI cJ x ad st _ (i := (st (20 + a) k)) hb i1 i6 (fun j hj => by have := bk b j hb hj; omega)) (tw_gV wl_X0_92 wn_X0_canCome ws_X0_canCome wi_X0 wy_X0_canCome) rfl rfl (by decide +kernel) ⟨Nat.le_of_ble_eq_true rfl, Nat.le_of_ble_eq_true rfl⟩ rfl hl.1 rfl (Nat.le_of_ble_eq_true rfl) dX0_bring_62 ⟨Nat.le_of_ble_eq_true rfl, Nat.le_of_ble_eq_true rfl⟩ (fun r H locs hp w z => ?_)
      refine lv_if_ne (tgt := 78) S.1 S.2.1 dX0_bring_65 (by decide) (fun h65 => ?_) (fun h65 => ?_)
      · have hcan : ∀ j, j < 4 → st (16 + j) (st (20 + a) k) ≤ st (24 + b) j := hp.elim (fun g => g.2) (fun g => absurd g.1 h65)
        refine lv_aload_n S.1 S.2.1 dX0_bring_78 rfl (lv_at hl 1 rfl) ?_
        refine lv_iload_n S.1 S.2.1 dX0_bring_79 rfl (lv_at hl 4 rfl) ?_
        refine lv_iload S.1 S.2.1 dX0_bring_80 (lv_at hl 0 rfl) ?_
        refine tw_cwv (n := 2) S w hA (kX0_receive l D cI cJ x ad st _ (i := (st (20 + a) k)) hb i1 i2 i5 i4 b5 (hn4 _) (by have := (b8 b hb).2; omega) (fun j _ hb2 => bs b j hb hb2)) (tw_gV wl_X0_76 wn_X0_receive ws_X0_receive wi_X0 wy_X0_receive) rfl rfl (by decide +kernel) ⟨Nat.le_of_ble_eq_true rfl, Nat.le_of_ble_eq_true rfl⟩ rfl hl.1 rfl (Nat.le_of_ble_eq_true rfl) dX0_bring_82 ⟨Nat.le_of_ble_eq_true rfl, Nat.le_of_ble_eq_true rfl⟩ (fun u H locs hp w => ?_)
        refine vx_ret ?_
        refine W.widen (k := 4) (n := 24) (by omega) (by omega) ?_
        exact tw_vret S hr hlk w ⟨a, b, k, ha, rfl, hb, rfl, hab, hk1, rfl, Or.inr ⟨hno, hcan, hp⟩⟩ dX0_bring_85
      · have hcan : ¬ ∀ j, j < 4 → st (16 + j) (st (20 + a) k) ≤ st (24 + b) j := hp.elim (fun g => absurd (g.1.symm.trans h65) (by decide)) (fun g => g.2)
        exact tw_throwB S hlt ht hlk Z Z.2.2.2.2.2.2.2 z hl.1 (Or.inr ⟨rfl, a, b, k, ha, rfl, hb, rfl, hab, hk1, rfl, hno, hcan⟩) hA dX0_bring_68 dX0_bring_71 dX0_bring_72 dX0_bring_74 dX0_bring_77 (Nat.le_of_ble_eq_true rfl) (Nat.le_of_ble_eq_true rfl) (Nat.le_of_ble_eq_true rfl) (Nat.le_of_ble_eq_true rfl) (Nat.le_of_ble_eq_true rfl) (Nat.le_of_ble_eq_true rfl)
    · have hyes : tw_has st b (st (20 + a) k) := hp.elim (fun g => g.2) (fun g => absurd g.1 h54)
      refine vx_ret ?_
      refine W.widen (k := 4) (n := 24) (by omega) (by omega) ?_
      exact tw_vret S hr hlk w ⟨a, b, k, ha, rfl, hb, rfl, hab, hk1, rfl, Or.inl ⟨hyes, rfl⟩⟩ dX0_bring_57
  · exact tw_throwA S hlt ht hlk Z Z.2.2.2.2.2.2.1 z hl.1 (Or.inl ⟨rfl, Or.inr (Or.inr (Or.inl h10))⟩) hA dX0_bring_13 dX0_bring_16 dX0_bring_17 dX0_bring_19 dX0_bring_22 (Nat.le_of_ble_eq_true rfl) (Nat.le_of_ble_eq_true rfl) (Nat.le_of_ble_eq_true rfl) (Nat.le_of_ble_eq_true rfl) (Nat.le_of_ble_eq_true rfl) (Nat.le_of_ble_eq_true rfl)
end
section
set_option maxHeartbeats 4000000 in
set_option maxRecDepth 100000 in
/-- merge(from, to) -/
theorem kX0_merge (l : Launch) (D : va_G) (cI cJ : ClassId) (x : Nat) (ad : Nat → Nat) (st : Nat → Nat → Nat) (sz : Nat) (hlt : l.stackTraces = false) {v t : Int32} {md : Nat → Nat} (hci : tw_ci md st) (hcc : ∀ c, c < 4 → st (24 + c) c = md c) (hnc : st 9 0 ≤ 512) (hn4 : ∀ j, st 4 j < 2147483648) : vx_Met l yX0_merge wsX0_merge ({ frames := 9, cells := 4, slots := 24, locals := 150 }) (va_Pc [.ref x, .int v, .int t] (fun U => U.heap.size = sz ∧ tw_Z (fun q => sz ≤ q) U ∧ tw_XU D cI cJ x ad st U)) (va_Qi (fun r u => ∃ a b k, a < 4 ∧ v = nI a ∧ b < 4 ∧ t = nI b ∧ r = nI k ∧ tw_mrg md st u a b (st 9 0) k) (tw_XT D cI cJ x ad (va_A (tw_x cI cJ x ad st) sz)) (va_A (tw_x cI cJ x ad st) sz)) (tw_XC (fun u => u = 1 ∧ (tw_nc v ∨ tw_nc t)) sz) 4 24 (va_A (tw_x cI cJ x ad st) sz) := by
  refine vx_ofW (cc := cX0_merge) (maxL := 5) (ret := (some .int)) (by decide) rfl ?_
  intro p e s m args below meth cd s₁ B hml ht hv
  obtain ⟨rfl, hsz, Z, hU⟩ := hv
  subst hsz
  have S : CallFix p m cd cX0_merge 5 s ([.ref x, .int v, .int t] : List Value).toArray tw_wall RX0 := ⟨B.exec, B.bytes, hml, findClass_of_methodNamed B.named, fun w h => atoms_spec (ws := wsX0_merge) B.pre w (List.mem_cons_of_mem _ h)⟩
  have hr := B.returns
  have hlk := B.notSynchronized
  have z : va_S (fun q => s.heap.size ≤ q) s.heap s.heap [] := va_S.rf
  have w := tw_X0 hU
  have hA : ∀ q : Nat, s.heap.size ≤ q → va_A (tw_x cI cJ x ad st) s.heap.size q := fun q h => Or.inr h
  generalize va_A (tw_x cI cJ x ad st) s.heap.size = A at w hA ⊢
  have hl := lv_entry ([.ref x, .int v, .int t]) (n := 5) (Nat.le_of_ble_eq_true rfl)
  rw [lg_entry_eq]
  generalize (lg_sl ([.ref x, .int v, .int t]) ++ List.replicate (5 - (lg_sl ([.ref x, .int v, .int t])).length) Slot.unset).toArray = ls at hl ⊢
  have hl : lv_has ls 5 [(0, .ref x), (1, .int v), (2, .int t)] := hl
  obtain ⟨bl, bo, b5, bk, b8, bi, bw, bs⟩ := tw_bd_of hci hnc
  refine lv_iload_n S.1 S.2.1 dX0_merge_0 rfl (lv_at hl 1 rfl) ?_
  refine tw_chk (n := 1) S ht hlk Z z hA (kX0_checkCopy l _ hlt (v := v)) (tw_gS wl_X0_55 wt_X0_checkCopy wi_X0 wy_X0_checkCopy) rfl rfl (by decide +kernel) ⟨Nat.le_of_ble_eq_true rfl, Nat.le_of_ble_eq_true rfl⟩ rfl hl.1 rfl (Nat.le_of_ble_eq_true rfl) dX0_merge_1 ⟨Nat.le_of_ble_eq_true rfl, Nat.le_of_ble_eq_true rfl⟩ (Nat.le_of_ble_eq_true rfl) (Nat.le_of_ble_eq_true rfl) (fun u h => ⟨h.1, Or.inl h.2⟩) (fun H locs hp hk z => ?_)
  have w := w.kept hk (tw_mono z hA)
  obtain ⟨a, ha, rfl⟩ := tw_copy hp
  refine lv_iload_n S.1 S.2.1 dX0_merge_4 rfl (lv_at hl 2 rfl) ?_
  refine tw_chk (n := 1) S ht hlk Z z hA (kX0_checkCopy l _ hlt (v := t)) (tw_gS wl_X0_55 wt_X0_checkCopy wi_X0 wy_X0_checkCopy) rfl rfl (by decide +kernel) ⟨Nat.le_of_ble_eq_true rfl, Nat.le_of_ble_eq_true rfl⟩ rfl hl.1 rfl (Nat.le_of_ble_eq_true rfl) dX0_merge_5 ⟨Nat.le_of_ble_eq_true rfl, Nat.le_of_ble_eq_true rfl⟩ (Nat.le_of_ble_eq_true rfl) (Nat.le_of_ble_eq_true rfl) (fun u h => ⟨h.1, Or.inr h.2⟩) (fun H locs hp hk z => ?_)
  have w := w.kept hk (tw_mono z hA)
  obtain ⟨b, hb, rfl⟩ := tw_copy hp
  have loop : ∀ (n : Nat) (i k : Nat) (sm : Nat → Nat → Nat) (H : Heap) (locs : List Loc) (ls : Array Slot), i ≤ st 9 0 → st 9 0 - i < n → tw_mrg md st sm a b i k → TWX D cI cJ x ad sm A s.heap H locs s → lv_has ls 5 [(4, .int (nI i)), (3, .int (nI k)), (0, .ref x), (1, .int (nI a)), (2, .int (nI b))] → W p l e (headSpec wsX0_merge ({ frames := 9, cells := 4, slots := 24, locals := 150 })).room s m ([.ref x, .int (nI a), .int (nI b)] : List Value).toArray below meth cd H locs 2 12 (vx_MQ below (va_Qi (fun r u => ∃ a' b' k, a' < 4 ∧ nI a = nI a' ∧ b' < 4 ∧ nI b = nI b' ∧ r = nI k ∧ tw_mrg md st u a' b' (st 9 0) k) (tw_XT D cI cJ x ad A) A) (tw_XC (fun u => u = 1 ∧ (tw_nc (nI a) ∨ tw_nc (nI b))) s.heap.size) ([.ref x, .int (nI a), .int (nI b)] : List Value).toArray s 4 24 A) (F0 m 13 ls []) := by
    intro n
    induction n with
    | zero => intros; omega
    | succ n ih =>
      intro i k sm H locs ls hi0 hm hg w hl
      have e9 : sm 9 0 = st 9 0 := hg.2.1 9 0 (by omega)
      obtain ⟨-, -, m5, mk, m8, mi, -, m0⟩ := tw_bd_of hg.1 (by omega)
      refine lv_iload S.1 S.2.1 dX0_merge_13 (lv_at hl 0 rfl) ?_
      refine lv_aload_n S.1 S.2.1 dX0_merge_15 rfl (lv_at hl 2 rfl) ?_
      refine xxg_changes S w dX0_merge_16 ?_
      refine lv_icmp_ge (tgt := 58) S.1 S.2.1 dX0_merge_19 (by decide) (fun h19 => ?_) (fun h19 => ?_)
      · have hi : i = st 9 0 := by have := (tw_le (by omega) (by omega)).mp h19; omega
        refine lv_iload_n S.1 S.2.1 dX0_merge_58 rfl (lv_at hl 1 rfl) ?_
        refine vx_ret ?_
        refine W.widen (k := 4) (n := 24) (by omega) (by omega) ?_
        exact tw_iret S hr hlk w ⟨a, b, k, ha, rfl, hb, rfl, rfl, by rw [← hi]; exact hg⟩ dX0_merge_59
      · have hi : i < st 9 0 := Nat.not_le.mp (fun g => h19 ((tw_le (by omega) (by omega)).mpr (by omega)))
        obtain ⟨i1, i2, i3, i4, i5, i6⟩ := mi i (by omega)
        refine lv_aload_n S.1 S.2.1 dX0_merge_22 rfl (lv_at hl 2 rfl) ?_
        refine lv_iload_n S.1 S.2.1 dX0_merge_23 rfl (lv_at hl 3 rfl) ?_
        refine lv_iload S.1 S.2.1 dX0_merge_24 (lv_at hl 0 rfl) ?_
        refine tw_cro (n := 2) S w w.2.2.2 hA (fun q h => h) (kX0_isIn l D cI cJ x ad sm _ (i := i) ha i1 i2 (by omega) (by have := mk a _ ha i2; omega)) (tw_gV wl_X0_88 wn_X0_isIn ws_X0_isIn wi_X0 wy_X0_isIn) rfl rfl (by decide +kernel) ⟨Nat.le_of_ble_eq_true rfl, Nat.le_of_ble_eq_true rfl⟩ rfl hl.1 rfl (Nat.le_of_ble_eq_true rfl) dX0_merge_26 ⟨Nat.le_of_ble_eq_true rfl, Nat.le_of_ble_eq_true rfl⟩ (fun r H locs hp1 w _ => ?_)
        refine lv_if_eq (tgt := 52) S.1 S.2.1 dX0_merge_29 (by decide) (fun h29 => ?_) (fun h29 => ?_)
        · have hno : ¬ (tw_has sm a i ∧ ¬ tw_has sm b i) := hp1.elim (fun g => absurd (g.1.symm.trans h29) (by decide)) (fun g q => g.2 q.1)
          refine lv_iinc S.1 S.2.1 dX0_merge_52 hl (k := 0) rfl (tw_inc _) (by decide) rfl (fun ls hl => ?_)
          refine lv_goto (tgt := 13) S.1 S.2.1 dX0_merge_55 (by decide) ?_
          first
            | exact ih (i + 1) k sm H locs ls (by omega) (by omega) (tw_mrg_no hg hci ha hb hi hno) w (lv_sub hl [0, 1, 2, 3, 4] rfl)
            | exact ih (i + 1) (k + 1) _ H locs ls (by omega) (by omega) (tw_mrg_yes hg hci ha hb hi hya hnb) w (lv_sub hl [0, 1, 2, 3, 4] rfl)
        · have hya : tw_has sm a i := hp1.elim (fun g => g.2) (fun g => absurd g.1 h29)
          refine lv_aload_n S.1 S.2.1 dX0_merge_32 rfl (lv_at hl 2 rfl) ?_
          refine lv_iload_n S.1 S.2.1 dX0_merge_33 rfl (lv_at hl 4 rfl) ?_
          refine lv_iload S.1 S.2.1 dX0_merge_34 (lv_at hl 0 rfl) ?_
          refine tw_cro (n := 2) S w w.2.2.2 hA (fun q h => h) (kX0_isIn l D cI cJ x ad sm _ (i := i) hb i1 i2 (by omega) (by have := mk b _ hb i2; omega)) (tw_gV wl_X0_88 wn_X0_isIn ws_X0_isIn wi_X0 wy_X0_isIn) rfl rfl (by decide +kernel) ⟨Nat.le_of_ble_eq_true rfl, Nat.le_of_ble_eq_true rfl⟩ rfl hl.1 rfl (Nat.le_of_ble_eq_true rfl) dX0_merge_36 ⟨Nat.le_of_ble_eq_true rfl, Nat.le_of_ble_eq_true rfl⟩ (fun r H locs hp2 w _ => ?_)
          refine lv_if_ne (tgt := 52) S.1 S.2.1 dX0_merge_39 (by decide) (fun h39 => ?_) (fun h39 => ?_)
          · have hno : ¬ (tw_has sm a i ∧ ¬ tw_has sm b i) := hp2.elim (fun g q => q.2 g.2) (fun g => absurd g.1 h39)
            refine lv_iinc S.1 S.2.1 dX0_merge_52 hl (k := 0) rfl (tw_inc _) (by decide) rfl (fun ls hl => ?_)
            refine lv_goto (tgt := 13) S.1 S.2.1 dX0_merge_55 (by decide) ?_
            first
              | exact ih (i + 1) k sm H locs ls (by omega) (by omega) (tw_mrg_no hg hci ha hb hi hno) w (lv_sub hl [0, 1, 2, 3, 4] rfl)
              | exact ih (i + 1) (k + 1) _ H locs ls (by omega) (by omega) (tw_mrg_yes hg hci ha hb hi hya hnb) w (lv_sub hl [0, 1, 2, 3, 4] rfl)
          · have hnb : ¬ tw_has sm b i := hp2.elim (fun g => absurd (g.1.symm.trans h39) (by decide)) (fun g => g.2)
            refine lv_aload_n S.1 S.2.1 dX0_merge_42 rfl (lv_at hl 2 rfl) ?_
            refine lv_iload_n S.1 S.2.1 dX0_merge_43 rfl (lv_at hl 4 rfl) ?_
            refine lv_iload S.1 S.2.1 dX0_merge_44 (lv_at hl 0 rfl) ?_
            refine tw_cwv (n := 2) S w hA (kX0_receive l D cI cJ x ad sm _ (i := i) hb i1 i2 i5 i4 m5 (by rw [hg.2.1 4 i (by omega)]; exact hn4 i) (by have := (m8 b hb).2; omega) (fun j _ hb2 => m0 b j hb hb2)) (tw_gV wl_X0_76 wn_X0_receive ws_X0_receive wi_X0 wy_X0_receive) rfl rfl (by decide +kernel) ⟨Nat.le_of_ble_eq_true rfl, Nat.le_of_ble_eq_true rfl⟩ rfl hl.1 rfl (Nat.le_of_ble_eq_true rfl) dX0_merge_46 ⟨Nat.le_of_ble_eq_true rfl, Nat.le_of_ble_eq_true rfl⟩ (fun u H locs hp w => ?_)
            subst hp
            refine lv_iinc S.1 S.2.1 dX0_merge_49 hl (k := 1) rfl (tw_inc _) (by decide) rfl (fun ls hl => ?_)
            refine lv_iinc S.1 S.2.1 dX0_merge_52 hl (k := 1) rfl (tw_inc _) (by decide) rfl (fun ls hl => ?_)
            refine lv_goto (tgt := 13) S.1 S.2.1 dX0_merge_55 (by decide) ?_
            first
              | exact ih (i + 1) k sm H locs ls (by omega) (by omega) (tw_mrg_no hg hci ha hb hi hno) w (lv_sub hl [0, 1, 2, 3, 4] rfl)
              | exact ih (i + 1) (k + 1) _ H locs ls (by omega) (by omega) (tw_mrg_yes hg hci ha hb hi hya hnb) w (lv_sub hl [0, 1, 2, 3, 4] rfl)
  refine lv_iconst (v := nI 0) S.1 S.2.1 dX0_merge_8 (by decide) ?_
  refine lv_istore_n S.1 S.2.1 dX0_merge_9 rfl hl (by decide) rfl (fun ls hl => ?_)
  refine lv_iconst (v := nI 0) S.1 S.2.1 dX0_merge_10 (by decide) ?_
  refine lv_istore S.1 S.2.1 dX0_merge_11 hl (by decide) rfl (fun ls hl => ?_)
  exact loop (st 9 0 + 1) 0 0 st _ _ _ (by omega) (by omega) (tw_mrg_0 hci) w (lv_sub hl [0, 1, 2, 3, 4] rfl)
end
section
set_option maxHeartbeats 4000000 in
set_option maxRecDepth 100000 in
/-- insert(c, at, letter) -/
theorem kX0_insert (l : Launch) (D : va_G) (cI cJ : ClassId) (x : Nat) (ad : Nat → Nat) (st : Nat → Nat → Nat) (sz : Nat) (hlt : l.stackTraces = false) {v t b : Int32} {md : Nat → Nat} (hci : tw_ci md st) (hcc : ∀ c, c < 4 → st (24 + c) c = md c) (hnc : st 9 0 ≤ 512) (hn4 : ∀ j, st 4 j < 2147483648) : vx_Met l yX0_insert wsX0_insert ({ frames := 9, cells := 4, slots := 24, locals := 150 }) (va_Pc [.ref x, .int v, .int t, .int b] (fun U => U.heap.size = sz ∧ tw_Z (fun q => sz ≤ q) U ∧ tw_XU D cI cJ x ad st U)) (va_Qi (fun r u => tw_okIns st v t b r u) (tw_XT D cI cJ x ad (va_A (tw_x cI cJ x ad st) sz)) (va_A (tw_x cI cJ x ad st) sz)) (tw_XC (tw_pxIns st v t b) sz) 4 24 (va_A (tw_x cI cJ x ad st) sz) := by
  refine vx_ofW (cc := cX0_insert) (maxL := 6) (ret := (some .int)) (by decide) rfl ?_
  intro p e s m args below meth cd s₁ B hml ht hv
  obtain ⟨rfl, hsz, Z, hU⟩ := hv
  subst hsz
  have S : CallFix p m cd cX0_insert 6 s ([.ref x, .int v, .int t, .int b] : List Value).toArray tw_wall RX0 := ⟨B.exec, B.bytes, hml, findClass_of_methodNamed B.named, fun w h => atoms_spec (ws := wsX0_insert) B.pre w (List.mem_cons_of_mem _ h)⟩
  have hr := B.returns
  have hlk := B.notSynchronized
  have z : va_S (fun q => s.heap.size ≤ q) s.heap s.heap [] := va_S.rf
  have w := tw_X0 hU
  have hA : ∀ q : Nat, s.heap.size ≤ q → va_A (tw_x cI cJ x ad st) s.heap.size q := fun q h => Or.inr h
  generalize va_A (tw_x cI cJ x ad st) s.heap.size = A at w hA ⊢
  have hl := lv_entry ([.ref x, .int v, .int t, .int b]) (n := 6) (Nat.le_of_ble_eq_true rfl)
  rw [lg_entry_eq]
  generalize (lg_sl ([.ref x, .int v, .int t, .int b]) ++ List.replicate (6 - (lg_sl ([.ref x, .int v, .int t, .int b])).length) Slot.unset).toArray = ls at hl ⊢
  have hl : lv_has ls 6 [(0, .ref x), (1, .int v), (2, .int t), (3, .int b)] := hl
  obtain ⟨bl, bo, b5, bk, b8, bi, bw, bs⟩ := tw_bd_of hci hnc
  refine lv_iload_n S.1 S.2.1 dX0_insert_0 rfl (lv_at hl 1 rfl) ?_
  refine tw_chk (n := 1) S ht hlk Z z hA (kX0_checkCopy l _ hlt (v := v)) (tw_gS wl_X0_55 wt_X0_checkCopy wi_X0 wy_X0_checkCopy) rfl rfl (by decide +kernel) ⟨Nat.le_of_ble_eq_true rfl, Nat.le_of_ble_eq_true rfl⟩ rfl hl.1 rfl (Nat.le_of_ble_eq_true rfl) dX0_insert_1 ⟨Nat.le_of_ble_eq_true rfl, Nat.le_of_ble_eq_true rfl⟩ (Nat.le_of_ble_eq_true rfl) (Nat.le_of_ble_eq_true rfl) (fun u h => Or.inl ⟨h.1, Or.inl h.2⟩) (fun H locs hp hk z => ?_)
  have w := w.kept hk (tw_mono z hA)
  obtain ⟨a, ha, rfl⟩ := tw_copy hp
  refine lv_iload_n S.1 S.2.1 dX0_insert_4 rfl (lv_at hl 2 rfl) ?_
  refine lv_aload_n S.1 S.2.1 dX0_insert_5 rfl (lv_at hl 0 rfl) ?_
  refine xxg_lengths S w dX0_insert_6 ?_
  refine lv_iload_n S.1 S.2.1 dX0_insert_9 rfl (lv_at hl 1 rfl) ?_
  refine xxl_8 S w (by omega) dX0_insert_10 ?_
  refine tw_chk (n := 2) S ht hlk Z z hA (kX0_checkUpTo l _ hlt (v := t) (b := nI (st 8 a))) (tw_gS wl_X0_59 wt_X0_checkUpTo wi_X0 wy_X0_checkUpTo) rfl rfl (by decide +kernel) ⟨Nat.le_of_ble_eq_true rfl, Nat.le_of_ble_eq_true rfl⟩ rfl hl.1 rfl (Nat.le_of_ble_eq_true rfl) dX0_insert_11 ⟨Nat.le_of_ble_eq_true rfl, Nat.le_of_ble_eq_true rfl⟩ (Nat.le_of_ble_eq_true rfl) (Nat.le_of_ble_eq_true rfl) (fun u h => Or.inl ⟨h.1, Or.inr ⟨a, ha, rfl, h.2.elim Or.inl (fun q => Or.inr (Or.inl q))⟩⟩) (fun H locs hp hk z => ?_)
  have w := w.kept hk (tw_mono z hA)
  obtain ⟨k, hk1, rfl⟩ := tw_up_of (by have := (b8 a ha).1; omega) hp
  refine lv_iload_n S.1 S.2.1 dX0_insert_14 rfl (lv_at hl 3 rfl) ?_
  refine lv_sipush (v := nI 255) S.1 S.2.1 dX0_insert_15 (by decide) ?_
  refine tw_chk (n := 2) S ht hlk Z z hA (kX0_checkUpTo l _ hlt (v := b) (b := nI 255)) (tw_gS wl_X0_59 wt_X0_checkUpTo wi_X0 wy_X0_checkUpTo) rfl rfl (by decide +kernel) ⟨Nat.le_of_ble_eq_true rfl, Nat.le_of_ble_eq_true rfl⟩ rfl hl.1 rfl (Nat.le_of_ble_eq_true rfl) dX0_insert_18 ⟨Nat.le_of_ble_eq_true rfl, Nat.le_of_ble_eq_true rfl⟩ (Nat.le_of_ble_eq_true rfl) (Nat.le_of_ble_eq_true rfl) (fun u h => Or.inl ⟨h.1, Or.inr ⟨a, ha, rfl, h.2.elim (fun q => Or.inr (Or.inr (Or.inl q))) (fun q => Or.inr (Or.inr (Or.inr q)))⟩⟩) (fun H locs hp hk z => ?_)
  have w := w.kept hk (tw_mono z hA)
  obtain ⟨d, hd1, rfl⟩ := tw_up_of (by omega) hp
  refine lv_aload_n S.1 S.2.1 dX0_insert_21 rfl (lv_at hl 0 rfl) ?_
  refine lv_iload_n S.1 S.2.1 dX0_insert_22 rfl (lv_at hl 1 rfl) ?_
  refine tw_chv (n := 1) S ht hlk w hA Z z hA (kX0_checkRoom l D cI cJ x ad st _ hlt ha (by have := bk a a ha ha; omega) (by omega)) (tw_gV wl_X0_63 wn_X0_checkRoom ws_X0_checkRoom wi_X0 wy_X0_checkRoom) rfl rfl (by decide +kernel) ⟨Nat.le_of_ble_eq_true rfl, Nat.le_of_ble_eq_true rfl⟩ rfl hl.1 rfl (Nat.le_of_ble_eq_true rfl) dX0_insert_23 ⟨Nat.le_of_ble_eq_true rfl, Nat.le_of_ble_eq_true rfl⟩ (Nat.le_of_ble_eq_true rfl) (Nat.le_of_ble_eq_true rfl) (fun u h => Or.inr ⟨h.1, a, k, d, ha, rfl, hk1, rfl, hd1, rfl, h.2⟩) (fun H locs hp w z => ?_)
  obtain ⟨hr1, hr2⟩ := hp
  have tail : ∀ (bh : Nat) (H : Heap) (locs : List Loc) (ls : Array Slot), bh ≤ st 9 1 → tw_bh st a k bh → TWX D cI cJ x ad st A s.heap H locs s → lv_has ls 6 [(0, .ref x), (1, .int (nI a)), (2, .int (nI k)), (3, .int (nI d))] → W p l e (headSpec wsX0_insert ({ frames := 9, cells := 4, slots := 24, locals := 150 })).room s m ([.ref x, .int (nI a), .int (nI k), .int (nI d)] : List Value).toArray below meth cd H locs 4 24 (vx_MQ below (va_Qi (fun r u => tw_okIns st (nI a) (nI k) (nI d) r u) (tw_XT D cI cJ x ad A) A) (tw_XC (tw_pxIns st (nI a) (nI k) (nI d)) s.heap.size) ([.ref x, .int (nI a), .int (nI k), .int (nI d)] : List Value).toArray s 4 24 A) (F0 m 42 ls [.int (nI bh - 1)]) := by
    intro bh H locs ls hbh1 hbh w hl
    have hq4 : ∀ j, tw_new st a d 4 j < 2147483648 := fun j => by
      rw [tw_new_4 ha]
      split
      · have := (b8 a ha).2
        omega
      · exact hn4 j
    refine lv_istore S.1 S.2.1 dX0_insert_42 hl (by decide) rfl (fun ls hl => ?_)
    refine lv_aload_n S.1 S.2.1 dX0_insert_44 rfl (lv_at hl 1 rfl) ?_
    refine lv_iload_n S.1 S.2.1 dX0_insert_45 rfl (lv_at hl 2 rfl) ?_
    refine lv_iconst (v := nI 0 - 1) S.1 S.2.1 dX0_insert_46 (by decide) ?_
    refine tw_cwi (n := 2) S w hA (kX0_addChange l D cI cJ x ad st _ (t := 0) ha hr2 hr1) (tw_gV wl_X0_70 wn_X0_addChange ws_X0_addChange wi_X0 wy_X0_addChange) rfl rfl (by decide +kernel) ⟨Nat.le_of_ble_eq_true rfl, Nat.le_of_ble_eq_true rfl⟩ rfl hl.1 rfl (Nat.le_of_ble_eq_true rfl) dX0_insert_47 ⟨Nat.le_of_ble_eq_true rfl, Nat.le_of_ble_eq_true rfl⟩ (fun r u H locs hp w => ?_)
    obtain ⟨rfl, rfl⟩ := hp
    refine lv_istore S.1 S.2.1 dX0_insert_50 hl (by decide) rfl (fun ls hl => ?_)
    refine lv_aload_n S.1 S.2.1 dX0_insert_52 rfl (lv_at hl 2 rfl) ?_
    refine xxg_bytes S w dX0_insert_53 ?_
    refine lv_iload S.1 S.2.1 dX0_insert_56 (lv_at hl 0 rfl) ?_
    refine lv_iload_n S.1 S.2.1 dX0_insert_58 rfl (lv_at hl 5 rfl) ?_
    refine xxs_3 S w (by omega)  dX0_insert_59 (fun H locs w => ?_)
    refine lv_aload_n S.1 S.2.1 dX0_insert_60 rfl (lv_at hl 2 rfl) ?_
    refine xxg_names S w dX0_insert_61 ?_
    refine lv_iload S.1 S.2.1 dX0_insert_64 (lv_at hl 0 rfl) ?_
    refine lv_iconst (v := nI 4) S.1 S.2.1 dX0_insert_66 (by decide) ?_
    refine lv_aload_n S.1 S.2.1 dX0_insert_67 rfl (lv_at hl 2 rfl) ?_
    refine xxg_greatest S w dX0_insert_68 ?_
    refine lv_iload_n S.1 S.2.1 dX0_insert_71 rfl (lv_at hl 3 rfl) ?_
    refine xxl_7 S w (by omega) dX0_insert_72 ?_
    refine tw_t (show _ = nI (st 7 a) from by rw [tw_up_k (by omega), tw_add_o (by omega) ha]) ?_
    refine lv_iconst (v := nI 1) S.1 S.2.1 dX0_insert_73 (by decide) ?_
    refine lv_iadd S.1 S.2.1 dX0_insert_74 ?_
    refine tw_t (nI_add _ _) ?_
    refine lv_imul S.1 S.2.1 dX0_insert_75 ?_
    refine tw_t (pk_mul _ _) ?_
    refine lv_iload_n S.1 S.2.1 dX0_insert_76 rfl (lv_at hl 3 rfl) ?_
    refine lv_iadd S.1 S.2.1 dX0_insert_77 ?_
    refine tw_t (nI_add _ _) ?_
    refine xxs_4 S w (by omega)  dX0_insert_78 (fun H locs w => ?_)
    have w : TWX D cI cJ x ad (tw_new st a d) A s.heap H locs s := w
    have e91 : tw_new st a d 9 1 = st 9 1 := by rw [tw_new_o (by omega) (by omega), tw_add_o (by omega) ha]
    have e6 : ∀ j, tw_new st a d 6 j = st 6 j := fun j => by rw [tw_new_o (by omega) (by omega), tw_add_o (by omega) ha]
    refine lv_aload_n S.1 S.2.1 dX0_insert_79 rfl (lv_at hl 2 rfl) ?_
    refine lv_iload S.1 S.2.1 dX0_insert_80 (lv_at hl 0 rfl) ?_
    refine lv_iload S.1 S.2.1 dX0_insert_82 (lv_at hl 1 rfl) ?_
    refine tw_cwv (n := 2) S w hA (kX0_weave l D cI cJ x ad (tw_new st a d) _ (i := st 9 0) (b := bh) hr2 (by rw [e91]; exact hbh1) (by rw [e91]; have := hci.2.2.2.1.1; omega) (fun p hp => by rw [e91] at hp; rw [e6]; exact bo p hp) hq4) (tw_gV wl_X0_73 wn_X0_weave ws_X0_weave wi_X0 wy_X0_weave) rfl rfl (by decide +kernel) ⟨Nat.le_of_ble_eq_true rfl, Nat.le_of_ble_eq_true rfl⟩ rfl hl.1 rfl (Nat.le_of_ble_eq_true rfl) dX0_insert_84 ⟨Nat.le_of_ble_eq_true rfl, Nat.le_of_ble_eq_true rfl⟩ (fun u H locs hp w => ?_)
    obtain ⟨q, g1, g2, g3, g4, rfl⟩ := hp
    rw [e91] at g2 g4
    have g3 : ∀ j, bh ≤ j → j < q → tw_new st a d 4 (st 9 0) < tw_new st a d 4 (st 6 j) := fun j h1 h2 => by have := g3 j h1 h2; rw [e6] at this; exact this
    rw [e6] at g4
    refine lv_aload_n S.1 S.2.1 dX0_insert_87 rfl (lv_at hl 2 rfl) ?_
    refine lv_iload_n S.1 S.2.1 dX0_insert_88 rfl (lv_at hl 3 rfl) ?_
    refine lv_iload S.1 S.2.1 dX0_insert_89 (lv_at hl 0 rfl) ?_
    refine tw_cwv (n := 2) S w hA (kX0_receive l D cI cJ x ad (tw_wv (tw_new st a d) q (st 9 0)) _ (i := st 9 0) ha hr2 (by rw [tw_wv_o (by omega) (by omega), tw_new_o (by omega) (by omega), tw_add_0 ha]; exact ha) (by rw [tw_wv_o (by omega) (by omega), tw_new_o (by omega) (by omega), tw_add_2 ha]; omega) (fun j hj => by rw [tw_wv_o (by omega) (by omega), tw_new_o (by omega) (by omega), tw_add_2 ha] at hj; omega) (fun j => by rw [tw_wv_o (by omega) (by omega), tw_new_o (by omega) (by omega), tw_add_o (by omega) ha]; exact b5 j) (by rw [tw_wv_o (by omega) (by omega), tw_new_4 ha, if_pos rfl]; have := (b8 a ha).2; omega) (by rw [tw_wv_o (by omega) (by omega), tw_new_o (by omega) (by omega), tw_add_o (by omega) ha]; have := (b8 a ha).2; omega) (fun j hj => by rw [tw_wv_o (by omega) (by omega), tw_new_o (by omega) (by omega), tw_add_2 ha] at hj; omega)) (tw_gV wl_X0_76 wn_X0_receive ws_X0_receive wi_X0 wy_X0_receive) rfl rfl (by decide +kernel) ⟨Nat.le_of_ble_eq_true rfl, Nat.le_of_ble_eq_true rfl⟩ rfl hl.1 rfl (Nat.le_of_ble_eq_true rfl) dX0_insert_91 ⟨Nat.le_of_ble_eq_true rfl, Nat.le_of_ble_eq_true rfl⟩ (fun u H locs hp w => ?_)
    subst hp
    refine lv_aload_n S.1 S.2.1 dX0_insert_94 rfl (lv_at hl 2 rfl) ?_
    refine xxg_number S w dX0_insert_95 ?_
    refine lv_iload S.1 S.2.1 dX0_insert_98 (lv_at hl 0 rfl) ?_
    refine xxl_1 S w (by omega) dX0_insert_100 ?_
    refine tw_t (show _ = nI (st (24 + a) a) from by rw [tw_rcv_o (by omega), tw_wv_o (by omega) (by omega), tw_new_o (by omega) (by omega), tw_add_1 ha]) ?_
    refine vx_ret ?_
    refine W.widen (k := 4) (n := 24) (by omega) (by omega) ?_
    exact tw_iret S hr hlk w ⟨a, k, d, bh, q, ha, rfl, hk1, rfl, hd1, rfl, hr1, hr2, rfl, hbh, g1, g2, g3, g4, rfl⟩ dX0_insert_101
  refine lv_iload_n S.1 S.2.1 dX0_insert_26 rfl (lv_at hl 2 rfl) ?_
  refine lv_if_ne (tgt := 34) S.1 S.2.1 dX0_insert_27 (by decide) (fun h27 => ?_) (fun h27 => ?_)
  · have hk0 : k ≠ 0 := fun q => h27 (by rw [q]; decide)
    refine lv_aload_n S.1 S.2.1 dX0_insert_34 rfl (lv_at hl 0 rfl) ?_
    refine lv_iload_n S.1 S.2.1 dX0_insert_35 rfl (lv_at hl 1 rfl) ?_
    refine lv_iload_n S.1 S.2.1 dX0_insert_36 rfl (lv_at hl 2 rfl) ?_
    refine lv_iconst (v := nI 1) S.1 S.2.1 dX0_insert_37 (by decide) ?_
    refine lv_isub S.1 S.2.1 dX0_insert_38 ?_
    refine tw_t (pk_sub (by omega)) ?_
    refine tw_cro (n := 2) S w z (fun q h => h) hA (kX0_placeOf l D cI cJ x ad st _ (t := nI (k - 1)) ha bl bo b5) (tw_gV wl_X0_66 wn_X0_placeOf ws_X0_placeOf wi_X0 wy_X0_placeOf) rfl rfl (by decide +kernel) ⟨Nat.le_of_ble_eq_true rfl, Nat.le_of_ble_eq_true rfl⟩ rfl hl.1 rfl (Nat.le_of_ble_eq_true rfl) dX0_insert_39 ⟨Nat.le_of_ble_eq_true rfl, Nat.le_of_ble_eq_true rfl⟩ (fun r H locs hp w z => ?_)
    have h8c : st 8 a = tw_cn (tw_f st a) (st 9 1) := hci.2.2.1.2.2 a ha
    obtain ⟨p0, p1, p2, p3⟩ := tw_cn_at (show k - 1 < tw_cn (tw_f st a) (st 9 1) by omega)
    rcases hp with ⟨q, q1, q2, q3, rfl⟩ | ⟨-, g⟩
    rotate_left
    · exact absurd (by rw [p3]) (g p0 p1 p2)
    have q4 : k - 1 = tw_cn (tw_f st a) q := (tw_eq (by have := (b8 a ha).1; omega) (by have := tw_cn_le (tw_f st a) q; omega)).mp q3
    refine tw_t (nI_pred q).symm ?_
    first
      | exact tail 0 H locs ls (by omega) (Or.inl ⟨hk0, rfl⟩) w hl
      | exact tail (q + 1) H locs ls (by omega) (Or.inr ⟨q, q1, q2, by omega, rfl⟩) w hl
  · have hk0 : k = 0 := (tw_eq (by have := (b8 a ha).1; omega) (by omega)).mp h27
    refine lv_iconst (v := nI 0 - 1) S.1 S.2.1 dX0_insert_30 (by decide) ?_
    refine lv_goto (tgt := 42) S.1 S.2.1 dX0_insert_31 (by decide) ?_
    first
      | exact tail 0 H locs ls (by omega) (Or.inl ⟨hk0, rfl⟩) w hl
      | exact tail (q + 1) H locs ls (by omega) (Or.inr ⟨q, q1, q2, by omega, rfl⟩) w hl
end
section
set_option maxHeartbeats 4000000 in
set_option maxRecDepth 100000 in
/-- what would have been thrown -/
theorem kX1_thrown (l : Launch) (D : va_G) (cI cZ : ClassId) (x : Nat) (ad : Nat → Nat) (st : Nat → Nat → Nat) (sz : Nat)  : Met l yX1_thrown wsX1_thrown ({ frames := 0, cells := 0, slots := 0, locals := 0 }) (va_Pc [.ref x] (fun U => U.heap.size = sz ∧ tw_YU D cI cZ x ad st U)) (va_Qi (fun r u => r = nI (st 13 0) ∧ u = st) (tw_YT D cI cZ x ad (va_A (tw_y cI cZ x ad st) sz)) (va_A (tw_y cI cZ x ad st) sz)) 0 0 (va_A (tw_y cI cZ x ad st) sz) := by
  refine Met.ofW (cc := cX1_thrown) (maxL := 1) (ret := (some .int)) (by decide) rfl ?_
  intro p e s m args below meth cd s₁ B hml hv
  obtain ⟨rfl, hsz, hU⟩ := hv
  subst hsz
  have S : CallFix p m cd cX1_thrown 1 s ([.ref x] : List Value).toArray tw_wall RX1 := ⟨B.exec, B.bytes, hml, findClass_of_methodNamed B.named, fun w h => atoms_spec (ws := wsX1_thrown) B.pre w (List.mem_cons_of_mem _ h)⟩
  have hr := B.returns
  have hlk := B.notSynchronized
  have z : va_S (fun q => s.heap.size ≤ q) s.heap s.heap [] := va_S.rf
  have w := tw_Y0 hU
  have hA : ∀ q : Nat, s.heap.size ≤ q → va_A (tw_y cI cZ x ad st) s.heap.size q := fun q h => Or.inr h
  generalize va_A (tw_y cI cZ x ad st) s.heap.size = A at w hA ⊢
  have hl := lv_entry ([.ref x]) (n := 1) (Nat.le_of_ble_eq_true rfl)
  rw [lg_entry_eq]
  generalize (lg_sl ([.ref x]) ++ List.replicate (1 - (lg_sl ([.ref x])).length) Slot.unset).toArray = ls at hl ⊢
  have hl : lv_has ls 1 [(0, .ref x)] := hl
  refine lv_aload_n S.1 S.2.1 dX1_thrown_0 rfl (lv_at hl 0 rfl) ?_
  refine yyg_thrown S w dX1_thrown_1 ?_
  exact tw_iretY S hr hlk w ⟨rfl, rfl⟩ dX1_thrown_4
set_option maxHeartbeats 4000000 in
set_option maxRecDepth 100000 in
/-- bad(is) -/
theorem kX1_bad (l : Launch) (D : va_G) (cI cZ : ClassId) (x : Nat) (ad : Nat → Nat) (st : Nat → Nat → Nat) (sz : Nat) {b : Nat} (hb : b < 2) : Met l yX1_bad wsX1_bad ({ frames := 0, cells := 0, slots := 0, locals := 0 }) (va_Pc [.ref x, .int (nI b)] (fun U => U.heap.size = sz ∧ tw_YU D cI cZ x ad st U)) (va_Qi (fun r u => r = nI b ∧ u = tw_up st 13 0 b) (tw_YT D cI cZ x ad (va_A (tw_y cI cZ x ad st) sz)) (va_A (tw_y cI cZ x ad st) sz)) 0 0 (va_A (tw_y cI cZ x ad st) sz) := by
  refine Met.ofW (cc := cX1_bad) (maxL := 2) (ret := (some .boolean)) (by decide) rfl ?_
  intro p e s m args below meth cd s₁ B hml hv
  obtain ⟨rfl, hsz, hU⟩ := hv
  subst hsz
  have S : CallFix p m cd cX1_bad 2 s ([.ref x, .int (nI b)] : List Value).toArray tw_wall RX1 := ⟨B.exec, B.bytes, hml, findClass_of_methodNamed B.named, fun w h => atoms_spec (ws := wsX1_bad) B.pre w (List.mem_cons_of_mem _ h)⟩
  have hr := B.returns
  have hlk := B.notSynchronized
  have z : va_S (fun q => s.heap.size ≤ q) s.heap s.heap [] := va_S.rf
  have w := tw_Y0 hU
  have hA : ∀ q : Nat, s.heap.size ≤ q → va_A (tw_y cI cZ x ad st) s.heap.size q := fun q h => Or.inr h
  generalize va_A (tw_y cI cZ x ad st) s.heap.size = A at w hA ⊢
  have hl := lv_entry ([.ref x, .int (nI b)]) (n := 2) (Nat.le_of_ble_eq_true rfl)
  rw [lg_entry_eq]
  generalize (lg_sl ([.ref x, .int (nI b)]) ++ List.replicate (2 - (lg_sl ([.ref x, .int (nI b)])).length) Slot.unset).toArray = ls at hl ⊢
  have hl : lv_has ls 2 [(0, .ref x), (1, .int (nI b))] := hl
  refine lv_aload_n S.1 S.2.1 dX1_bad_0 rfl (lv_at hl 0 rfl) ?_
  refine lv_iload_n S.1 S.2.1 dX1_bad_1 rfl (lv_at hl 1 rfl) ?_
  refine lv_if_eq (tgt := 9) S.1 S.2.1 dX1_bad_2 (by decide) (fun h2 => ?_) (fun h2 => ?_)
  · have hb0 : b = 0 := (tw_eq (by omega) (by omega)).mp h2
    refine lv_iconst (v := nI 0) S.1 S.2.1 dX1_bad_9 (by decide) ?_
    refine yyp_thrown S w dX1_bad_10 (fun H locs w => ?_)
    refine lv_iload_n S.1 S.2.1 dX1_bad_13 rfl (lv_at hl 1 rfl) ?_
    first
      | exact tw_zretY S hr hlk w (by rw [hb0]; rfl) ⟨rfl, by rw [hb0]⟩ dX1_bad_14
  · have hb0 : b = 1 := by rcases (show b = 0 ∨ b = 1 by omega) with q | q; exact absurd (by rw [q]; decide) h2; exact q
    refine lv_iconst (v := nI 1) S.1 S.2.1 dX1_bad_5 (by decide) ?_
    refine lv_goto (tgt := 10) S.1 S.2.1 dX1_bad_6 (by decide) ?_
    refine yyp_thrown S w dX1_bad_10 (fun H locs w => ?_)
    refine lv_iload_n S.1 S.2.1 dX1_bad_13 rfl (lv_at hl 1 rfl) ?_
    first
      | exact tw_zretY S hr hlk w (by rw [hb0]; rfl) ⟨rfl, by rw [hb0]⟩ dX1_bad_14
theorem tw_4le {v : Int32} (h : nI 4 ≤ v) : nI 3 < v := by
  have h1 := Int32.le_iff_toInt_le.mp h
  have h2 : (nI 4).toInt = 4 := by decide
  have h3 : (nI 3).toInt = 3 := by decide
  exact Int32.lt_iff_toInt_lt.mpr (by omega)
theorem tw_4nle {v : Int32} (h : ¬ nI 4 ≤ v) : v ≤ nI 3 := by
  have h2 : (nI 4).toInt = 4 := by decide
  have h3 : (nI 3).toInt = 3 := by decide
  have h1 : ¬ (4 : Int) ≤ v.toInt := fun q => h (Int32.le_iff_toInt_le.mpr (by omega))
  exact Int32.le_iff_toInt_le.mpr (by omega)
set_option maxHeartbeats 4000000 in
set_option maxRecDepth 100000 in
/-- isCopy(c) -/
theorem kX1_isCopy (l : Launch) (sz : Nat) {v : Int32} : Met l yX1_isCopy wsX1_isCopy ({ frames := 0, cells := 0, slots := 0, locals := 0 }) (va_Pc [.int v] (fun U => U.heap.size = sz)) (va_Qi (fun r (_ : Unit) => (r = 1 ∧ ∃ a, a < 4 ∧ v = nI a) ∨ (r = 0 ∧ tw_nc v)) (fun _ _ => True) (fun q => sz ≤ q)) 0 0 (fun q => sz ≤ q) := by
  refine Met.ofW (cc := cX1_isCopy) (maxL := 1) (ret := (some .boolean)) (by decide) rfl ?_
  intro p e s m args below meth cd s₁ B hml hv
  obtain ⟨rfl, hsz⟩ := hv
  have hsz : s.heap.size = sz := hsz
  subst hsz
  have S : CallFix p m cd cX1_isCopy 1 s ([.int v] : List Value).toArray tw_wall RX1 := ⟨B.exec, B.bytes, hml, findClass_of_methodNamed B.named, fun w h => atoms_spec (ws := wsX1_isCopy) B.pre w (List.mem_cons_of_mem _ h)⟩
  have hr := B.returns
  have hlk := B.notSynchronized
  have z : va_S (fun q => s.heap.size ≤ q) s.heap s.heap [] := va_S.rf
  have hl := lv_entry ([.int v]) (n := 1) (Nat.le_of_ble_eq_true rfl)
  rw [lg_entry_eq]
  generalize (lg_sl ([.int v]) ++ List.replicate (1 - (lg_sl ([.int v])).length) Slot.unset).toArray = ls at hl ⊢
  have hl : lv_has ls 1 [(0, .int v)] := hl
  refine lv_iload_n S.1 S.2.1 dX1_isCopy_0 rfl (lv_at hl 0 rfl) ?_
  refine lv_if_lt (tgt := 13) S.1 S.2.1 dX1_isCopy_1 (by decide) (fun h1 => ?_) (fun h1 => ?_)
  · refine lv_iconst (v := 0) S.1 S.2.1 dX1_isCopy_13 (by decide) ?_
    exact tw_iro S hr rfl hlk z (by first | exact Or.inr ⟨rfl, Or.inl h1⟩ | exact Or.inr ⟨rfl, Or.inr (tw_4le h6)⟩ | exact Or.inl ⟨rfl, tw_copy ⟨h1, tw_4nle h6⟩⟩) dX1_isCopy_14
  · refine lv_iload_n S.1 S.2.1 dX1_isCopy_4 rfl (lv_at hl 0 rfl) ?_
    refine lv_iconst (v := nI 4) S.1 S.2.1 dX1_isCopy_5 (by decide) ?_
    refine lv_icmp_ge (tgt := 13) S.1 S.2.1 dX1_isCopy_6 (by decide) (fun h6 => ?_) (fun h6 => ?_)
    · refine lv_iconst (v := 0) S.1 S.2.1 dX1_isCopy_13 (by decide) ?_
      exact tw_iro S hr rfl hlk z (by first | exact Or.inr ⟨rfl, Or.inl h1⟩ | exact Or.inr ⟨rfl, Or.inr (tw_4le h6)⟩ | exact Or.inl ⟨rfl, tw_copy ⟨h1, tw_4nle h6⟩⟩) dX1_isCopy_14
    · refine lv_iconst (v := 1) S.1 S.2.1 dX1_isCopy_9 (by decide) ?_
      refine lv_goto (tgt := 14) S.1 S.2.1 dX1_isCopy_10 (by decide) ?_
      exact tw_iro S hr rfl hlk z (by first | exact Or.inr ⟨rfl, Or.inl h1⟩ | exact Or.inr ⟨rfl, Or.inr (tw_4le h6)⟩ | exact Or.inl ⟨rfl, tw_copy ⟨h1, tw_4nle h6⟩⟩) dX1_isCopy_14
set_option maxHeartbeats 4000000 in
set_option maxRecDepth 100000 in
/-- isIn(c, l) -/
theorem kX1_isIn (l : Launch) (D : va_G) (cI cZ : ClassId) (x : Nat) (ad : Nat → Nat) (st : Nat → Nat → Nat) (sz : Nat) {a k : Nat} (ha : a < 4) (hk : k < 1601) (hm : st 1 k < 4) (b1 : st 2 k < 2147483648) (b2 : st 10 (4 * a + st 1 k) < 2147483648) : Met l yX1_isIn wsX1_isIn ({ frames := 0, cells := 0, slots := 0, locals := 0 }) (va_Pc [.ref x, .int (nI a), .int (nI k)] (fun U => U.heap.size = sz ∧ tw_YU D cI cZ x ad st U)) (va_Qi (fun r u => ((r = 1 ∧ st 2 k < st 10 (4 * a + st 1 k)) ∨ (r = 0 ∧ ¬ st 2 k < st 10 (4 * a + st 1 k))) ∧ u = st) (tw_YT D cI cZ x ad (va_A (tw_y cI cZ x ad st) sz)) (va_A (tw_y cI cZ x ad st) sz)) 0 0 (va_A (tw_y cI cZ x ad st) sz) := by
  refine Met.ofW (cc := cX1_isIn) (maxL := 3) (ret := (some .boolean)) (by decide) rfl ?_
  intro p e s m args below meth cd s₁ B hml hv
  obtain ⟨rfl, hsz, hU⟩ := hv
  subst hsz
  have S : CallFix p m cd cX1_isIn 3 s ([.ref x, .int (nI a), .int (nI k)] : List Value).toArray tw_wall RX1 := ⟨B.exec, B.bytes, hml, findClass_of_methodNamed B.named, fun w h => atoms_spec (ws := wsX1_isIn) B.pre w (List.mem_cons_of_mem _ h)⟩
  have hr := B.returns
  have hlk := B.notSynchronized
  have z : va_S (fun q => s.heap.size ≤ q) s.heap s.heap [] := va_S.rf
  have w := tw_Y0 hU
  have hA : ∀ q : Nat, s.heap.size ≤ q → va_A (tw_y cI cZ x ad st) s.heap.size q := fun q h => Or.inr h
  generalize va_A (tw_y cI cZ x ad st) s.heap.size = A at w hA ⊢
  have hl := lv_entry ([.ref x, .int (nI a), .int (nI k)]) (n := 3) (Nat.le_of_ble_eq_true rfl)
  rw [lg_entry_eq]
  generalize (lg_sl ([.ref x, .int (nI a), .int (nI k)]) ++ List.replicate (3 - (lg_sl ([.ref x, .int (nI a), .int (nI k)])).length) Slot.unset).toArray = ls at hl ⊢
  have hl : lv_has ls 3 [(0, .ref x), (1, .int (nI a)), (2, .int (nI k))] := hl
  refine lv_aload_n S.1 S.2.1 dX1_isIn_0 rfl (lv_at hl 0 rfl) ?_
  refine yyg_change S w dX1_isIn_1 ?_
  refine lv_iload_n S.1 S.2.1 dX1_isIn_4 rfl (lv_at hl 2 rfl) ?_
  refine yyl_2 S w (by omega) dX1_isIn_5 ?_
  refine lv_aload_n S.1 S.2.1 dX1_isIn_6 rfl (lv_at hl 0 rfl) ?_
  refine yyg_has S w dX1_isIn_7 ?_
  refine lv_iconst (v := nI 4) S.1 S.2.1 dX1_isIn_10 (by decide) ?_
  refine lv_iload_n S.1 S.2.1 dX1_isIn_11 rfl (lv_at hl 1 rfl) ?_
  refine lv_imul S.1 S.2.1 dX1_isIn_12 ?_
  refine tw_t (pk_mul _ _) ?_
  refine lv_aload_n S.1 S.2.1 dX1_isIn_13 rfl (lv_at hl 0 rfl) ?_
  refine yyg_maker S w dX1_isIn_14 ?_
  refine lv_iload_n S.1 S.2.1 dX1_isIn_17 rfl (lv_at hl 2 rfl) ?_
  refine yyl_1 S w (by omega) dX1_isIn_18 ?_
  refine lv_iadd S.1 S.2.1 dX1_isIn_19 ?_
  refine tw_t (nI_add _ _) ?_
  refine yyl_10 S w (by omega) dX1_isIn_20 ?_
  refine lv_icmp_ge (tgt := 28) S.1 S.2.1 dX1_isIn_21 (by decide) (fun h21 => ?_) (fun h21 => ?_)
  · refine lv_iconst (v := 0) S.1 S.2.1 dX1_isIn_28 (by decide) ?_
    exact tw_zretY S hr hlk w rfl ⟨by first | exact Or.inr ⟨rfl, fun q => by have := (tw_le b2 b1).mp h21; omega⟩ | exact Or.inl ⟨rfl, Nat.not_le.mp (fun g => h21 ((tw_le b2 b1).mpr g))⟩, rfl⟩ dX1_isIn_29
  · refine lv_iconst (v := 1) S.1 S.2.1 dX1_isIn_24 (by decide) ?_
    refine lv_goto (tgt := 29) S.1 S.2.1 dX1_isIn_25 (by decide) ?_
    exact tw_zretY S hr hlk w rfl ⟨by first | exact Or.inr ⟨rfl, fun q => by have := (tw_le b2 b1).mp h21; omega⟩ | exact Or.inl ⟨rfl, Nat.not_le.mp (fun g => h21 ((tw_le b2 b1).mpr g))⟩, rfl⟩ dX1_isIn_29
set_option maxHeartbeats 4000000 in
set_option maxRecDepth 100000 in
/-- isBefore(a, b) -/
theorem kX1_isBefore (l : Launch) (D : va_G) (cI cZ : ClassId) (x : Nat) (ad : Nat → Nat) (st : Nat → Nat → Nat) (sz : Nat) {i k : Nat} (hi : i < 1601) (hk : k < 1601) (m1 : st 1 i < 4) (m2 : st 1 k < 4) (b1 : st 0 i < 2147483648) (b2 : st 0 k < 2147483648) : Met l yX1_isBefore wsX1_isBefore ({ frames := 0, cells := 0, slots := 0, locals := 0 }) (va_Pc [.ref x, .int (nI i), .int (nI k)] (fun U => U.heap.size = sz ∧ tw_YU D cI cZ x ad st U)) (va_Qi (fun r u => ((r = 1 ∧ tw_n st k < tw_n st i) ∨ (r = 0 ∧ ¬ tw_n st k < tw_n st i)) ∧ u = st) (tw_YT D cI cZ x ad (va_A (tw_y cI cZ x ad st) sz)) (va_A (tw_y cI cZ x ad st) sz)) 0 0 (va_A (tw_y cI cZ x ad st) sz) := by
  refine Met.ofW (cc := cX1_isBefore) (maxL := 3) (ret := (some .boolean)) (by decide) rfl ?_
  intro p e s m args below meth cd s₁ B hml hv
  obtain ⟨rfl, hsz, hU⟩ := hv
  subst hsz
  have S : CallFix p m cd cX1_isBefore 3 s ([.ref x, .int (nI i), .int (nI k)] : List Value).toArray tw_wall RX1 := ⟨B.exec, B.bytes, hml, findClass_of_methodNamed B.named, fun w h => atoms_spec (ws := wsX1_isBefore) B.pre w (List.mem_cons_of_mem _ h)⟩
  have hr := B.returns
  have hlk := B.notSynchronized
  have z : va_S (fun q => s.heap.size ≤ q) s.heap s.heap [] := va_S.rf
  have w := tw_Y0 hU
  have hA : ∀ q : Nat, s.heap.size ≤ q → va_A (tw_y cI cZ x ad st) s.heap.size q := fun q h => Or.inr h
  generalize va_A (tw_y cI cZ x ad st) s.heap.size = A at w hA ⊢
  have hl := lv_entry ([.ref x, .int (nI i), .int (nI k)]) (n := 3) (Nat.le_of_ble_eq_true rfl)
  rw [lg_entry_eq]
  generalize (lg_sl ([.ref x, .int (nI i), .int (nI k)]) ++ List.replicate (3 - (lg_sl ([.ref x, .int (nI i), .int (nI k)])).length) Slot.unset).toArray = ls at hl ⊢
  have hl : lv_has ls 3 [(0, .ref x), (1, .int (nI i)), (2, .int (nI k))] := hl
  refine lv_aload_n S.1 S.2.1 dX1_isBefore_0 rfl (lv_at hl 0 rfl) ?_
  refine yyg_number S w dX1_isBefore_1 ?_
  refine lv_iload_n S.1 S.2.1 dX1_isBefore_4 rfl (lv_at hl 1 rfl) ?_
  refine yyl_0 S w (by omega) dX1_isBefore_5 ?_
  refine lv_aload_n S.1 S.2.1 dX1_isBefore_6 rfl (lv_at hl 0 rfl) ?_
  refine yyg_number S w dX1_isBefore_7 ?_
  refine lv_iload_n S.1 S.2.1 dX1_isBefore_10 rfl (lv_at hl 2 rfl) ?_
  refine yyl_0 S w (by omega) dX1_isBefore_11 ?_
  refine lv_icmp_gt (tgt := 45) S.1 S.2.1 dX1_isBefore_12 (by decide) (fun h12 => ?_) (fun h12 => ?_)
  · have n1 : st 0 k < st 0 i := (tw_lt b2 b1).mp h12
    refine lv_iconst (v := 1) S.1 S.2.1 dX1_isBefore_45 (by decide) ?_
    refine lv_goto (tgt := 50) S.1 S.2.1 dX1_isBefore_46 (by decide) ?_
    exact tw_zretY S hr hlk w rfl ⟨by first | exact Or.inl ⟨rfl, by unfold tw_n; omega⟩ | exact Or.inr ⟨rfl, by unfold tw_n; omega⟩, rfl⟩ dX1_isBefore_50
  · have n1 : ¬ st 0 k < st 0 i := fun q => h12 ((tw_lt b2 b1).mpr q)
    refine lv_aload_n S.1 S.2.1 dX1_isBefore_15 rfl (lv_at hl 0 rfl) ?_
    refine yyg_number S w dX1_isBefore_16 ?_
    refine lv_iload_n S.1 S.2.1 dX1_isBefore_19 rfl (lv_at hl 1 rfl) ?_
    refine yyl_0 S w (by omega) dX1_isBefore_20 ?_
    refine lv_aload_n S.1 S.2.1 dX1_isBefore_21 rfl (lv_at hl 0 rfl) ?_
    refine yyg_number S w dX1_isBefore_22 ?_
    refine lv_iload_n S.1 S.2.1 dX1_isBefore_25 rfl (lv_at hl 2 rfl) ?_
    refine yyl_0 S w (by omega) dX1_isBefore_26 ?_
    refine lv_icmp_ne (tgt := 49) S.1 S.2.1 dX1_isBefore_27 (by decide) (fun h27 => ?_) (fun h27 => ?_)
    · have n2 : st 0 i ≠ st 0 k := fun q => h27 (by rw [q])
      refine lv_iconst (v := 0) S.1 S.2.1 dX1_isBefore_49 (by decide) ?_
      exact tw_zretY S hr hlk w rfl ⟨by first | exact Or.inl ⟨rfl, by unfold tw_n; omega⟩ | exact Or.inr ⟨rfl, by unfold tw_n; omega⟩, rfl⟩ dX1_isBefore_50
    · have n2 : st 0 i = st 0 k := (tw_eq b1 b2).mp h27
      refine lv_aload_n S.1 S.2.1 dX1_isBefore_30 rfl (lv_at hl 0 rfl) ?_
      refine yyg_maker S w dX1_isBefore_31 ?_
      refine lv_iload_n S.1 S.2.1 dX1_isBefore_34 rfl (lv_at hl 1 rfl) ?_
      refine yyl_1 S w (by omega) dX1_isBefore_35 ?_
      refine lv_aload_n S.1 S.2.1 dX1_isBefore_36 rfl (lv_at hl 0 rfl) ?_
      refine yyg_maker S w dX1_isBefore_37 ?_
      refine lv_iload_n S.1 S.2.1 dX1_isBefore_40 rfl (lv_at hl 2 rfl) ?_
      refine yyl_1 S w (by omega) dX1_isBefore_41 ?_
      refine lv_icmp_le (tgt := 49) S.1 S.2.1 dX1_isBefore_42 (by decide) (fun h42 => ?_) (fun h42 => ?_)
      · have n3 : st 1 i ≤ st 1 k := (tw_le (by omega) (by omega)).mp h42
        refine lv_iconst (v := 0) S.1 S.2.1 dX1_isBefore_49 (by decide) ?_
        exact tw_zretY S hr hlk w rfl ⟨by first | exact Or.inl ⟨rfl, by unfold tw_n; omega⟩ | exact Or.inr ⟨rfl, by unfold tw_n; omega⟩, rfl⟩ dX1_isBefore_50
      · have n3 : ¬ st 1 i ≤ st 1 k := fun q => h42 ((tw_le (by omega) (by omega)).mpr q)
        refine lv_iconst (v := 1) S.1 S.2.1 dX1_isBefore_45 (by decide) ?_
        refine lv_goto (tgt := 50) S.1 S.2.1 dX1_isBefore_46 (by decide) ?_
        exact tw_zretY S hr hlk w rfl ⟨by first | exact Or.inl ⟨rfl, by unfold tw_n; omega⟩ | exact Or.inr ⟨rfl, by unfold tw_n; omega⟩, rfl⟩ dX1_isBefore_50
def tw_dnK (st s : Nat → Nat → Nat) (a : Nat) : Nat → (Nat → Nat → Nat)
  | 0 => s
  | k + 1 => tw_up (tw_dnK st s a k) 8 ((400 * a + st 9 a) * 4 + k) (st 10 (4 * a + k))
theorem tw_dnK_o {st s : Nat → Nat → Nat} {a : Nat} : ∀ {k k' y : Nat}, k' ≠ 8 → tw_dnK st s a k k' y = s k' y
  | 0, _, _, _ => rfl
  | k + 1, k', y, h => by
    show tw_up (tw_dnK st s a k) 8 _ _ k' y = s k' y
    rw [tw_up_k h]
    exact tw_dnK_o h
/-- a change of copy a in the reference -/
def tw_dn (st : Nat → Nat → Nat) (a h : Nat) : Nat → Nat → Nat := tw_up (tw_up (tw_up (tw_dnK st (tw_up st 7 (400 * a + st 9 a) h) a 4) 9 a (st 9 a + 1)) 10 (4 * a + a) (st 10 (4 * a + a) + 1)) 13 2 0
set_option maxHeartbeats 4000000 in
set_option maxRecDepth 100000 in
/-- done(c, how) -/
theorem kX1_done (l : Launch) (D : va_G) (cI cZ : ClassId) (x : Nat) (ad : Nat → Nat) (st : Nat → Nat → Nat) (sz : Nat) {a h : Nat} (ha : a < 4) (hk : st 9 a < 400) : Met l yX1_done wsX1_done ({ frames := 0, cells := 0, slots := 0, locals := 0 }) (va_Pc [.ref x, .int (nI a), .int (tw_wh h)] (fun U => U.heap.size = sz ∧ tw_YU D cI cZ x ad st U)) (va_Qi (fun r u => r = nI (st 9 a) ∧ u = tw_dn st a h) (tw_YT D cI cZ x ad (va_A (tw_y cI cZ x ad st) sz)) (va_A (tw_y cI cZ x ad st) sz)) 0 0 (va_A (tw_y cI cZ x ad st) sz) := by
  refine Met.ofW (cc := cX1_done) (maxL := 5) (ret := (some .int)) (by decide) rfl ?_
  intro p e s m args below meth cd s₁ B hml hv
  obtain ⟨rfl, hsz, hU⟩ := hv
  subst hsz
  have S : CallFix p m cd cX1_done 5 s ([.ref x, .int (nI a), .int (tw_wh h)] : List Value).toArray tw_wall RX1 := ⟨B.exec, B.bytes, hml, findClass_of_methodNamed B.named, fun w h => atoms_spec (ws := wsX1_done) B.pre w (List.mem_cons_of_mem _ h)⟩
  have hr := B.returns
  have hlk := B.notSynchronized
  have z : va_S (fun q => s.heap.size ≤ q) s.heap s.heap [] := va_S.rf
  have w := tw_Y0 hU
  have hA : ∀ q : Nat, s.heap.size ≤ q → va_A (tw_y cI cZ x ad st) s.heap.size q := fun q h => Or.inr h
  generalize va_A (tw_y cI cZ x ad st) s.heap.size = A at w hA ⊢
  have hl := lv_entry ([.ref x, .int (nI a), .int (tw_wh h)]) (n := 5) (Nat.le_of_ble_eq_true rfl)
  rw [lg_entry_eq]
  generalize (lg_sl ([.ref x, .int (nI a), .int (tw_wh h)]) ++ List.replicate (5 - (lg_sl ([.ref x, .int (nI a), .int (tw_wh h)])).length) Slot.unset).toArray = ls at hl ⊢
  have hl : lv_has ls 5 [(0, .ref x), (1, .int (nI a)), (2, .int (tw_wh h))] := hl
  have loop : ∀ (n : Nat) (k : Nat) (H : Heap) (locs : List Loc) (ls : Array Slot), k ≤ 4 → 4 - k < n → TWY D cI cZ x ad (tw_dnK st (tw_up st 7 (400 * a + st 9 a) h) a k) A s.heap H locs s → lv_has ls 5 [(4, .int (nI k)), (3, .int (nI (st 9 a))), (0, .ref x), (1, .int (nI a)), (2, .int (tw_wh h))] → W p l e (headSpec wsX1_done ({ frames := 0, cells := 0, slots := 0, locals := 0 })).room s m ([.ref x, .int (nI a), .int (tw_wh h)] : List Value).toArray below meth cd H locs 0 0 (MQ below (va_Qi (fun r u => r = nI (st 9 a) ∧ u = tw_dn st a h) (tw_YT D cI cZ x ad A) A) ([.ref x, .int (nI a), .int (tw_wh h)] : List Value).toArray s 0 0 A) (F0 m 23 ls []) := by
    intro n
    induction n with
    | zero => intros; omega
    | succ n ih =>
      intro k H locs ls hk hm w hl
      refine lv_iload S.1 S.2.1 dX1_done_23 (lv_at hl 0 rfl) ?_
      refine lv_iconst (v := nI 4) S.1 S.2.1 dX1_done_25 (by decide) ?_
      refine lv_icmp_ge (tgt := 63) S.1 S.2.1 dX1_done_26 (by decide) (fun h26 => ?_) (fun h26 => ?_)
      · have hk4 : k = 4 := by have := (tw_le (by omega) (by omega)).mp h26; omega
        subst hk4
        refine lv_aload_n S.1 S.2.1 dX1_done_63 rfl (lv_at hl 2 rfl) ?_
        refine yyg_made S w dX1_done_64 ?_
        refine lv_iload_n S.1 S.2.1 dX1_done_67 rfl (lv_at hl 3 rfl) ?_
        refine lv_dup2_11 S.1 S.2.1 dX1_done_68 rfl rfl ?_
        refine yyl_9 S w (by omega) dX1_done_69 ?_
        refine tw_t (show _ = nI (st 9 a) from by rw [tw_dnK_o (by omega), tw_up_k (by omega)]) ?_
        refine lv_iconst (v := nI 1) S.1 S.2.1 dX1_done_70 (by decide) ?_
        refine lv_iadd S.1 S.2.1 dX1_done_71 ?_
        refine tw_t (nI_add _ _) ?_
        refine yys_9 S w (by omega)  dX1_done_72 (fun H locs w => ?_)
        refine lv_aload_n S.1 S.2.1 dX1_done_73 rfl (lv_at hl 2 rfl) ?_
        refine yyg_has S w dX1_done_74 ?_
        refine lv_iconst (v := nI 4) S.1 S.2.1 dX1_done_77 (by decide) ?_
        refine lv_iload_n S.1 S.2.1 dX1_done_78 rfl (lv_at hl 3 rfl) ?_
        refine lv_imul S.1 S.2.1 dX1_done_79 ?_
        refine tw_t (pk_mul _ _) ?_
        refine lv_iload_n S.1 S.2.1 dX1_done_80 rfl (lv_at hl 3 rfl) ?_
        refine lv_iadd S.1 S.2.1 dX1_done_81 ?_
        refine tw_t (nI_add _ _) ?_
        refine lv_dup2_11 S.1 S.2.1 dX1_done_82 rfl rfl ?_
        refine yyl_10 S w (by omega) dX1_done_83 ?_
        refine tw_t (show _ = nI (st 10 (4 * a + a)) from by rw [tw_up_k (by omega), tw_dnK_o (by omega), tw_up_k (by omega)]) ?_
        refine lv_iconst (v := nI 1) S.1 S.2.1 dX1_done_84 (by decide) ?_
        refine lv_iadd S.1 S.2.1 dX1_done_85 ?_
        refine tw_t (nI_add _ _) ?_
        refine yys_10 S w (by omega)  dX1_done_86 (fun H locs w => ?_)
        refine lv_aload_n S.1 S.2.1 dX1_done_87 rfl (lv_at hl 2 rfl) ?_
        refine lv_iconst (v := nI 0 - 1) S.1 S.2.1 dX1_done_88 (by decide) ?_
        refine yyp_orderOf S w dX1_done_89 (fun H locs w => ?_)
        refine lv_iload_n S.1 S.2.1 dX1_done_92 rfl (lv_at hl 1 rfl) ?_
        exact tw_iretY S hr hlk w ⟨rfl, rfl⟩ dX1_done_93
      · have hk4 : k < 4 := Nat.not_le.mp (fun g => h26 ((tw_le (by omega) (by omega)).mpr g))
        refine lv_aload_n S.1 S.2.1 dX1_done_29 rfl (lv_at hl 2 rfl) ?_
        refine yyg_had S w dX1_done_30 ?_
        refine lv_sipush (v := nI 400) S.1 S.2.1 dX1_done_33 (by decide) ?_
        refine lv_iload_n S.1 S.2.1 dX1_done_36 rfl (lv_at hl 3 rfl) ?_
        refine lv_imul S.1 S.2.1 dX1_done_37 ?_
        refine tw_t (pk_mul _ _) ?_
        refine lv_iload_n S.1 S.2.1 dX1_done_38 rfl (lv_at hl 1 rfl) ?_
        refine lv_iadd S.1 S.2.1 dX1_done_39 ?_
        refine tw_t (nI_add _ _) ?_
        refine lv_iconst (v := nI 4) S.1 S.2.1 dX1_done_40 (by decide) ?_
        refine lv_imul S.1 S.2.1 dX1_done_41 ?_
        refine tw_t (pk_mul _ _) ?_
        refine lv_iload S.1 S.2.1 dX1_done_42 (lv_at hl 0 rfl) ?_
        refine lv_iadd S.1 S.2.1 dX1_done_44 ?_
        refine tw_t (nI_add _ _) ?_
        refine lv_aload_n S.1 S.2.1 dX1_done_45 rfl (lv_at hl 2 rfl) ?_
        refine yyg_has S w dX1_done_46 ?_
        refine lv_iconst (v := nI 4) S.1 S.2.1 dX1_done_49 (by decide) ?_
        refine lv_iload_n S.1 S.2.1 dX1_done_50 rfl (lv_at hl 3 rfl) ?_
        refine lv_imul S.1 S.2.1 dX1_done_51 ?_
        refine tw_t (pk_mul _ _) ?_
        refine lv_iload S.1 S.2.1 dX1_done_52 (lv_at hl 0 rfl) ?_
        refine lv_iadd S.1 S.2.1 dX1_done_54 ?_
        refine tw_t (nI_add _ _) ?_
        refine yyl_10 S w (by omega) dX1_done_55 ?_
        refine tw_t (show _ = nI (st 10 (4 * a + k)) from by rw [tw_dnK_o (by omega), tw_up_k (by omega)]) ?_
        refine yys_8 S w (by omega)  dX1_done_56 (fun H locs w => ?_)
        refine lv_iinc S.1 S.2.1 dX1_done_57 hl (k := 0) rfl (tw_inc _) (by decide) rfl (fun ls hl => ?_)
        refine lv_goto (tgt := 23) S.1 S.2.1 dX1_done_60 (by decide) ?_
        exact ih (k + 1) H locs ls (by omega) (by omega) w (lv_sub hl [0, 1, 2, 3, 4] rfl)
  refine lv_aload_n S.1 S.2.1 dX1_done_0 rfl (lv_at hl 0 rfl) ?_
  refine yyg_made S w dX1_done_1 ?_
  refine lv_iload_n S.1 S.2.1 dX1_done_4 rfl (lv_at hl 1 rfl) ?_
  refine yyl_9 S w (by omega) dX1_done_5 ?_
  refine lv_istore_n S.1 S.2.1 dX1_done_6 rfl hl (by decide) rfl (fun ls hl => ?_)
  refine lv_aload_n S.1 S.2.1 dX1_done_7 rfl (lv_at hl 1 rfl) ?_
  refine yyg_what S w dX1_done_8 ?_
  refine lv_sipush (v := nI 400) S.1 S.2.1 dX1_done_11 (by decide) ?_
  refine lv_iload_n S.1 S.2.1 dX1_done_14 rfl (lv_at hl 2 rfl) ?_
  refine lv_imul S.1 S.2.1 dX1_done_15 ?_
  refine tw_t (pk_mul _ _) ?_
  refine lv_iload_n S.1 S.2.1 dX1_done_16 rfl (lv_at hl 0 rfl) ?_
  refine lv_iadd S.1 S.2.1 dX1_done_17 ?_
  refine tw_t (nI_add _ _) ?_
  refine lv_iload_n S.1 S.2.1 dX1_done_18 rfl (lv_at hl 3 rfl) ?_
  refine yys_7 S w (by omega)  dX1_done_19 (fun H locs w => ?_)
  refine lv_iconst (v := nI 0) S.1 S.2.1 dX1_done_20 (by decide) ?_
  refine lv_istore S.1 S.2.1 dX1_done_21 hl (by decide) rfl (fun ls hl => ?_)
  exact loop 5 0 _ _ _ (by omega) (by omega) w (lv_sub hl [0, 1, 2, 3, 4] rfl)
end
section
theorem tw_wh_e (y : Nat) : tw_wh (2 * y) = nI y := by
  unfold tw_wh
  rw [if_pos (by omega), show 2 * y / 2 = y by omega]
theorem tw_wh_o (y : Nat) : tw_wh (2 * y + 1) = -nI y := by
  unfold tw_wh
  rw [if_neg (by omega), show (2 * y + 1) / 2 = y by omega]
theorem tw_nn (y : Nat) : -(-nI y) = nI y := Int32.neg_neg
theorem tw_neg {y : Nat} (h : 1 ≤ y) (h2 : y < 2147483648) : ¬ 0 ≤ -nI y := fun q => by
  have h1 := sb_negT (w := y) h2
  have h3 := Int32.le_iff_toInt_le.mp q
  rw [h1] at h3
  have h4 : (0 : Int32).toInt = 0 := by decide
  omega
theorem tw_m1e {k a : Nat} (h : nI k - 1 = nI a) (hk : k < 2147483648) (ha : a + 1 < 2147483648) : k = a + 1 := by
  have h2 : nI k - 1 + 1 = nI a + 1 := by rw [h]
  rw [Int32.sub_add_cancel, nI_1] at h2
  exact (tw_eq hk ha).mp h2
theorem tw_s1 {st : Nat → Nat → Nat} {a k y : Nat} (h : k ≠ 13 ∨ (y ≠ 2 ∧ y ≠ 3)) : tw_up (tw_up st 13 2 (a + 1)) 13 3 0 k y = st k y := by
  by_cases g : k = 13
  · rw [tw_up_i (by omega), tw_up_i (by omega)]
  · rw [tw_up_k g, tw_up_k g]
set_option maxHeartbeats 4000000 in
set_option maxRecDepth 100000 in
/-- look(c): the text of a copy -/
theorem kX1_look (l : Launch) (D : va_G) (cI cZ : ClassId) (x : Nat) (ad : Nat → Nat) (st : Nat → Nat → Nat) (sz : Nat) {a : Nat} {T : Nat → Nat} {f : Nat → Bool} (ha : a < 4) (hp0 : tw_lkp st a T f) : Met l yX1_look wsX1_look ({ frames := 1, cells := 0, slots := 0, locals := 30 }) (va_Pc [.ref x, .int (nI a)] (fun U => U.heap.size = sz ∧ tw_YU D cI cZ x ad st U)) (va_Qv (fun u => tw_lkq st u a T f) (tw_YT D cI cZ x ad (va_A (tw_y cI cZ x ad st) sz)) (va_A (tw_y cI cZ x ad st) sz)) 0 0 (va_A (tw_y cI cZ x ad st) sz) := by
  refine Met.ofW (cc := cX1_look) (maxL := 5) (ret := none) (by decide) rfl ?_
  intro p e s m args below meth cd s₁ B hml hv
  obtain ⟨rfl, hsz, hU⟩ := hv
  subst hsz
  have S : CallFix p m cd cX1_look 5 s ([.ref x, .int (nI a)] : List Value).toArray tw_wall RX1 := ⟨B.exec, B.bytes, hml, findClass_of_methodNamed B.named, fun w h => atoms_spec (ws := wsX1_look) B.pre w (List.mem_cons_of_mem _ h)⟩
  have hr := B.returns
  have hlk := B.notSynchronized
  have z : va_S (fun q => s.heap.size ≤ q) s.heap s.heap [] := va_S.rf
  have w := tw_Y0 hU
  have hA : ∀ q : Nat, s.heap.size ≤ q → va_A (tw_y cI cZ x ad st) s.heap.size q := fun q h => Or.inr h
  generalize va_A (tw_y cI cZ x ad st) s.heap.size = A at w hA ⊢
  have hl := lv_entry ([.ref x, .int (nI a)]) (n := 5) (Nat.le_of_ble_eq_true rfl)
  rw [lg_entry_eq]
  generalize (lg_sl ([.ref x, .int (nI a)]) ++ List.replicate (5 - (lg_sl ([.ref x, .int (nI a)])).length) Slot.unset).toArray = ls at hl ⊢
  have hl : lv_has ls 5 [(0, .ref x), (1, .int (nI a))] := hl
  obtain ⟨⟨L1, L2⟩, hli, htr, hinj, hn0, hr5, hr6, hr7, hr8, hr9, hr10, hr11⟩ := hp0
  have walk : ∀ (sg : Nat → Nat → Nat), tw_gn st sg a 4 0 → ∀ (n i dn q : Nat) (sm : Nat → Nat → Nat) (H : Heap) (locs : List Loc) (ls : Array Slot), tw_mus (st 13 1) i dn q < n → tw_hd (st 13 1) T (tw_n st) i dn q → tw_vis T f sg sm q → TWY D cI cZ x ad sm A s.heap H locs s → lv_has ls 5 [(3, .int (nI dn)), (2, .int (nI (T i))), (0, .ref x), (1, .int (nI a))] → W p l e (headSpec wsX1_look ({ frames := 1, cells := 0, slots := 0, locals := 30 })).room s m ([.ref x, .int (nI a)] : List Value).toArray below meth cd H locs 0 0 (MQ below (va_Qv (fun u => tw_lkq st u a T f) (tw_YT D cI cZ x ad A) A) ([.ref x, .int (nI a)] : List Value).toArray s 0 0 A) (F0 m 115 ls []) := by
    intro sg hg n
    induction n with
    | zero => intros; omega
    | succ n ih =>
      intro i dn q sm H locs ls hmu hd hv w hl
      have o : ∀ k y, k ≠ 11 → k ≠ 12 → (k ≠ 13 ∨ (y ≠ 2 ∧ y ≠ 3)) → sm k y = st k y := fun k y a1 b1 c1 => (hv.2.2.2 k y a1 (by omega)).trans (hg.2.2.2 k y b1 c1)
      have hTi : T i < 1601 := by have := hli.2.2.1 i hd.1; omega
      have inner : ∀ (n2 P q1 to : Nat) (H : Heap) (locs : List Loc) (ls : Array Slot), st 13 1 - q1 < n2 → tw_sw (st 13 1) T (tw_n st) (st 6) P q1 to → ((dn = 1 ∧ i = P) ∨ (dn = 0 ∧ st 6 (T i) = T P ∧ P < i)) → q ≤ q1 → (∀ k, q ≤ k → k < q1 → ¬ st 2 (T k) < st 10 (4 * a + st 1 (T k))) → TWY D cI cZ x ad sm A s.heap H locs s → lv_has ls 5 [(4, .int (nI to)), (3, .int (nI dn)), (2, .int (nI (T i))), (0, .ref x), (1, .int (nI a))] → W p l e (headSpec wsX1_look ({ frames := 1, cells := 0, slots := 0, locals := 30 })).room s m ([.ref x, .int (nI a)] : List Value).toArray below meth cd H locs 0 0 (MQ below (va_Qv (fun u => tw_lkq st u a T f) (tw_YT D cI cZ x ad A) A) ([.ref x, .int (nI a)] : List Value).toArray s 0 0 A) (F0 m 136 ls []) := by
        intro n2
        induction n2 with
        | zero => intros; omega
        | succ n2 ih2 =>
          intro P q1 to H locs ls hm2 hsw hlk3 hq1 hno w hl
          have hto : to < 1601 := by
            rcases hsw.2.2.2 with ⟨g, g2, -⟩ | ⟨g, -⟩
            · have := hli.2.2.1 q1 g
              omega
            · omega
          have hq1L : q1 ≤ st 13 1 := hsw.2.1
          have hPq : P < q1 := hsw.1
          have hv1 : tw_vis T f sg sm q1 := tw_vis_skip hv hq1 (fun k h1 h2 => by
            cases hc : f (k - 1) with
            | false => rfl
            | true =>
              have := hv.1
              have h9 := (hr9 (k - 1) (by omega)).mp hc
              rw [show k - 1 + 1 = k by omega] at h9
              exact absurd h9.1 (hno k h1 h2))
          refine lv_iload S.1 S.2.1 dX1_look_136 (lv_at hl 0 rfl) ?_
          refine lv_if_eq (tgt := 163) S.1 S.2.1 dX1_look_138 (by decide) (fun h138 => ?_) (fun h138 => ?_)
          · have ht0 : to = 0 := (tw_eq (by omega) (by omega)).mp h138
            obtain ⟨s1, s2, s3, s4⟩ := hsw
            have s5 : q1 < st 13 1 → tw_n st (T q1) < tw_n st (T P) := by
              rcases s4 with ⟨g, g2, -⟩ | ⟨-, g⟩
              · have := tw_pos hli (i := q1) (by omega) g
                omega
              · exact g
            refine lv_iload S.1 S.2.1 dX1_look_163 (lv_at hl 0 rfl) ?_
            refine lv_if_ne (tgt := 194) S.1 S.2.1 dX1_look_165 (by decide) (fun h165 => absurd h138 h165) (fun h165 => ?_)
            refine lv_iload_n S.1 S.2.1 dX1_look_168 rfl (lv_at hl 1 rfl) ?_
            refine lv_if_eq (tgt := 182) S.1 S.2.1 dX1_look_169 (by decide) (fun h169 => ?_) (fun h169 => ?_)
            · have hdn2 : dn < 2 := by have := hd.2; omega
              have hdn : dn = 0 := (tw_eq (by omega) (by omega)).mp h169
              have hlk4 : st 6 (T i) = T P ∧ P < i := hlk3.elim (fun g => absurd g.1 (by omega)) (fun g => g.2)
              have hPi := hlk4.2
              refine lv_aload_n S.1 S.2.1 dX1_look_182 rfl (lv_at hl 3 rfl) ?_
              refine yyg_up S w dX1_look_183 ?_
              refine lv_iload_n S.1 S.2.1 dX1_look_186 rfl (lv_at hl 2 rfl) ?_
              refine yyl_6 S w (by have := hli.2.2.1 i hd.1; omega) dX1_look_187 ?_
              refine tw_t (show _ = nI (T P) from by rw [o 6 _ (by omega) (by omega) (by omega), hlk4.1]) ?_
              refine lv_istore_n S.1 S.2.1 dX1_look_188 rfl hl (by decide) rfl (fun ls hl => ?_)
              refine lv_iload_n S.1 S.2.1 dX1_look_189 rfl (lv_at hl 0 rfl) ?_
              refine lv_if_ne (tgt := 115) S.1 S.2.1 dX1_look_190 (by decide) (fun h190 => ?_) (fun h190 => ?_)
              · have hP1 : 1 ≤ P := by
                  rcases Nat.eq_zero_or_pos P with g | g
                  · exact absurd (by rw [g, hli.2.1]; decide) h190
                  · exact g
                rw [hdn] at hl
                exact ih P 0 q1 sm H locs ls (Nat.lt_of_lt_of_le (by unfold tw_mus; rw [hdn]; exact tw_mu hq1 hPi) (Nat.le_of_lt_succ hmu)) ⟨by omega, Or.inr ⟨rfl, hP1, s1, s2, s3, s5⟩⟩ hv1 w (lv_sub hl [2, 0, 3, 4] rfl)
              · have hTP : T P = 0 := (tw_eq (by have := hli.2.2.1 P (by omega); omega) (by omega)).mp h190
                have hP0 : P = 0 := hli.2.2.2.1 P 0 (by omega) (by omega) (by rw [hTP, hli.2.1])
                have hqL : q1 = st 13 1 := by
                  rcases Nat.lt_or_ge q1 (st 13 1) with g | g
                  · have := s5 g
                    rw [hP0, hli.2.1, hn0] at this
                    omega
                  · omega
                rw [hqL] at hv1
                exact tw_vretY S hr hlk w ⟨(hv1.2.2.2 13 2 (by omega) (by omega)).trans hg.2.1, hv1.2.1, hv1.2.2.1, o⟩ dX1_look_193
            · have hdn2 : dn < 2 := by have := hd.2; omega
              have hdn : dn = 1 := by
                have : dn ≠ 0 := fun g => h169 (by rw [g]; decide)
                omega
              have hiP : P = i := hlk3.elim (fun g => g.2.symm) (fun g => absurd g.1 (by omega))
              subst hiP
              refine lv_iload_n S.1 S.2.1 dX1_look_172 rfl (lv_at hl 2 rfl) ?_
              refine lv_if_ne (tgt := 177) S.1 S.2.1 dX1_look_173 (by decide) (fun h173 => ?_) (fun h173 => ?_)
              · have hP1 : 1 ≤ P := by
                  rcases Nat.eq_zero_or_pos P with g | g
                  · exact absurd (by rw [g, hli.2.1]; decide) h173
                  · exact g
                refine lv_iconst (v := nI 0) S.1 S.2.1 dX1_look_177 (by decide) ?_
                refine lv_istore_n S.1 S.2.1 dX1_look_178 rfl hl (by decide) rfl (fun ls hl => ?_)
                refine lv_goto (tgt := 115) S.1 S.2.1 dX1_look_179 (by decide) ?_
                exact ih P 0 q1 sm H locs ls (Nat.lt_of_lt_of_le (by unfold tw_mus; rw [hdn]; exact tw_mu hq1 (by simp; omega)) (Nat.le_of_lt_succ hmu)) ⟨by omega, Or.inr ⟨rfl, hP1, s1, s2, s3, s5⟩⟩ hv1 w (lv_sub hl [0, 2, 3, 4] rfl)
              · have hTP : T P = 0 := (tw_eq (by have := hli.2.2.1 P (by omega); omega) (by omega)).mp h173
                have hP0 : P = 0 := hli.2.2.2.1 P 0 (by omega) (by omega) (by rw [hTP, hli.2.1])
                have hqL : q1 = st 13 1 := by
                  rcases Nat.lt_or_ge q1 (st 13 1) with g | g
                  · have := s5 g
                    rw [hP0, hli.2.1, hn0] at this
                    omega
                  · omega
                rw [hqL] at hv1
                exact tw_vretY S hr hlk w ⟨(hv1.2.2.2 13 2 (by omega) (by omega)).trans hg.2.1, hv1.2.1, hv1.2.2.1, o⟩ dX1_look_176
          · have ht0 : to ≠ 0 := fun g => h138 (by rw [g]; decide)
            obtain ⟨e1, e2, e3, e4, q2, e5, e6, e7, e8⟩ := tw_swn hli htr hsw ht0
            have hp1 : 1 ≤ to := by omega
            have hr51 := hr5 to hp1 (by rw [e1]; exact hli.2.2.1 q1 e2)
            refine lv_aload_n S.1 S.2.1 dX1_look_141 rfl (lv_at hl 3 rfl) ?_
            refine lv_iload_n S.1 S.2.1 dX1_look_142 rfl (lv_at hl 4 rfl) ?_
            refine lv_iload S.1 S.2.1 dX1_look_143 (lv_at hl 0 rfl) ?_
            refine tw_cyi (n := 2) S w hA (kX1_isIn l D cI cZ x ad sm _ (a := a) (k := to) ha hto (by rw [o 1 to (by omega) (by omega) (by omega)]; exact hr51.1) (by rw [o 2 to (by omega) (by omega) (by omega)]; exact hr51.2) (by rw [o 1 to (by omega) (by omega) (by omega), o 10 _ (by omega) (by omega) (by omega)]; have := hr6 _ hr51.1; omega)) (tw_gV wl_X1_63 wn_X1_isIn ws_X1_isIn wi_X1 wy_X1_isIn) rfl rfl (by decide +kernel) ⟨Nat.le_of_ble_eq_true rfl, Nat.le_of_ble_eq_true rfl⟩ rfl hl.1 rfl (Nat.le_of_ble_eq_true rfl) dX1_look_145 ⟨Nat.le_of_ble_eq_true rfl, Nat.le_of_ble_eq_true rfl⟩ (fun r u H locs hp w => ?_)
            obtain ⟨hp, hu⟩ := hp
            rw [hu] at w
            rw [o 1 to (by omega) (by omega) (by omega), o 2 to (by omega) (by omega) (by omega), o 10 _ (by omega) (by omega) (by omega)] at hp
            refine lv_if_ne (tgt := 163) S.1 S.2.1 dX1_look_148 (by decide) (fun h148 => ?_) (fun h148 => ?_)
            · have hIn : st 2 to < st 10 (4 * a + st 1 to) := hp.elim (fun g => g.2) (fun g => absurd g.1 h148)
              refine lv_iload S.1 S.2.1 dX1_look_163 (lv_at hl 0 rfl) ?_
              refine lv_if_ne (tgt := 194) S.1 S.2.1 dX1_look_165 (by decide) (fun h165 => ?_) (fun h165 => absurd h165 h138)
              have hfq0 : f (q1 - 1) = true ↔ st 2 to < st 10 (4 * a + st 1 to) ∧ ¬ ∃ m k, m < 4 ∧ k < st 10 (4 * a + m) ∧ st 7 (400 * m + k) = 2 * to + 1 := by
                have := hr9 (q1 - 1) (by omega)
                rw [show q1 - 1 + 1 = q1 by omega, ← e1] at this
                exact this
              have hgo := hg.1 to (by rw [e1]; exact hli.2.2.1 q1 e2)
              have hg12 : sm 12 to = sg 12 to := hv.2.2.2 12 to (by omega) (by omega)
              refine lv_iload S.1 S.2.1 dX1_look_194 (lv_at hl 0 rfl) ?_
              refine lv_istore_n S.1 S.2.1 dX1_look_196 rfl hl (by decide) rfl (fun ls hl => ?_)
              refine lv_iconst (v := nI 1) S.1 S.2.1 dX1_look_197 (by decide) ?_
              refine lv_istore_n S.1 S.2.1 dX1_look_198 rfl hl (by decide) rfl (fun ls hl => ?_)
              refine lv_aload_n S.1 S.2.1 dX1_look_199 rfl (lv_at hl 3 rfl) ?_
              refine yyg_gone S w dX1_look_200 ?_
              refine lv_iload_n S.1 S.2.1 dX1_look_203 rfl (lv_at hl 1 rfl) ?_
              refine yyl_12 S w hto dX1_look_204 ?_
              refine lv_if_ne (tgt := 228) S.1 S.2.1 dX1_look_205 (by decide) (fun h205 => ?_) (fun h205 => ?_)
              · have hfq : f (q1 - 1) = false := by
                  cases hc : f (q1 - 1) with
                  | false => rfl
                  | true =>
                    have := (hfq0.mp hc).2
                    have g0 : sg 12 to ≠ 0 := fun g => h205 (by rw [hg12, g]; decide)
                    have g1 := hgo.2.mp (by omega)
                    obtain ⟨m9, k9, -, r1, r2, r3⟩ := g1
                    exact absurd ⟨m9, k9, r1, r2, r3⟩ this
                refine lv_goto (tgt := 115) S.1 S.2.1 dX1_look_228 (by decide) ?_
                rw [e1] at hl
                exact ih q1 1 (q1 + 1) sm H locs ls (Nat.lt_of_lt_of_le (by unfold tw_mus; have := tw_mu1 (L := st 13 1) hq1 e2; simp; omega) (Nat.le_of_lt_succ hmu)) ⟨e2, Or.inl ⟨rfl, rfl⟩⟩ (tw_vis_no hv1 hfq) w (lv_sub hl [0, 1, 3, 4] rfl)
              · have hfq : f (q1 - 1) = true := hfq0.mpr ⟨hIn, fun g => by
                  obtain ⟨m9, k9, r1, r2, r3⟩ := g
                  have g1 := hgo.2.mpr ⟨m9, k9, by omega, r1, r2, r3⟩
                  rw [hg12, g1] at h205
                  exact absurd h205 (by decide)⟩
                have hlong : sm 13 3 < 1601 := by
                  rw [hv1.2.1]
                  have := tw_cn_le f (q1 - 1)
                  omega
                refine lv_aload_n S.1 S.2.1 dX1_look_208 rfl (lv_at hl 3 rfl) ?_
                refine yyg_order S w dX1_look_209 ?_
                refine lv_aload_n S.1 S.2.1 dX1_look_212 rfl (lv_at hl 3 rfl) ?_
                refine yyg_long_ S w dX1_look_213 ?_
                refine lv_iload_n S.1 S.2.1 dX1_look_216 rfl (lv_at hl 1 rfl) ?_
                refine yys_11 S w hlong  dX1_look_217 (fun H locs w => ?_)
                refine lv_aload_n S.1 S.2.1 dX1_look_218 rfl (lv_at hl 3 rfl) ?_
                refine lv_dup S.1 S.2.1 dX1_look_219 rfl ?_
                refine yyg_long_ S w dX1_look_220 ?_
                refine tw_t (show _ = nI (sm 13 3) from rfl) ?_
                refine lv_iconst (v := nI 1) S.1 S.2.1 dX1_look_223 (by decide) ?_
                refine lv_iadd S.1 S.2.1 dX1_look_224 ?_
                refine tw_t (nI_add _ _) ?_
                refine yyp_long_ S w dX1_look_225 (fun H locs w => ?_)
                refine lv_goto (tgt := 115) S.1 S.2.1 dX1_look_228 (by decide) ?_
                rw [e1] at w
                rw [e1] at hl
                exact ih q1 1 (q1 + 1) _ H locs ls (Nat.lt_of_lt_of_le (by unfold tw_mus; have := tw_mu1 (L := st 13 1) hq1 e2; simp; omega) (Nat.le_of_lt_succ hmu)) ⟨e2, Or.inl ⟨rfl, rfl⟩⟩ (tw_vis_put hv1 hfq) w (lv_sub hl [0, 1, 3, 4] rfl)
            · have hIn : ¬ st 2 to < st 10 (4 * a + st 1 to) := hp.elim (fun g => absurd (g.1.symm.trans h148) (by decide)) (fun g => g.2)
              have hlack := tw_lack htr (In := fun k => st 2 k < st 10 (4 * a + st 1 k)) (fun i h1 h2 h3 h4 => hr8 _ (tw_pos hli h1 h2) (hli.2.2.1 i h2) h3 h4) hli.2.1 (fun i h1 h2 => by have := tw_pos hli h1 h2; omega) (i := q1) (q := q2) (by omega) e6.2.1 e7 (by rw [← e1]; exact hIn)
              refine lv_aload_n S.1 S.2.1 dX1_look_151 rfl (lv_at hl 3 rfl) ?_
              refine yyg_sibling S w dX1_look_152 ?_
              refine lv_iload S.1 S.2.1 dX1_look_155 (lv_at hl 0 rfl) ?_
              refine yyl_5 S w hto dX1_look_157 ?_
              refine tw_t (show _ = nI (st 5 to) from by rw [o 5 to (by omega) (by omega) (by omega)]) ?_
              refine lv_istore S.1 S.2.1 dX1_look_158 hl (by decide) rfl (fun ls hl => ?_)
              refine lv_goto (tgt := 136) S.1 S.2.1 dX1_look_160 (by decide) ?_
              exact ih2 P q2 (st 5 to) H locs ls (by omega) e6 hlk3 (by omega) (fun k h1 h2 => by rcases Nat.lt_or_ge k q1 with g | g; exact hno k h1 g; exact hlack k g h2) w (lv_sub hl [0, 1, 2, 3, 4] rfl)
      refine lv_iload_n S.1 S.2.1 dX1_look_115 rfl (lv_at hl 0 rfl) ?_
      refine lv_if_eq (tgt := 128) S.1 S.2.1 dX1_look_116 (by decide) (fun h116 => ?_) (fun h116 => ?_)
      · have hdn2 : dn < 2 := by have := hd.2; omega
        have hdn : dn = 0 := (tw_eq (by omega) (by omega)).mp h116
        obtain ⟨-, d1, d2, d3, d4, d5⟩ := hd.2.elim (fun g => absurd g.1 (by omega)) id
        refine lv_aload_n S.1 S.2.1 dX1_look_128 rfl (lv_at hl 2 rfl) ?_
        refine yyg_sibling S w dX1_look_129 ?_
        refine lv_iload_n S.1 S.2.1 dX1_look_132 rfl (lv_at hl 1 rfl) ?_
        refine yyl_5 S w hTi dX1_look_133 ?_
        refine tw_t (show _ = nI (st 5 (T i)) from by rw [o 5 _ (by omega) (by omega) (by omega)]) ?_
        refine lv_istore S.1 S.2.1 dX1_look_134 hl (by decide) rfl (fun ls hl => ?_)
        obtain ⟨P, c1, c2, c3, c4⟩ := tw_sws htr hinj d1 hd.1 d2 d3 d4 d5
        exact inner (st 13 1 + 1) P q (st 5 (T i)) H locs ls (by omega) c4 (Or.inr ⟨hdn, c2, c1⟩) (Nat.le_refl q) (fun k h1 h2 => by omega) w (lv_sub hl [0, 1, 2, 3, 4] rfl)
      · have hdn0 : dn ≠ 0 := fun g => h116 (by rw [g]; decide)
        obtain ⟨hdn, hqi⟩ := hd.2.elim id (fun g => absurd g.1 hdn0)
        refine lv_aload_n S.1 S.2.1 dX1_look_119 rfl (lv_at hl 2 rfl) ?_
        refine yyg_first S w dX1_look_120 ?_
        refine lv_iload_n S.1 S.2.1 dX1_look_123 rfl (lv_at hl 1 rfl) ?_
        refine yyl_4 S w hTi dX1_look_124 ?_
        refine tw_t (show _ = nI (st 4 (T i)) from by rw [o 4 _ (by omega) (by omega) (by omega)]) ?_
        refine lv_goto (tgt := 134) S.1 S.2.1 dX1_look_125 (by decide) ?_
        refine lv_istore S.1 S.2.1 dX1_look_134 hl (by decide) rfl (fun ls hl => ?_)
        exact inner (st 13 1 + 1) i q (st 4 (T i)) H locs ls (by omega) (by rw [hqi]; exact tw_swf htr hd.1) (Or.inl ⟨hdn, rfl⟩) (Nat.le_refl q) (fun k h1 h2 => by omega) w (lv_sub hl [0, 1, 2, 3, 4] rfl)
  have marks : ∀ (n m9 : Nat) (sm : Nat → Nat → Nat) (H : Heap) (locs : List Loc) (ls : Array Slot), 4 - m9 < n → m9 ≤ 4 → tw_gn st sm a m9 0 → TWY D cI cZ x ad sm A s.heap H locs s → lv_has ls 5 [(2, .int (nI m9)), (0, .ref x), (1, .int (nI a))] → W p l e (headSpec wsX1_look ({ frames := 1, cells := 0, slots := 0, locals := 30 })).room s m ([.ref x, .int (nI a)] : List Value).toArray below meth cd H locs 0 0 (MQ below (va_Qv (fun u => tw_lkq st u a T f) (tw_YT D cI cZ x ad A) A) ([.ref x, .int (nI a)] : List Value).toArray s 0 0 A) (F0 m 44 ls []) := by
    intro n
    induction n with
    | zero => intros; omega
    | succ n ih =>
      intro m9 sm H locs ls hm hm0 hg w hl
      refine lv_iload_n S.1 S.2.1 dX1_look_44 rfl (lv_at hl 0 rfl) ?_
      refine lv_iconst (v := nI 4) S.1 S.2.1 dX1_look_45 (by decide) ?_
      refine lv_icmp_ge (tgt := 111) S.1 S.2.1 dX1_look_46 (by decide) (fun h46 => ?_) (fun h46 => ?_)
      · have hm4 : m9 = 4 := by have := (tw_le (by omega) (by omega)).mp h46; omega
        subst hm4
        refine lv_iconst (v := nI 0) S.1 S.2.1 dX1_look_111 (by decide) ?_
        refine lv_istore_n S.1 S.2.1 dX1_look_112 rfl hl (by decide) rfl (fun ls hl => ?_)
        refine lv_iconst (v := nI 1) S.1 S.2.1 dX1_look_113 (by decide) ?_
        refine lv_istore_n S.1 S.2.1 dX1_look_114 rfl hl (by decide) rfl (fun ls hl => ?_)
        have hT0 : T 0 = 0 := hli.2.1
        exact walk sm hg (tw_mus (st 13 1) 0 1 1 + 1) 0 1 1 sm H locs ls (by omega) ⟨by omega, Or.inl ⟨rfl, rfl⟩⟩ ⟨by omega, hg.2.2.1, fun p hp => by omega, fun _ _ _ _ => rfl⟩ w (by rw [hT0]; exact lv_sub hl [0, 1, 2, 3] rfl)
      · have hm4 : m9 < 4 := Nat.not_le.mp (fun g => h46 ((tw_le (by omega) (by omega)).mpr g))
        have inner : ∀ (n2 k : Nat) (sm : Nat → Nat → Nat) (H : Heap) (locs : List Loc) (ls : Array Slot), st 10 (4 * a + m9) - k < n2 → k ≤ st 10 (4 * a + m9) → tw_gn st sm a m9 k → TWY D cI cZ x ad sm A s.heap H locs s → lv_has ls 5 [(3, .int (nI k)), (2, .int (nI m9)), (0, .ref x), (1, .int (nI a))] → W p l e (headSpec wsX1_look ({ frames := 1, cells := 0, slots := 0, locals := 30 })).room s m ([.ref x, .int (nI a)] : List Value).toArray below meth cd H locs 0 0 (MQ below (va_Qv (fun u => tw_lkq st u a T f) (tw_YT D cI cZ x ad A) A) ([.ref x, .int (nI a)] : List Value).toArray s 0 0 A) (F0 m 51 ls []) := by
          intro n2
          induction n2 with
          | zero => intros; omega
          | succ n2 ih2 =>
            intro k sm H locs ls hm2 hk0 hg w hl
            have h400 := hr6 m9 hm4
            refine lv_iload_n S.1 S.2.1 dX1_look_51 rfl (lv_at hl 0 rfl) ?_
            refine lv_aload_n S.1 S.2.1 dX1_look_52 rfl (lv_at hl 2 rfl) ?_
            refine yyg_has S w dX1_look_53 ?_
            refine lv_iconst (v := nI 4) S.1 S.2.1 dX1_look_56 (by decide) ?_
            refine lv_iload_n S.1 S.2.1 dX1_look_57 rfl (lv_at hl 3 rfl) ?_
            refine lv_imul S.1 S.2.1 dX1_look_58 ?_
            refine tw_t (pk_mul _ _) ?_
            refine lv_iload_n S.1 S.2.1 dX1_look_59 rfl (lv_at hl 1 rfl) ?_
            refine lv_iadd S.1 S.2.1 dX1_look_60 ?_
            refine tw_t (nI_add _ _) ?_
            refine yyl_10 S w (by omega) dX1_look_61 ?_
            refine tw_t (show _ = nI (st 10 (4 * a + m9)) from by rw [hg.2.2.2 10 _ (by omega) (by omega)]) ?_
            refine lv_icmp_ge (tgt := 105) S.1 S.2.1 dX1_look_62 (by decide) (fun h62 => ?_) (fun h62 => ?_)
            · have hkk : st 10 (4 * a + m9) ≤ k := (tw_le (by omega) (by omega)).mp h62
              refine lv_iinc S.1 S.2.1 dX1_look_105 hl (k := 1) rfl (tw_inc _) (by decide) rfl (fun ls hl => ?_)
              refine lv_goto (tgt := 44) S.1 S.2.1 dX1_look_108 (by decide) ?_
              exact ih (m9 + 1) sm H locs ls (by omega) (by omega) (tw_gn_next hg hkk) w (lv_sub hl [0, 2, 3] rfl)
            · have hkk : k < st 10 (4 * a + m9) := Nat.not_le.mp (fun g => h62 ((tw_le (by omega) (by omega)).mpr g))
              obtain ⟨y, hy1, hy2⟩ := hr7 m9 k hm4 hkk
              refine lv_aload_n S.1 S.2.1 dX1_look_65 rfl (lv_at hl 2 rfl) ?_
              refine yyg_what S w dX1_look_66 ?_
              refine lv_sipush (v := nI 400) S.1 S.2.1 dX1_look_69 (by decide) ?_
              refine lv_iload_n S.1 S.2.1 dX1_look_72 rfl (lv_at hl 1 rfl) ?_
              refine lv_imul S.1 S.2.1 dX1_look_73 ?_
              refine tw_t (pk_mul _ _) ?_
              refine lv_iload_n S.1 S.2.1 dX1_look_74 rfl (lv_at hl 0 rfl) ?_
              refine lv_iadd S.1 S.2.1 dX1_look_75 ?_
              refine tw_t (nI_add _ _) ?_
              refine yyl_7 S w (by omega) dX1_look_76 ?_
              refine tw_t (show _ = tw_wh (st 7 (400 * m9 + k)) from by rw [hg.2.2.2 7 _ (by omega) (by omega)]) ?_
              refine lv_if_ge (tgt := 99) S.1 S.2.1 dX1_look_77 (by decide) (fun h77 => ?_) (fun h77 => ?_)
              · have hev : ∀ z, st 7 (400 * m9 + k) ≠ 2 * z + 1 := by
                  intro z hz
                  have hzy : z = y ∧ 1 ≤ y := by omega
                  rw [hz, tw_wh_o, hzy.1] at h77
                  exact tw_neg (by omega) (by omega) h77
                refine lv_iinc S.1 S.2.1 dX1_look_99 hl (k := 0) rfl (tw_inc _) (by decide) rfl (fun ls hl => ?_)
                refine lv_goto (tgt := 51) S.1 S.2.1 dX1_look_102 (by decide) ?_
                exact ih2 (k + 1) sm H locs ls (by omega) (by omega) (tw_gn_no hg hev) w (lv_sub hl [0, 1, 2, 3] rfl)
              · have hy2 : st 7 (400 * m9 + k) = 2 * y + 1 := by
                  rcases hy2 with g | g
                  · rw [g, tw_wh_e] at h77
                    exact absurd (nI_pos' (by omega)) h77
                  · exact g.1
                refine lv_aload_n S.1 S.2.1 dX1_look_80 rfl (lv_at hl 2 rfl) ?_
                refine yyg_gone S w dX1_look_81 ?_
                refine lv_aload_n S.1 S.2.1 dX1_look_84 rfl (lv_at hl 2 rfl) ?_
                refine yyg_what S w dX1_look_85 ?_
                refine lv_sipush (v := nI 400) S.1 S.2.1 dX1_look_88 (by decide) ?_
                refine lv_iload_n S.1 S.2.1 dX1_look_91 rfl (lv_at hl 1 rfl) ?_
                refine lv_imul S.1 S.2.1 dX1_look_92 ?_
                refine tw_t (pk_mul _ _) ?_
                refine lv_iload_n S.1 S.2.1 dX1_look_93 rfl (lv_at hl 0 rfl) ?_
                refine lv_iadd S.1 S.2.1 dX1_look_94 ?_
                refine tw_t (nI_add _ _) ?_
                refine yyl_7 S w (by omega) dX1_look_95 ?_
                refine tw_t (show _ = -nI y from by rw [hg.2.2.2 7 _ (by omega) (by omega), hy2, tw_wh_o]) ?_
                refine lv_ineg S.1 S.2.1 dX1_look_96 ?_
                refine tw_t (tw_nn y) ?_
                refine lv_iconst (v := nI 1) S.1 S.2.1 dX1_look_97 (by decide) ?_
                refine yys_12 S w (by omega) (by omega) dX1_look_98 (fun H locs w => ?_)
                refine lv_iinc S.1 S.2.1 dX1_look_99 hl (k := 0) rfl (tw_inc _) (by decide) rfl (fun ls hl => ?_)
                refine lv_goto (tgt := 51) S.1 S.2.1 dX1_look_102 (by decide) ?_
                exact ih2 (k + 1) _ H locs ls (by omega) (by omega) (tw_gn_yes hg hm4 hkk hy2) w (lv_sub hl [0, 1, 2, 3] rfl)
        refine lv_iconst (v := nI 0) S.1 S.2.1 dX1_look_49 (by decide) ?_
        refine lv_istore_n S.1 S.2.1 dX1_look_50 rfl hl (by decide) rfl (fun ls hl => ?_)
        exact inner 401 0 sm H locs ls (by have := hr6 m9 hm4; omega) (by omega) hg w (lv_sub hl [0, 1, 2, 3] rfl)
  have loop : ∀ (n : Nat) (k : Nat) (sm : Nat → Nat → Nat) (H : Heap) (locs : List Loc) (ls : Array Slot), st 13 1 - k < n → k ≤ st 13 1 → (∀ y, y < k → sm 12 y = 0) → (∀ k y, k ≠ 12 → sm k y = (tw_up (tw_up st 13 2 (a + 1)) 13 3 0) k y) → TWY D cI cZ x ad sm A s.heap H locs s → lv_has ls 5 [(2, .int (nI k)), (0, .ref x), (1, .int (nI a))] → W p l e (headSpec wsX1_look ({ frames := 1, cells := 0, slots := 0, locals := 30 })).room s m ([.ref x, .int (nI a)] : List Value).toArray below meth cd H locs 0 0 (MQ below (va_Qv (fun u => tw_lkq st u a T f) (tw_YT D cI cZ x ad A) A) ([.ref x, .int (nI a)] : List Value).toArray s 0 0 A) (F0 m 21 ls []) := by
    intro n
    induction n with
    | zero => intros; omega
    | succ n ih =>
      intro k sm H locs ls hm hk hz ho w hl
      refine lv_iload_n S.1 S.2.1 dX1_look_21 rfl (lv_at hl 0 rfl) ?_
      refine lv_aload_n S.1 S.2.1 dX1_look_22 rfl (lv_at hl 1 rfl) ?_
      refine yyg_letters S w dX1_look_23 ?_
      refine tw_t (show _ = nI (st 13 1) from by rw [ho 13 1 (by omega)]; rfl) ?_
      refine lv_icmp_ge (tgt := 42) S.1 S.2.1 dX1_look_26 (by decide) (fun h26 => ?_) (fun h26 => ?_)
      · have hkL : k = st 13 1 := by have := (tw_le (by omega) (by omega)).mp h26; omega
        refine lv_iconst (v := nI 0) S.1 S.2.1 dX1_look_42 (by decide) ?_
        refine lv_istore_n S.1 S.2.1 dX1_look_43 rfl hl (by decide) rfl (fun ls hl => ?_)
        exact marks 5 0 sm H locs ls (by omega) (by omega) ⟨fun y hy => ⟨by rw [hz y (by omega)]; omega, ⟨fun g => (by rw [hz y (by omega)] at g; omega), fun ⟨m', k', g, _⟩ => (by omega)⟩⟩, by rw [ho 13 2 (by omega)]; rfl, by rw [ho 13 3 (by omega)]; rfl, fun k' y h1 h2 => by rw [ho k' y h1]; exact tw_s1 h2⟩ w (lv_sub hl [0, 1, 2] rfl)
      · have hkL : k < st 13 1 := Nat.not_le.mp (fun g => h26 ((tw_le (by omega) (by omega)).mpr g))
        refine lv_aload_n S.1 S.2.1 dX1_look_29 rfl (lv_at hl 1 rfl) ?_
        refine yyg_gone S w dX1_look_30 ?_
        refine lv_iload_n S.1 S.2.1 dX1_look_33 rfl (lv_at hl 0 rfl) ?_
        refine lv_iconst (v := nI 0) S.1 S.2.1 dX1_look_34 (by decide) ?_
        refine yys_12 S w (by omega) (by omega) dX1_look_35 (fun H locs w => ?_)
        refine lv_iinc S.1 S.2.1 dX1_look_36 hl (k := 0) rfl (tw_inc _) (by decide) rfl (fun ls hl => ?_)
        refine lv_goto (tgt := 21) S.1 S.2.1 dX1_look_39 (by decide) ?_
        exact ih (k + 1) _ H locs ls (by omega) (by omega) (fun y hy => by by_cases g : y = k; rw [g, tw_up_e]; rw [tw_up_i g]; exact hz y (by omega)) (fun k' y h => by rw [tw_up_k h]; exact ho k' y h) w (lv_sub hl [0, 1, 2] rfl)
  refine lv_aload_n S.1 S.2.1 dX1_look_0 rfl (lv_at hl 0 rfl) ?_
  refine yyg_orderOf S w dX1_look_1 ?_
  refine lv_iload_n S.1 S.2.1 dX1_look_4 rfl (lv_at hl 1 rfl) ?_
  refine lv_icmp_ne (tgt := 9) S.1 S.2.1 dX1_look_5 (by decide) (fun h5 => ?_) (fun h5 => ?_)
  · refine lv_aload_n S.1 S.2.1 dX1_look_9 rfl (lv_at hl 0 rfl) ?_
    refine lv_iload_n S.1 S.2.1 dX1_look_10 rfl (lv_at hl 1 rfl) ?_
    refine tw_t (nI_pred a).symm ?_
    refine yyp_orderOf S w dX1_look_11 (fun H locs w => ?_)
    refine lv_aload_n S.1 S.2.1 dX1_look_14 rfl (lv_at hl 0 rfl) ?_
    refine lv_iconst (v := nI 0) S.1 S.2.1 dX1_look_15 (by decide) ?_
    refine yyp_long_ S w dX1_look_16 (fun H locs w => ?_)
    refine lv_iconst (v := nI 0) S.1 S.2.1 dX1_look_19 (by decide) ?_
    refine lv_istore_n S.1 S.2.1 dX1_look_20 rfl hl (by decide) rfl (fun ls hl => ?_)
    exact loop (st 13 1 + 1) 0 _ H locs ls (by omega) (by omega) (fun y hy => by omega) (fun _ _ _ => rfl) w (lv_sub hl [0, 1, 2] rfl)
  · have hc2 := tw_m1e h5 (by omega) (by omega)
    exact tw_vretY S hr hlk w ⟨hc2, (hr10 hc2).1, (hr10 hc2).2, fun _ _ _ _ _ => rfl⟩ dX1_look_8
end
section
/-! What the reference's calls answer, in words of its state. -/
/-- st with the text of copy a looked up, and c thrown -/
def tw_lkr (st u : Nat → Nat → Nat) (a : Nat) (T : Nat → Nat) (f : Nat → Bool) (c : Nat) : Prop :=
  u 13 0 = c ∧ u 13 2 = a + 1 ∧ u 13 3 = tw_cn f (st 13 1 - 1) ∧ (∀ p, p < st 13 1 - 1 → f p = true → u 11 (tw_cn f p) = T (p + 1)) ∧ ∀ k y, k ≠ 11 → k ≠ 12 → (k ≠ 13 ∨ y = 1) → u k y = st k y
theorem tw_lkr_of {st u : Nat → Nat → Nat} {a : Nat} {T : Nat → Nat} {f : Nat → Bool} {c c' : Nat} (h : tw_lkq (tw_up st 13 0 c') u a T f) : tw_lkr st (tw_up u 13 0 c) a T f c := by
  obtain ⟨h1, h2, h3, h4⟩ := h
  have e1 : tw_up st 13 0 c' 13 1 = st 13 1 := tw_up_i (by omega)
  rw [e1] at h2 h3
  refine ⟨tw_up_e, by rw [tw_up_i (by omega)]; exact h1, by rw [tw_up_i (by omega)]; exact h2, fun p hp fp => by rw [tw_up_k (by omega)]; exact h3 p hp fp, fun k y a1 b1 c1 => ?_⟩
  have e2 : tw_up u 13 0 c k y = u k y := by
    by_cases g : k = 13
    · exact tw_up_i (by omega)
    · exact tw_up_k g
  have e3 : tw_up st 13 0 c' k y = st k y := by
    by_cases g : k = 13
    · exact tw_up_i (by omega)
    · exact tw_up_k g
  rw [e2, h4 k y a1 b1 (by omega), e3]
theorem tw_lkr_q {st u : Nat → Nat → Nat} {a : Nat} {T : Nat → Nat} {f : Nat → Bool} (h : tw_lkq (tw_up st 13 0 0) u a T f) : tw_lkr st u a T f 0 := by
  have e := h.2.2.2 13 0 (by omega) (by omega) (by omega)
  rw [tw_up_e] at e
  have e2 : tw_up u 13 0 0 = u := by
    funext k y
    by_cases g : k = 13
    · by_cases g2 : y = 0
      · rw [g, g2, tw_up_e, e]
      · exact tw_up_i g2
    · exact tw_up_k g
  have := tw_lkr_of (c := 0) h
  rw [e2] at this
  exact this
theorem tw_lkr_c {st u : Nat → Nat → Nat} {a : Nat} {T : Nat → Nat} {f : Nat → Bool} {c c' : Nat} (h : tw_lkr st u a T f c) : tw_lkr st (tw_up u 13 0 c') a T f c' := by
  obtain ⟨h0, h1, h2, h3, h4⟩ := h
  refine ⟨tw_up_e, by rw [tw_up_i (by omega)]; exact h1, by rw [tw_up_i (by omega)]; exact h2, fun p hp fp => by rw [tw_up_k (by omega)]; exact h3 p hp fp, fun k y a1 b1 c1 => ?_⟩
  have e2 : tw_up u 13 0 c' k y = u k y := by
    by_cases g : k = 13
    · exact tw_up_i (by omega)
    · exact tw_up_k g
  rw [e2]
  exact h4 k y a1 b1 c1
theorem tw_lkp_b {st : Nat → Nat → Nat} {a b : Nat} {T : Nat → Nat} {f : Nat → Bool} (h : tw_lkp st a T f) : tw_lkp (tw_up st 13 0 b) a T f := h
theorem tw_up_up {s : Nat → Nat → Nat} {k i v w : Nat} : tw_up (tw_up s k i v) k i w = tw_up s k i w := by
  funext k' i'
  by_cases g : k' = k
  · by_cases g2 : i' = i
    · rw [g, g2, tw_up_e, tw_up_e]
    · rw [tw_up_i g2, tw_up_i g2, tw_up_i g2]
  · rw [tw_up_k g, tw_up_k g, tw_up_k g]
/-- letter t of the text, and what is said of it -/
def tw_plM (L : Nat) (f : Nat → Bool) (t r : Int32) (g : Nat → Nat) : Prop := (∃ p, p < L - 1 ∧ f p = true ∧ t = nI (tw_cn f p) ∧ r = nI (g p)) ∨ (r = -1 ∧ ∀ p, p < L - 1 → f p = true → t ≠ nI (tw_cn f p))
theorem tw_no {f : Nat → Bool} {m : Nat} {t : Int32} (hm : m < 2147483648) (h : nI (tw_cn f m) ≤ t) : ∀ p, p < m → f p = true → t ≠ nI (tw_cn f p) := by
  intro p hp fp e
  rw [e] at h
  have h1 := tw_cn_lt hp fp
  have h2 := tw_cn_le f m
  have := (tw_le (a := tw_cn f m) (b := tw_cn f p) (by omega) (by omega)).mp h
  omega
theorem tw_neg_no {f : Nat → Bool} {m : Nat} {t : Int32} (hm : m < 2147483648) (h : t < 0) : ∀ p, p < m → f p = true → t ≠ nI (tw_cn f p) := by
  intro p hp fp e
  rw [e] at h
  have h2 := tw_cn_le f p
  exact nI_pos (by omega) h
theorem tw_yes {f : Nat → Bool} {m : Nat} {t : Int32} (hm : m < 2147483648) (h0 : ¬ t < 0) (h : ¬ nI (tw_cn f m) ≤ t) : ∃ p, p < m ∧ f p = true ∧ t = nI (tw_cn f p) := by
  have h2 := tw_cn_le f m
  obtain ⟨j, hj, rfl⟩ := nI_of h0
  have hj2 : j < tw_cn f m := Nat.not_le.mp (fun g => h ((tw_le (by omega) hj).mpr g))
  obtain ⟨p, p1, p2, p3⟩ := tw_cn_at hj2
  exact ⟨p, p1, p2, by rw [p3]⟩
end
section
set_option maxHeartbeats 4000000 in
set_option maxRecDepth 100000 in
/-- length(c) -/
theorem kX1_length (l : Launch) (D : va_G) (cI cZ : ClassId) (x : Nat) (ad : Nat → Nat) (st : Nat → Nat → Nat) (sz : Nat) {v : Int32} {T : Nat → Nat} {F : Nat → Nat → Bool} (hlk : ∀ a, a < 4 → tw_lkp st a T (F a)) : Met l yX1_length wsX1_length ({ frames := 3, cells := 0, slots := 0, locals := 80 }) (va_Pc [.ref x, .int v] (fun U => U.heap.size = sz ∧ tw_YU D cI cZ x ad st U)) (va_Qi (fun r u => (tw_nc v ∧ u = tw_up st 13 0 1) ∨ ∃ a, a < 4 ∧ v = nI a ∧ r = nI (tw_cn (F a) (st 13 1 - 1)) ∧ tw_lkr st u a T (F a) 0) (tw_YT D cI cZ x ad (va_A (tw_y cI cZ x ad st) sz)) (va_A (tw_y cI cZ x ad st) sz)) 0 0 (va_A (tw_y cI cZ x ad st) sz) := by
  refine Met.ofW (cc := cX1_length) (maxL := 2) (ret := (some .int)) (by decide) rfl ?_
  intro p e s m args below meth cd s₁ B hml hv
  obtain ⟨rfl, hsz, hU⟩ := hv
  subst hsz
  have S : CallFix p m cd cX1_length 2 s ([.ref x, .int v] : List Value).toArray tw_wall RX1 := ⟨B.exec, B.bytes, hml, findClass_of_methodNamed B.named, fun w h => atoms_spec (ws := wsX1_length) B.pre w (List.mem_cons_of_mem _ h)⟩
  have hr := B.returns
  have hlk0 := B.notSynchronized
  have z : va_S (fun q => s.heap.size ≤ q) s.heap s.heap [] := va_S.rf
  have w := tw_Y0 hU
  have hA : ∀ q : Nat, s.heap.size ≤ q → va_A (tw_y cI cZ x ad st) s.heap.size q := fun q h => Or.inr h
  generalize va_A (tw_y cI cZ x ad st) s.heap.size = A at w hA ⊢
  have hl := lv_entry ([.ref x, .int v]) (n := 2) (Nat.le_of_ble_eq_true rfl)
  rw [lg_entry_eq]
  generalize (lg_sl ([.ref x, .int v]) ++ List.replicate (2 - (lg_sl ([.ref x, .int v])).length) Slot.unset).toArray = ls at hl ⊢
  have hl : lv_has ls 2 [(0, .ref x), (1, .int v)] := hl
  refine lv_aload_n S.1 S.2.1 dX1_length_0 rfl (lv_at hl 0 rfl) ?_
  refine lv_iload_n S.1 S.2.1 dX1_length_1 rfl (lv_at hl 1 rfl) ?_
  refine tw_cst (n := 1) S w.2.2.2 hA (kX1_isCopy l _ (v := v)) (tw_gS wl_X1_67 wt_X1_isCopy wi_X1 wy_X1_isCopy) rfl rfl (by decide +kernel) ⟨Nat.le_of_ble_eq_true rfl, Nat.le_of_ble_eq_true rfl⟩ rfl hl.1 rfl (Nat.le_of_ble_eq_true rfl) dX1_length_2 ⟨Nat.le_of_ble_eq_true rfl, Nat.le_of_ble_eq_true rfl⟩ (fun r H locs hp hk z9 => ?_)
  have w := w.kept hk z9
  refine lv_if_ne (tgt := 12) S.1 S.2.1 dX1_length_5 (by decide) (fun h5 => ?_) (fun h5 => ?_)
  · obtain ⟨a, ha, rfl⟩ := hp.elim (fun g => g.2) (fun g => absurd g.1 h5)
    refine lv_iconst (v := nI 0) S.1 S.2.1 dX1_length_12 (by decide) ?_
    refine tw_cyi (n := 1) S w hA (kX1_bad l D cI cZ x ad _ _ (b := 0) (by omega)) (tw_gV wl_X1_71 wn_X1_bad ws_X1_bad wi_X1 wy_X1_bad) rfl rfl (by decide +kernel) ⟨Nat.le_of_ble_eq_true rfl, Nat.le_of_ble_eq_true rfl⟩ rfl hl.1 rfl (Nat.le_of_ble_eq_true rfl) dX1_length_13 ⟨Nat.le_of_ble_eq_true rfl, Nat.le_of_ble_eq_true rfl⟩ (fun r u H locs hp w => ?_)
    obtain ⟨hr9, hu⟩ := hp
    subst hr9
    rw [hu] at w
    refine lv_if_eq (tgt := 21) S.1 S.2.1 dX1_length_16 (by decide) (fun h16 => ?_) (fun h16 => absurd (by decide) h16)
    refine lv_aload_n S.1 S.2.1 dX1_length_21 rfl (lv_at hl 0 rfl) ?_
    refine lv_iload_n S.1 S.2.1 dX1_length_22 rfl (lv_at hl 1 rfl) ?_
    refine tw_cyv (n := 1) S w hA (kX1_look l D cI cZ x ad _ _ ha (tw_lkp_b (hlk a ha))) (tw_gV wl_X1_75 wn_X1_look ws_X1_look wi_X1 wy_X1_look) rfl rfl (by decide +kernel) ⟨Nat.le_of_ble_eq_true rfl, Nat.le_of_ble_eq_true rfl⟩ rfl hl.1 rfl (Nat.le_of_ble_eq_true rfl) dX1_length_23 ⟨Nat.le_of_ble_eq_true rfl, Nat.le_of_ble_eq_true rfl⟩ (fun s1 H locs hq w => ?_)
    refine lv_aload_n S.1 S.2.1 dX1_length_26 rfl (lv_at hl 0 rfl) ?_
    refine yyg_long_ S w dX1_length_27 ?_
    refine tw_t (show _ = nI (tw_cn (F a) (st 13 1 - 1)) from by rw [hq.2.1]; rfl) ?_
    exact tw_iretY S hr hlk0 w (Or.inr ⟨a, ha, rfl, rfl, tw_lkr_q hq⟩) dX1_length_30
  · have hbad : tw_nc v := hp.elim (fun g => absurd (g.1.symm.trans h5) (by decide)) (fun g => g.2)
    refine lv_iconst (v := nI 1) S.1 S.2.1 dX1_length_8 (by decide) ?_
    refine lv_goto (tgt := 13) S.1 S.2.1 dX1_length_9 (by decide) ?_
    refine tw_cyi (n := 1) S w hA (kX1_bad l D cI cZ x ad _ _ (b := 1) (by omega)) (tw_gV wl_X1_71 wn_X1_bad ws_X1_bad wi_X1 wy_X1_bad) rfl rfl (by decide +kernel) ⟨Nat.le_of_ble_eq_true rfl, Nat.le_of_ble_eq_true rfl⟩ rfl hl.1 rfl (Nat.le_of_ble_eq_true rfl) dX1_length_13 ⟨Nat.le_of_ble_eq_true rfl, Nat.le_of_ble_eq_true rfl⟩ (fun r u H locs hp w => ?_)
    obtain ⟨hr9, hu⟩ := hp
    subst hr9
    rw [hu] at w
    refine lv_if_eq (tgt := 21) S.1 S.2.1 dX1_length_16 (by decide) (fun h16 => absurd h16 (by decide)) (fun h16 => ?_)
    refine lv_iconst (v := nI 0) S.1 S.2.1 dX1_length_19 (by decide) ?_
    exact tw_iretY S hr hlk0 w (Or.inl ⟨hbad, rfl⟩) dX1_length_20
set_option maxHeartbeats 4000000 in
set_option maxRecDepth 100000 in
/-- letter(c, at) -/
theorem kX1_letter (l : Launch) (D : va_G) (cI cZ : ClassId) (x : Nat) (ad : Nat → Nat) (st : Nat → Nat → Nat) (sz : Nat) {v t : Int32} {T : Nat → Nat} {F : Nat → Nat → Bool} (hlk : ∀ a, a < 4 → tw_lkp st a T (F a)) : Met l yX1_letter wsX1_letter ({ frames := 3, cells := 0, slots := 0, locals := 80 }) (va_Pc [.ref x, .int v, .int t] (fun U => U.heap.size = sz ∧ tw_YU D cI cZ x ad st U)) (va_Qi (fun r u => ((tw_nc v ∨ t < 0) ∧ u = tw_up st 13 0 1) ∨ ∃ a, a < 4 ∧ v = nI a ∧ ¬ t < 0 ∧ tw_lkr st u a T (F a) 0 ∧ tw_plM (st 13 1) (F a) t r (fun p => st 3 (T (p + 1)))) (tw_YT D cI cZ x ad (va_A (tw_y cI cZ x ad st) sz)) (va_A (tw_y cI cZ x ad st) sz)) 0 0 (va_A (tw_y cI cZ x ad st) sz) := by
  refine Met.ofW (cc := cX1_letter) (maxL := 3) (ret := (some .int)) (by decide) rfl ?_
  intro p e s m args below meth cd s₁ B hml hv
  obtain ⟨rfl, hsz, hU⟩ := hv
  subst hsz
  have S : CallFix p m cd cX1_letter 3 s ([.ref x, .int v, .int t] : List Value).toArray tw_wall RX1 := ⟨B.exec, B.bytes, hml, findClass_of_methodNamed B.named, fun w h => atoms_spec (ws := wsX1_letter) B.pre w (List.mem_cons_of_mem _ h)⟩
  have hr := B.returns
  have hlk0 := B.notSynchronized
  have z : va_S (fun q => s.heap.size ≤ q) s.heap s.heap [] := va_S.rf
  have w := tw_Y0 hU
  have hA : ∀ q : Nat, s.heap.size ≤ q → va_A (tw_y cI cZ x ad st) s.heap.size q := fun q h => Or.inr h
  generalize va_A (tw_y cI cZ x ad st) s.heap.size = A at w hA ⊢
  have hl := lv_entry ([.ref x, .int v, .int t]) (n := 3) (Nat.le_of_ble_eq_true rfl)
  rw [lg_entry_eq]
  generalize (lg_sl ([.ref x, .int v, .int t]) ++ List.replicate (3 - (lg_sl ([.ref x, .int v, .int t])).length) Slot.unset).toArray = ls at hl ⊢
  have hl : lv_has ls 3 [(0, .ref x), (1, .int v), (2, .int t)] := hl
  refine lv_aload_n S.1 S.2.1 dX1_letter_0 rfl (lv_at hl 0 rfl) ?_
  refine lv_iload_n S.1 S.2.1 dX1_letter_1 rfl (lv_at hl 1 rfl) ?_
  refine tw_cst (n := 1) S w.2.2.2 hA (kX1_isCopy l _ (v := v)) (tw_gS wl_X1_67 wt_X1_isCopy wi_X1 wy_X1_isCopy) rfl rfl (by decide +kernel) ⟨Nat.le_of_ble_eq_true rfl, Nat.le_of_ble_eq_true rfl⟩ rfl hl.1 rfl (Nat.le_of_ble_eq_true rfl) dX1_letter_2 ⟨Nat.le_of_ble_eq_true rfl, Nat.le_of_ble_eq_true rfl⟩ (fun r H locs hp hk z9 => ?_)
  have w := w.kept hk z9
  refine lv_if_eq (tgt := 12) S.1 S.2.1 dX1_letter_5 (by decide) (fun h5 => ?_) (fun h5 => ?_)
  · have hbad : tw_nc v := hp.elim (fun g => absurd (g.1.symm.trans h5) (by decide)) (fun g => g.2)
    refine lv_iconst (v := nI 1) S.1 S.2.1 dX1_letter_12 (by decide) ?_
    refine lv_goto (tgt := 17) S.1 S.2.1 dX1_letter_13 (by decide) ?_
    refine tw_cyi (n := 1) S w hA (kX1_bad l D cI cZ x ad _ _ (b := 1) (by omega)) (tw_gV wl_X1_71 wn_X1_bad ws_X1_bad wi_X1 wy_X1_bad) rfl rfl (by decide +kernel) ⟨Nat.le_of_ble_eq_true rfl, Nat.le_of_ble_eq_true rfl⟩ rfl hl.1 rfl (Nat.le_of_ble_eq_true rfl) dX1_letter_17 ⟨Nat.le_of_ble_eq_true rfl, Nat.le_of_ble_eq_true rfl⟩ (fun r u H locs hp w => ?_)
    obtain ⟨hr9, hu⟩ := hp
    subst hr9
    rw [hu] at w
    refine lv_if_eq (tgt := 25) S.1 S.2.1 dX1_letter_20 (by decide) (fun h20 => absurd h20 (by decide)) (fun h20 => ?_)
    refine lv_iconst (v := nI 0) S.1 S.2.1 dX1_letter_23 (by decide) ?_
    first
      | exact tw_iretY S hr hlk0 w (Or.inl ⟨Or.inl hbad, rfl⟩) dX1_letter_24
      | exact tw_iretY S hr hlk0 w (Or.inl ⟨Or.inr ht0, rfl⟩) dX1_letter_24
  · obtain ⟨a, ha, rfl⟩ := hp.elim (fun g => g.2) (fun g => absurd g.1 h5)
    refine lv_iload_n S.1 S.2.1 dX1_letter_8 rfl (lv_at hl 2 rfl) ?_
    refine lv_if_ge (tgt := 16) S.1 S.2.1 dX1_letter_9 (by decide) (fun h9 => ?_) (fun h9 => ?_)
    · have ht0 : ¬ t < 0 := Int32.not_lt.mpr h9
      refine lv_iconst (v := nI 0) S.1 S.2.1 dX1_letter_16 (by decide) ?_
      refine tw_cyi (n := 1) S w hA (kX1_bad l D cI cZ x ad _ _ (b := 0) (by omega)) (tw_gV wl_X1_71 wn_X1_bad ws_X1_bad wi_X1 wy_X1_bad) rfl rfl (by decide +kernel) ⟨Nat.le_of_ble_eq_true rfl, Nat.le_of_ble_eq_true rfl⟩ rfl hl.1 rfl (Nat.le_of_ble_eq_true rfl) dX1_letter_17 ⟨Nat.le_of_ble_eq_true rfl, Nat.le_of_ble_eq_true rfl⟩ (fun r u H locs hp w => ?_)
      obtain ⟨hr9, hu⟩ := hp
      subst hr9
      rw [hu] at w
      refine lv_if_eq (tgt := 25) S.1 S.2.1 dX1_letter_20 (by decide) (fun h20 => ?_) (fun h20 => absurd (by decide) h20)
      refine lv_aload_n S.1 S.2.1 dX1_letter_25 rfl (lv_at hl 0 rfl) ?_
      refine lv_iload_n S.1 S.2.1 dX1_letter_26 rfl (lv_at hl 1 rfl) ?_
      refine tw_cyv (n := 1) S w hA (kX1_look l D cI cZ x ad _ _ ha (tw_lkp_b (hlk a ha))) (tw_gV wl_X1_75 wn_X1_look ws_X1_look wi_X1 wy_X1_look) rfl rfl (by decide +kernel) ⟨Nat.le_of_ble_eq_true rfl, Nat.le_of_ble_eq_true rfl⟩ rfl hl.1 rfl (Nat.le_of_ble_eq_true rfl) dX1_letter_27 ⟨Nat.le_of_ble_eq_true rfl, Nat.le_of_ble_eq_true rfl⟩ (fun s1 H locs hq w => ?_)
      have e33 : s1 13 3 = tw_cn (F a) (st 13 1 - 1) := hq.2.1
      have hL2 := (hlk a ha).1.2
      have hli := (hlk a ha).2.1
      have hord : ∀ p, p < st 13 1 - 1 → F a p = true → s1 11 (tw_cn (F a) p) = T (p + 1) := hq.2.2.1
      have ho : ∀ k y, k < 11 → s1 k y = st k y := fun k y h => (hq.2.2.2 k y (by omega) (by omega) (by omega)).trans (tw_up_k (by omega))
      refine lv_iload_n S.1 S.2.1 dX1_letter_30 rfl (lv_at hl 2 rfl) ?_
      refine lv_aload_n S.1 S.2.1 dX1_letter_31 rfl (lv_at hl 0 rfl) ?_
      refine yyg_long_ S w dX1_letter_32 ?_
      refine tw_t (show _ = nI (tw_cn (F a) (st 13 1 - 1)) from by rw [e33]) ?_
      refine lv_icmp_ge (tgt := 52) S.1 S.2.1 dX1_letter_35 (by decide) (fun h35 => ?_) (fun h35 => ?_)
      · have hno := tw_no (f := F a) (m := st 13 1 - 1) (by omega) h35
        refine lv_iconst (v := -1) S.1 S.2.1 dX1_letter_52 (by decide) ?_
        first
          | exact tw_iretY S hr hlk0 w (Or.inr ⟨a, ha, rfl, ht0, tw_lkr_q hq, Or.inl ⟨p, p1, p2, rfl, rfl⟩⟩) dX1_letter_53
          | exact tw_iretY S hr hlk0 w (Or.inr ⟨a, ha, rfl, ht0, tw_lkr_q hq, Or.inr ⟨rfl, hno⟩⟩) dX1_letter_53
      · obtain ⟨p, p1, p2, rfl⟩ := tw_yes (f := F a) (m := st 13 1 - 1) (by omega) ht0 h35
        have hcl := tw_cn_le (F a) p
        have hT := hli.2.2.1 (p + 1) (by omega)
        refine lv_aload_n S.1 S.2.1 dX1_letter_38 rfl (lv_at hl 0 rfl) ?_
        refine yyg_value S w dX1_letter_39 ?_
        refine lv_aload_n S.1 S.2.1 dX1_letter_42 rfl (lv_at hl 0 rfl) ?_
        refine yyg_order S w dX1_letter_43 ?_
        refine lv_iload_n S.1 S.2.1 dX1_letter_46 rfl (lv_at hl 2 rfl) ?_
        refine yyl_11 S w (by omega) dX1_letter_47 ?_
        refine tw_t (show _ = nI (T (p + 1)) from by rw [hord p p1 p2]) ?_
        refine yyl_3 S w (by omega) dX1_letter_48 ?_
        refine tw_t (show _ = nI (st 3 (T (p + 1))) from by rw [ho 3 _ (by omega)]) ?_
        refine lv_goto (tgt := 53) S.1 S.2.1 dX1_letter_49 (by decide) ?_
        first
          | exact tw_iretY S hr hlk0 w (Or.inr ⟨a, ha, rfl, ht0, tw_lkr_q hq, Or.inl ⟨p, p1, p2, rfl, rfl⟩⟩) dX1_letter_53
          | exact tw_iretY S hr hlk0 w (Or.inr ⟨a, ha, rfl, ht0, tw_lkr_q hq, Or.inr ⟨rfl, hno⟩⟩) dX1_letter_53
    · have ht0 : t < 0 := Int32.not_le.mp h9
      refine lv_iconst (v := nI 1) S.1 S.2.1 dX1_letter_12 (by decide) ?_
      refine lv_goto (tgt := 17) S.1 S.2.1 dX1_letter_13 (by decide) ?_
      refine tw_cyi (n := 1) S w hA (kX1_bad l D cI cZ x ad _ _ (b := 1) (by omega)) (tw_gV wl_X1_71 wn_X1_bad ws_X1_bad wi_X1 wy_X1_bad) rfl rfl (by decide +kernel) ⟨Nat.le_of_ble_eq_true rfl, Nat.le_of_ble_eq_true rfl⟩ rfl hl.1 rfl (Nat.le_of_ble_eq_true rfl) dX1_letter_17 ⟨Nat.le_of_ble_eq_true rfl, Nat.le_of_ble_eq_true rfl⟩ (fun r u H locs hp w => ?_)
      obtain ⟨hr9, hu⟩ := hp
      subst hr9
      rw [hu] at w
      refine lv_if_eq (tgt := 25) S.1 S.2.1 dX1_letter_20 (by decide) (fun h20 => absurd h20 (by decide)) (fun h20 => ?_)
      refine lv_iconst (v := nI 0) S.1 S.2.1 dX1_letter_23 (by decide) ?_
      first
        | exact tw_iretY S hr hlk0 w (Or.inl ⟨Or.inl hbad, rfl⟩) dX1_letter_24
        | exact tw_iretY S hr hlk0 w (Or.inl ⟨Or.inr ht0, rfl⟩) dX1_letter_24
set_option maxHeartbeats 4000000 in
set_option maxRecDepth 100000 in
/-- name(c, at) -/
theorem kX1_name (l : Launch) (D : va_G) (cI cZ : ClassId) (x : Nat) (ad : Nat → Nat) (st : Nat → Nat → Nat) (sz : Nat) {v t : Int32} {T : Nat → Nat} {F : Nat → Nat → Bool} (hlk : ∀ a, a < 4 → tw_lkp st a T (F a)) : Met l yX1_name wsX1_name ({ frames := 3, cells := 0, slots := 0, locals := 80 }) (va_Pc [.ref x, .int v, .int t] (fun U => U.heap.size = sz ∧ tw_YU D cI cZ x ad st U)) (va_Qi (fun r u => ((tw_nc v ∨ t < 0) ∧ u = tw_up st 13 0 1) ∨ ∃ a, a < 4 ∧ v = nI a ∧ ¬ t < 0 ∧ tw_lkr st u a T (F a) 0 ∧ tw_plM (st 13 1) (F a) t r (fun p => tw_n st (T (p + 1)))) (tw_YT D cI cZ x ad (va_A (tw_y cI cZ x ad st) sz)) (va_A (tw_y cI cZ x ad st) sz)) 0 0 (va_A (tw_y cI cZ x ad st) sz) := by
  refine Met.ofW (cc := cX1_name) (maxL := 3) (ret := (some .int)) (by decide) rfl ?_
  intro p e s m args below meth cd s₁ B hml hv
  obtain ⟨rfl, hsz, hU⟩ := hv
  subst hsz
  have S : CallFix p m cd cX1_name 3 s ([.ref x, .int v, .int t] : List Value).toArray tw_wall RX1 := ⟨B.exec, B.bytes, hml, findClass_of_methodNamed B.named, fun w h => atoms_spec (ws := wsX1_name) B.pre w (List.mem_cons_of_mem _ h)⟩
  have hr := B.returns
  have hlk0 := B.notSynchronized
  have z : va_S (fun q => s.heap.size ≤ q) s.heap s.heap [] := va_S.rf
  have w := tw_Y0 hU
  have hA : ∀ q : Nat, s.heap.size ≤ q → va_A (tw_y cI cZ x ad st) s.heap.size q := fun q h => Or.inr h
  generalize va_A (tw_y cI cZ x ad st) s.heap.size = A at w hA ⊢
  have hl := lv_entry ([.ref x, .int v, .int t]) (n := 3) (Nat.le_of_ble_eq_true rfl)
  rw [lg_entry_eq]
  generalize (lg_sl ([.ref x, .int v, .int t]) ++ List.replicate (3 - (lg_sl ([.ref x, .int v, .int t])).length) Slot.unset).toArray = ls at hl ⊢
  have hl : lv_has ls 3 [(0, .ref x), (1, .int v), (2, .int t)] := hl
  refine lv_aload_n S.1 S.2.1 dX1_name_0 rfl (lv_at hl 0 rfl) ?_
  refine lv_iload_n S.1 S.2.1 dX1_name_1 rfl (lv_at hl 1 rfl) ?_
  refine tw_cst (n := 1) S w.2.2.2 hA (kX1_isCopy l _ (v := v)) (tw_gS wl_X1_67 wt_X1_isCopy wi_X1 wy_X1_isCopy) rfl rfl (by decide +kernel) ⟨Nat.le_of_ble_eq_true rfl, Nat.le_of_ble_eq_true rfl⟩ rfl hl.1 rfl (Nat.le_of_ble_eq_true rfl) dX1_name_2 ⟨Nat.le_of_ble_eq_true rfl, Nat.le_of_ble_eq_true rfl⟩ (fun r H locs hp hk z9 => ?_)
  have w := w.kept hk z9
  refine lv_if_eq (tgt := 12) S.1 S.2.1 dX1_name_5 (by decide) (fun h5 => ?_) (fun h5 => ?_)
  · have hbad : tw_nc v := hp.elim (fun g => absurd (g.1.symm.trans h5) (by decide)) (fun g => g.2)
    refine lv_iconst (v := nI 1) S.1 S.2.1 dX1_name_12 (by decide) ?_
    refine lv_goto (tgt := 17) S.1 S.2.1 dX1_name_13 (by decide) ?_
    refine tw_cyi (n := 1) S w hA (kX1_bad l D cI cZ x ad _ _ (b := 1) (by omega)) (tw_gV wl_X1_71 wn_X1_bad ws_X1_bad wi_X1 wy_X1_bad) rfl rfl (by decide +kernel) ⟨Nat.le_of_ble_eq_true rfl, Nat.le_of_ble_eq_true rfl⟩ rfl hl.1 rfl (Nat.le_of_ble_eq_true rfl) dX1_name_17 ⟨Nat.le_of_ble_eq_true rfl, Nat.le_of_ble_eq_true rfl⟩ (fun r u H locs hp w => ?_)
    obtain ⟨hr9, hu⟩ := hp
    subst hr9
    rw [hu] at w
    refine lv_if_eq (tgt := 25) S.1 S.2.1 dX1_name_20 (by decide) (fun h20 => absurd h20 (by decide)) (fun h20 => ?_)
    refine lv_iconst (v := nI 0) S.1 S.2.1 dX1_name_23 (by decide) ?_
    first
      | exact tw_iretY S hr hlk0 w (Or.inl ⟨Or.inl hbad, rfl⟩) dX1_name_24
      | exact tw_iretY S hr hlk0 w (Or.inl ⟨Or.inr ht0, rfl⟩) dX1_name_24
  · obtain ⟨a, ha, rfl⟩ := hp.elim (fun g => g.2) (fun g => absurd g.1 h5)
    refine lv_iload_n S.1 S.2.1 dX1_name_8 rfl (lv_at hl 2 rfl) ?_
    refine lv_if_ge (tgt := 16) S.1 S.2.1 dX1_name_9 (by decide) (fun h9 => ?_) (fun h9 => ?_)
    · have ht0 : ¬ t < 0 := Int32.not_lt.mpr h9
      refine lv_iconst (v := nI 0) S.1 S.2.1 dX1_name_16 (by decide) ?_
      refine tw_cyi (n := 1) S w hA (kX1_bad l D cI cZ x ad _ _ (b := 0) (by omega)) (tw_gV wl_X1_71 wn_X1_bad ws_X1_bad wi_X1 wy_X1_bad) rfl rfl (by decide +kernel) ⟨Nat.le_of_ble_eq_true rfl, Nat.le_of_ble_eq_true rfl⟩ rfl hl.1 rfl (Nat.le_of_ble_eq_true rfl) dX1_name_17 ⟨Nat.le_of_ble_eq_true rfl, Nat.le_of_ble_eq_true rfl⟩ (fun r u H locs hp w => ?_)
      obtain ⟨hr9, hu⟩ := hp
      subst hr9
      rw [hu] at w
      refine lv_if_eq (tgt := 25) S.1 S.2.1 dX1_name_20 (by decide) (fun h20 => ?_) (fun h20 => absurd (by decide) h20)
      refine lv_aload_n S.1 S.2.1 dX1_name_25 rfl (lv_at hl 0 rfl) ?_
      refine lv_iload_n S.1 S.2.1 dX1_name_26 rfl (lv_at hl 1 rfl) ?_
      refine tw_cyv (n := 1) S w hA (kX1_look l D cI cZ x ad _ _ ha (tw_lkp_b (hlk a ha))) (tw_gV wl_X1_75 wn_X1_look ws_X1_look wi_X1 wy_X1_look) rfl rfl (by decide +kernel) ⟨Nat.le_of_ble_eq_true rfl, Nat.le_of_ble_eq_true rfl⟩ rfl hl.1 rfl (Nat.le_of_ble_eq_true rfl) dX1_name_27 ⟨Nat.le_of_ble_eq_true rfl, Nat.le_of_ble_eq_true rfl⟩ (fun s1 H locs hq w => ?_)
      have e33 : s1 13 3 = tw_cn (F a) (st 13 1 - 1) := hq.2.1
      have hL2 := (hlk a ha).1.2
      have hli := (hlk a ha).2.1
      have hord : ∀ p, p < st 13 1 - 1 → F a p = true → s1 11 (tw_cn (F a) p) = T (p + 1) := hq.2.2.1
      have ho : ∀ k y, k < 11 → s1 k y = st k y := fun k y h => (hq.2.2.2 k y (by omega) (by omega) (by omega)).trans (tw_up_k (by omega))
      refine lv_iload_n S.1 S.2.1 dX1_name_30 rfl (lv_at hl 2 rfl) ?_
      refine lv_aload_n S.1 S.2.1 dX1_name_31 rfl (lv_at hl 0 rfl) ?_
      refine yyg_long_ S w dX1_name_32 ?_
      refine tw_t (show _ = nI (tw_cn (F a) (st 13 1 - 1)) from by rw [e33]) ?_
      refine lv_icmp_ge (tgt := 66) S.1 S.2.1 dX1_name_35 (by decide) (fun h35 => ?_) (fun h35 => ?_)
      · have hno := tw_no (f := F a) (m := st 13 1 - 1) (by omega) h35
        refine lv_iconst (v := -1) S.1 S.2.1 dX1_name_66 (by decide) ?_
        first
          | exact tw_iretY S hr hlk0 w (Or.inr ⟨a, ha, rfl, ht0, tw_lkr_q hq, Or.inl ⟨p, p1, p2, rfl, rfl⟩⟩) dX1_name_67
          | exact tw_iretY S hr hlk0 w (Or.inr ⟨a, ha, rfl, ht0, tw_lkr_q hq, Or.inr ⟨rfl, hno⟩⟩) dX1_name_67
      · obtain ⟨p, p1, p2, rfl⟩ := tw_yes (f := F a) (m := st 13 1 - 1) (by omega) ht0 h35
        have hcl := tw_cn_le (F a) p
        have hT := hli.2.2.1 (p + 1) (by omega)
        refine lv_iconst (v := nI 4) S.1 S.2.1 dX1_name_38 (by decide) ?_
        refine lv_aload_n S.1 S.2.1 dX1_name_39 rfl (lv_at hl 0 rfl) ?_
        refine yyg_number S w dX1_name_40 ?_
        refine lv_aload_n S.1 S.2.1 dX1_name_43 rfl (lv_at hl 0 rfl) ?_
        refine yyg_order S w dX1_name_44 ?_
        refine lv_iload_n S.1 S.2.1 dX1_name_47 rfl (lv_at hl 2 rfl) ?_
        refine yyl_11 S w (by omega) dX1_name_48 ?_
        refine tw_t (show _ = nI (T (p + 1)) from by rw [hord p p1 p2]) ?_
        refine yyl_0 S w (by omega) dX1_name_49 ?_
        refine tw_t (show _ = nI (st 0 (T (p + 1))) from by rw [ho 0 _ (by omega)]) ?_
        refine lv_imul S.1 S.2.1 dX1_name_50 ?_
        refine tw_t (pk_mul _ _) ?_
        refine lv_aload_n S.1 S.2.1 dX1_name_51 rfl (lv_at hl 0 rfl) ?_
        refine yyg_maker S w dX1_name_52 ?_
        refine lv_aload_n S.1 S.2.1 dX1_name_55 rfl (lv_at hl 0 rfl) ?_
        refine yyg_order S w dX1_name_56 ?_
        refine lv_iload_n S.1 S.2.1 dX1_name_59 rfl (lv_at hl 2 rfl) ?_
        refine yyl_11 S w (by omega) dX1_name_60 ?_
        refine tw_t (show _ = nI (T (p + 1)) from by rw [hord p p1 p2]) ?_
        refine yyl_1 S w (by omega) dX1_name_61 ?_
        refine tw_t (show _ = nI (st 1 (T (p + 1))) from by rw [ho 1 _ (by omega)]) ?_
        refine lv_iadd S.1 S.2.1 dX1_name_62 ?_
        refine tw_t (nI_add _ _) ?_
        refine lv_goto (tgt := 67) S.1 S.2.1 dX1_name_63 (by decide) ?_
        first
          | exact tw_iretY S hr hlk0 w (Or.inr ⟨a, ha, rfl, ht0, tw_lkr_q hq, Or.inl ⟨p, p1, p2, rfl, rfl⟩⟩) dX1_name_67
          | exact tw_iretY S hr hlk0 w (Or.inr ⟨a, ha, rfl, ht0, tw_lkr_q hq, Or.inr ⟨rfl, hno⟩⟩) dX1_name_67
    · have ht0 : t < 0 := Int32.not_le.mp h9
      refine lv_iconst (v := nI 1) S.1 S.2.1 dX1_name_12 (by decide) ?_
      refine lv_goto (tgt := 17) S.1 S.2.1 dX1_name_13 (by decide) ?_
      refine tw_cyi (n := 1) S w hA (kX1_bad l D cI cZ x ad _ _ (b := 1) (by omega)) (tw_gV wl_X1_71 wn_X1_bad ws_X1_bad wi_X1 wy_X1_bad) rfl rfl (by decide +kernel) ⟨Nat.le_of_ble_eq_true rfl, Nat.le_of_ble_eq_true rfl⟩ rfl hl.1 rfl (Nat.le_of_ble_eq_true rfl) dX1_name_17 ⟨Nat.le_of_ble_eq_true rfl, Nat.le_of_ble_eq_true rfl⟩ (fun r u H locs hp w => ?_)
      obtain ⟨hr9, hu⟩ := hp
      subst hr9
      rw [hu] at w
      refine lv_if_eq (tgt := 25) S.1 S.2.1 dX1_name_20 (by decide) (fun h20 => absurd h20 (by decide)) (fun h20 => ?_)
      refine lv_iconst (v := nI 0) S.1 S.2.1 dX1_name_23 (by decide) ?_
      first
        | exact tw_iretY S hr hlk0 w (Or.inl ⟨Or.inl hbad, rfl⟩) dX1_name_24
        | exact tw_iretY S hr hlk0 w (Or.inl ⟨Or.inr ht0, rfl⟩) dX1_name_24
set_option maxHeartbeats 4000000 in
set_option maxRecDepth 100000 in
/-- has(c, of) -/
theorem kX1_has (l : Launch) (D : va_G) (cI cZ : ClassId) (x : Nat) (ad : Nat → Nat) (st : Nat → Nat → Nat) (sz : Nat) {v t : Int32} : Met l yX1_has wsX1_has ({ frames := 3, cells := 0, slots := 0, locals := 80 }) (va_Pc [.ref x, .int v, .int t] (fun U => U.heap.size = sz ∧ tw_YU D cI cZ x ad st U)) (va_Qi (fun r u => ((tw_nc v ∨ tw_nc t) ∧ u = tw_up st 13 0 1) ∨ ∃ a b, a < 4 ∧ v = nI a ∧ b < 4 ∧ t = nI b ∧ r = nI (st 10 (4 * a + b)) ∧ u = tw_up st 13 0 0) (tw_YT D cI cZ x ad (va_A (tw_y cI cZ x ad st) sz)) (va_A (tw_y cI cZ x ad st) sz)) 0 0 (va_A (tw_y cI cZ x ad st) sz) := by
  refine Met.ofW (cc := cX1_has) (maxL := 3) (ret := (some .int)) (by decide) rfl ?_
  intro p e s m args below meth cd s₁ B hml hv
  obtain ⟨rfl, hsz, hU⟩ := hv
  subst hsz
  have S : CallFix p m cd cX1_has 3 s ([.ref x, .int v, .int t] : List Value).toArray tw_wall RX1 := ⟨B.exec, B.bytes, hml, findClass_of_methodNamed B.named, fun w h => atoms_spec (ws := wsX1_has) B.pre w (List.mem_cons_of_mem _ h)⟩
  have hr := B.returns
  have hlk0 := B.notSynchronized
  have z : va_S (fun q => s.heap.size ≤ q) s.heap s.heap [] := va_S.rf
  have w := tw_Y0 hU
  have hA : ∀ q : Nat, s.heap.size ≤ q → va_A (tw_y cI cZ x ad st) s.heap.size q := fun q h => Or.inr h
  generalize va_A (tw_y cI cZ x ad st) s.heap.size = A at w hA ⊢
  have hl := lv_entry ([.ref x, .int v, .int t]) (n := 3) (Nat.le_of_ble_eq_true rfl)
  rw [lg_entry_eq]
  generalize (lg_sl ([.ref x, .int v, .int t]) ++ List.replicate (3 - (lg_sl ([.ref x, .int v, .int t])).length) Slot.unset).toArray = ls at hl ⊢
  have hl : lv_has ls 3 [(0, .ref x), (1, .int v), (2, .int t)] := hl
  refine lv_aload_n S.1 S.2.1 dX1_has_0 rfl (lv_at hl 0 rfl) ?_
  refine lv_iload_n S.1 S.2.1 dX1_has_1 rfl (lv_at hl 1 rfl) ?_
  refine tw_cst (n := 1) S w.2.2.2 hA (kX1_isCopy l _ (v := v)) (tw_gS wl_X1_67 wt_X1_isCopy wi_X1 wy_X1_isCopy) rfl rfl (by decide +kernel) ⟨Nat.le_of_ble_eq_true rfl, Nat.le_of_ble_eq_true rfl⟩ rfl hl.1 rfl (Nat.le_of_ble_eq_true rfl) dX1_has_2 ⟨Nat.le_of_ble_eq_true rfl, Nat.le_of_ble_eq_true rfl⟩ (fun r H locs hp hk z9 => ?_)
  have w := w.kept hk z9
  refine lv_if_eq (tgt := 15) S.1 S.2.1 dX1_has_5 (by decide) (fun h5 => ?_) (fun h5 => ?_)
  · have hbad : tw_nc v := hp.elim (fun g => absurd (g.1.symm.trans h5) (by decide)) (fun g => g.2)
    refine lv_iconst (v := nI 1) S.1 S.2.1 dX1_has_15 (by decide) ?_
    refine lv_goto (tgt := 20) S.1 S.2.1 dX1_has_16 (by decide) ?_
    refine tw_cyi (n := 1) S w hA (kX1_bad l D cI cZ x ad _ _ (b := 1) (by omega)) (tw_gV wl_X1_71 wn_X1_bad ws_X1_bad wi_X1 wy_X1_bad) rfl rfl (by decide +kernel) ⟨Nat.le_of_ble_eq_true rfl, Nat.le_of_ble_eq_true rfl⟩ rfl hl.1 rfl (Nat.le_of_ble_eq_true rfl) dX1_has_20 ⟨Nat.le_of_ble_eq_true rfl, Nat.le_of_ble_eq_true rfl⟩ (fun r u H locs hp w => ?_)
    obtain ⟨hr9, hu⟩ := hp
    subst hr9
    rw [hu] at w
    refine lv_if_eq (tgt := 30) S.1 S.2.1 dX1_has_23 (by decide) (fun h23 => absurd h23 (by decide)) (fun h23 => ?_)
    refine lv_iconst (v := nI 0) S.1 S.2.1 dX1_has_26 (by decide) ?_
    refine lv_goto (tgt := 40) S.1 S.2.1 dX1_has_27 (by decide) ?_
    first
      | exact tw_iretY S hr hlk0 w (Or.inl ⟨Or.inl hbad, rfl⟩) dX1_has_40
      | exact tw_iretY S hr hlk0 w (Or.inl ⟨Or.inr hbad, rfl⟩) dX1_has_40
      | exact tw_iretY S hr hlk0 w (Or.inr ⟨a, b, ha, rfl, hb, rfl, rfl, rfl⟩) dX1_has_40
  · obtain ⟨a, ha, rfl⟩ := hp.elim (fun g => g.2) (fun g => absurd g.1 h5)
    refine lv_iload_n S.1 S.2.1 dX1_has_8 rfl (lv_at hl 2 rfl) ?_
    refine tw_cst (n := 1) S w.2.2.2 hA (kX1_isCopy l _ (v := t)) (tw_gS wl_X1_67 wt_X1_isCopy wi_X1 wy_X1_isCopy) rfl rfl (by decide +kernel) ⟨Nat.le_of_ble_eq_true rfl, Nat.le_of_ble_eq_true rfl⟩ rfl hl.1 rfl (Nat.le_of_ble_eq_true rfl) dX1_has_9 ⟨Nat.le_of_ble_eq_true rfl, Nat.le_of_ble_eq_true rfl⟩ (fun r H locs hp hk z9 => ?_)
    have w := w.kept hk z9
    refine lv_if_ne (tgt := 19) S.1 S.2.1 dX1_has_12 (by decide) (fun h12 => ?_) (fun h12 => ?_)
    · obtain ⟨b, hb, rfl⟩ := hp.elim (fun g => g.2) (fun g => absurd g.1 h12)
      refine lv_iconst (v := nI 0) S.1 S.2.1 dX1_has_19 (by decide) ?_
      refine tw_cyi (n := 1) S w hA (kX1_bad l D cI cZ x ad _ _ (b := 0) (by omega)) (tw_gV wl_X1_71 wn_X1_bad ws_X1_bad wi_X1 wy_X1_bad) rfl rfl (by decide +kernel) ⟨Nat.le_of_ble_eq_true rfl, Nat.le_of_ble_eq_true rfl⟩ rfl hl.1 rfl (Nat.le_of_ble_eq_true rfl) dX1_has_20 ⟨Nat.le_of_ble_eq_true rfl, Nat.le_of_ble_eq_true rfl⟩ (fun r u H locs hp w => ?_)
      obtain ⟨hr9, hu⟩ := hp
      subst hr9
      rw [hu] at w
      refine lv_if_eq (tgt := 30) S.1 S.2.1 dX1_has_23 (by decide) (fun h23 => ?_) (fun h23 => absurd (by decide) h23)
      refine lv_aload_n S.1 S.2.1 dX1_has_30 rfl (lv_at hl 0 rfl) ?_
      refine yyg_has S w dX1_has_31 ?_
      refine lv_iconst (v := nI 4) S.1 S.2.1 dX1_has_34 (by decide) ?_
      refine lv_iload_n S.1 S.2.1 dX1_has_35 rfl (lv_at hl 1 rfl) ?_
      refine lv_imul S.1 S.2.1 dX1_has_36 ?_
      refine tw_t (pk_mul _ _) ?_
      refine lv_iload_n S.1 S.2.1 dX1_has_37 rfl (lv_at hl 2 rfl) ?_
      refine lv_iadd S.1 S.2.1 dX1_has_38 ?_
      refine tw_t (nI_add _ _) ?_
      refine yyl_10 S w (by omega) dX1_has_39 ?_
      first
        | exact tw_iretY S hr hlk0 w (Or.inl ⟨Or.inl hbad, rfl⟩) dX1_has_40
        | exact tw_iretY S hr hlk0 w (Or.inl ⟨Or.inr hbad, rfl⟩) dX1_has_40
        | exact tw_iretY S hr hlk0 w (Or.inr ⟨a, b, ha, rfl, hb, rfl, rfl, rfl⟩) dX1_has_40
    · have hbad : tw_nc t := hp.elim (fun g => absurd (g.1.symm.trans h12) (by decide)) (fun g => g.2)
      refine lv_iconst (v := nI 1) S.1 S.2.1 dX1_has_15 (by decide) ?_
      refine lv_goto (tgt := 20) S.1 S.2.1 dX1_has_16 (by decide) ?_
      refine tw_cyi (n := 1) S w hA (kX1_bad l D cI cZ x ad _ _ (b := 1) (by omega)) (tw_gV wl_X1_71 wn_X1_bad ws_X1_bad wi_X1 wy_X1_bad) rfl rfl (by decide +kernel) ⟨Nat.le_of_ble_eq_true rfl, Nat.le_of_ble_eq_true rfl⟩ rfl hl.1 rfl (Nat.le_of_ble_eq_true rfl) dX1_has_20 ⟨Nat.le_of_ble_eq_true rfl, Nat.le_of_ble_eq_true rfl⟩ (fun r u H locs hp w => ?_)
      obtain ⟨hr9, hu⟩ := hp
      subst hr9
      rw [hu] at w
      refine lv_if_eq (tgt := 30) S.1 S.2.1 dX1_has_23 (by decide) (fun h23 => absurd h23 (by decide)) (fun h23 => ?_)
      refine lv_iconst (v := nI 0) S.1 S.2.1 dX1_has_26 (by decide) ?_
      refine lv_goto (tgt := 40) S.1 S.2.1 dX1_has_27 (by decide) ?_
      first
        | exact tw_iretY S hr hlk0 w (Or.inl ⟨Or.inl hbad, rfl⟩) dX1_has_40
        | exact tw_iretY S hr hlk0 w (Or.inl ⟨Or.inr hbad, rfl⟩) dX1_has_40
        | exact tw_iretY S hr hlk0 w (Or.inr ⟨a, b, ha, rfl, hb, rfl, rfl, rfl⟩) dX1_has_40
set_option maxHeartbeats 4000000 in
set_option maxRecDepth 100000 in
/-- remove(c, at) -/
theorem kX1_remove (l : Launch) (D : va_G) (cI cZ : ClassId) (x : Nat) (ad : Nat → Nat) (st : Nat → Nat → Nat) (sz : Nat) {v t : Int32} {T : Nat → Nat} {F : Nat → Nat → Bool} (hlk : ∀ a, a < 4 → tw_lkp st a T (F a)) (h9 : ∀ a, a < 4 → st 9 a ≤ 400) : Met l yX1_remove wsX1_remove ({ frames := 3, cells := 0, slots := 0, locals := 80 }) (va_Pc [.ref x, .int v, .int t] (fun U => U.heap.size = sz ∧ tw_YU D cI cZ x ad st U)) (va_Qi (fun r u => (tw_nc v ∧ u = tw_up st 13 0 1) ∨ ∃ a, a < 4 ∧ v = nI a ∧ (((∀ p, p < st 13 1 - 1 → F a p = true → t ≠ nI (tw_cn (F a) p)) ∧ tw_lkr st u a T (F a) 1) ∨ ∃ p, p < st 13 1 - 1 ∧ F a p = true ∧ t = nI (tw_cn (F a) p) ∧ ((st 9 a = 400 ∧ tw_lkr st u a T (F a) 2) ∨ (st 9 a ≠ 400 ∧ r = nI (st 9 a) ∧ ∃ s1, tw_lkr st s1 a T (F a) 0 ∧ u = tw_dn s1 a (2 * T (p + 1) + 1))))) (tw_YT D cI cZ x ad (va_A (tw_y cI cZ x ad st) sz)) (va_A (tw_y cI cZ x ad st) sz)) 0 0 (va_A (tw_y cI cZ x ad st) sz) := by
  refine Met.ofW (cc := cX1_remove) (maxL := 3) (ret := (some .int)) (by decide) rfl ?_
  intro p e s m args below meth cd s₁ B hml hv
  obtain ⟨rfl, hsz, hU⟩ := hv
  subst hsz
  have S : CallFix p m cd cX1_remove 3 s ([.ref x, .int v, .int t] : List Value).toArray tw_wall RX1 := ⟨B.exec, B.bytes, hml, findClass_of_methodNamed B.named, fun w h => atoms_spec (ws := wsX1_remove) B.pre w (List.mem_cons_of_mem _ h)⟩
  have hr := B.returns
  have hlk0 := B.notSynchronized
  have z : va_S (fun q => s.heap.size ≤ q) s.heap s.heap [] := va_S.rf
  have w := tw_Y0 hU
  have hA : ∀ q : Nat, s.heap.size ≤ q → va_A (tw_y cI cZ x ad st) s.heap.size q := fun q h => Or.inr h
  generalize va_A (tw_y cI cZ x ad st) s.heap.size = A at w hA ⊢
  have hl := lv_entry ([.ref x, .int v, .int t]) (n := 3) (Nat.le_of_ble_eq_true rfl)
  rw [lg_entry_eq]
  generalize (lg_sl ([.ref x, .int v, .int t]) ++ List.replicate (3 - (lg_sl ([.ref x, .int v, .int t])).length) Slot.unset).toArray = ls at hl ⊢
  have hl : lv_has ls 3 [(0, .ref x), (1, .int v), (2, .int t)] := hl
  refine lv_aload_n S.1 S.2.1 dX1_remove_0 rfl (lv_at hl 0 rfl) ?_
  refine lv_iload_n S.1 S.2.1 dX1_remove_1 rfl (lv_at hl 1 rfl) ?_
  refine tw_cst (n := 1) S w.2.2.2 hA (kX1_isCopy l _ (v := v)) (tw_gS wl_X1_67 wt_X1_isCopy wi_X1 wy_X1_isCopy) rfl rfl (by decide +kernel) ⟨Nat.le_of_ble_eq_true rfl, Nat.le_of_ble_eq_true rfl⟩ rfl hl.1 rfl (Nat.le_of_ble_eq_true rfl) dX1_remove_2 ⟨Nat.le_of_ble_eq_true rfl, Nat.le_of_ble_eq_true rfl⟩ (fun r H locs hp hk z9 => ?_)
  have w := w.kept hk z9
  refine lv_if_ne (tgt := 12) S.1 S.2.1 dX1_remove_5 (by decide) (fun h5 => ?_) (fun h5 => ?_)
  · obtain ⟨a, ha, rfl⟩ := hp.elim (fun g => g.2) (fun g => absurd g.1 h5)
    refine lv_iconst (v := nI 0) S.1 S.2.1 dX1_remove_12 (by decide) ?_
    refine tw_cyi (n := 1) S w hA (kX1_bad l D cI cZ x ad _ _ (b := 0) (by omega)) (tw_gV wl_X1_71 wn_X1_bad ws_X1_bad wi_X1 wy_X1_bad) rfl rfl (by decide +kernel) ⟨Nat.le_of_ble_eq_true rfl, Nat.le_of_ble_eq_true rfl⟩ rfl hl.1 rfl (Nat.le_of_ble_eq_true rfl) dX1_remove_13 ⟨Nat.le_of_ble_eq_true rfl, Nat.le_of_ble_eq_true rfl⟩ (fun r u H locs hp w => ?_)
    obtain ⟨hr9, hu⟩ := hp
    subst hr9
    rw [hu] at w
    refine lv_if_eq (tgt := 21) S.1 S.2.1 dX1_remove_16 (by decide) (fun h16 => ?_) (fun h16 => absurd (by decide) h16)
    refine lv_aload_n S.1 S.2.1 dX1_remove_21 rfl (lv_at hl 0 rfl) ?_
    refine lv_iload_n S.1 S.2.1 dX1_remove_22 rfl (lv_at hl 1 rfl) ?_
    refine tw_cyv (n := 1) S w hA (kX1_look l D cI cZ x ad _ _ ha (tw_lkp_b (hlk a ha))) (tw_gV wl_X1_75 wn_X1_look ws_X1_look wi_X1 wy_X1_look) rfl rfl (by decide +kernel) ⟨Nat.le_of_ble_eq_true rfl, Nat.le_of_ble_eq_true rfl⟩ rfl hl.1 rfl (Nat.le_of_ble_eq_true rfl) dX1_remove_23 ⟨Nat.le_of_ble_eq_true rfl, Nat.le_of_ble_eq_true rfl⟩ (fun s1 H locs hq w => ?_)
    have e33 : s1 13 3 = tw_cn (F a) (st 13 1 - 1) := hq.2.1
    have hL2 := (hlk a ha).1.2
    have hli := (hlk a ha).2.1
    have hord : ∀ p, p < st 13 1 - 1 → F a p = true → s1 11 (tw_cn (F a) p) = T (p + 1) := hq.2.2.1
    have ho : ∀ k y, k < 11 → s1 k y = st k y := fun k y h => (hq.2.2.2 k y (by omega) (by omega) (by omega)).trans (tw_up_k (by omega))
    refine lv_aload_n S.1 S.2.1 dX1_remove_26 rfl (lv_at hl 0 rfl) ?_
    refine lv_iload_n S.1 S.2.1 dX1_remove_27 rfl (lv_at hl 2 rfl) ?_
    refine lv_if_lt (tgt := 39) S.1 S.2.1 dX1_remove_28 (by decide) (fun h28 => ?_) (fun h28 => ?_)
    · have hno := tw_neg_no (f := F a) (m := st 13 1 - 1) (by omega) h28
      refine lv_iconst (v := nI 1) S.1 S.2.1 dX1_remove_39 (by decide) ?_
      refine lv_goto (tgt := 44) S.1 S.2.1 dX1_remove_40 (by decide) ?_
      refine tw_cyi (n := 1) S w hA (kX1_bad l D cI cZ x ad _ _ (b := 1) (by omega)) (tw_gV wl_X1_71 wn_X1_bad ws_X1_bad wi_X1 wy_X1_bad) rfl rfl (by decide +kernel) ⟨Nat.le_of_ble_eq_true rfl, Nat.le_of_ble_eq_true rfl⟩ rfl hl.1 rfl (Nat.le_of_ble_eq_true rfl) dX1_remove_44 ⟨Nat.le_of_ble_eq_true rfl, Nat.le_of_ble_eq_true rfl⟩ (fun r u H locs hp w => ?_)
      obtain ⟨hr9, hu⟩ := hp
      subst hr9
      rw [hu] at w
      refine lv_if_eq (tgt := 52) S.1 S.2.1 dX1_remove_47 (by decide) (fun h47 => absurd h47 (by decide)) (fun h47 => ?_)
      refine lv_iconst (v := nI 0) S.1 S.2.1 dX1_remove_50 (by decide) ?_
      exact tw_iretY S hr hlk0 w (Or.inr ⟨a, ha, rfl, Or.inl ⟨hno, tw_lkr_of hq⟩⟩) dX1_remove_51
    · refine lv_iload_n S.1 S.2.1 dX1_remove_31 rfl (lv_at hl 2 rfl) ?_
      refine lv_aload_n S.1 S.2.1 dX1_remove_32 rfl (lv_at hl 0 rfl) ?_
      refine yyg_long_ S w dX1_remove_33 ?_
      refine tw_t (show _ = nI (tw_cn (F a) (st 13 1 - 1)) from by rw [e33]) ?_
      refine lv_icmp_lt (tgt := 43) S.1 S.2.1 dX1_remove_36 (by decide) (fun h36 => ?_) (fun h36 => ?_)
      · obtain ⟨p, p1, p2, rfl⟩ := tw_yes (f := F a) (m := st 13 1 - 1) (by omega) h28 (Int32.not_le.mpr h36)
        have hcl := tw_cn_le (F a) p
        have hT := hli.2.2.1 (p + 1) (by omega)
        refine lv_iconst (v := nI 0) S.1 S.2.1 dX1_remove_43 (by decide) ?_
        refine tw_cyi (n := 1) S w hA (kX1_bad l D cI cZ x ad _ _ (b := 0) (by omega)) (tw_gV wl_X1_71 wn_X1_bad ws_X1_bad wi_X1 wy_X1_bad) rfl rfl (by decide +kernel) ⟨Nat.le_of_ble_eq_true rfl, Nat.le_of_ble_eq_true rfl⟩ rfl hl.1 rfl (Nat.le_of_ble_eq_true rfl) dX1_remove_44 ⟨Nat.le_of_ble_eq_true rfl, Nat.le_of_ble_eq_true rfl⟩ (fun r u H locs hp w => ?_)
        obtain ⟨hr9, hu⟩ := hp
        subst hr9
        rw [hu] at w
        refine lv_if_eq (tgt := 52) S.1 S.2.1 dX1_remove_47 (by decide) (fun h47 => ?_) (fun h47 => absurd (by decide) h47)
        refine lv_aload_n S.1 S.2.1 dX1_remove_52 rfl (lv_at hl 0 rfl) ?_
        refine yyg_made S w dX1_remove_53 ?_
        refine lv_iload_n S.1 S.2.1 dX1_remove_56 rfl (lv_at hl 1 rfl) ?_
        refine yyl_9 S w (by omega) dX1_remove_57 ?_
        refine tw_t (show _ = nI (st 9 a) from by rw [tw_up_k (by omega), ho 9 _ (by omega)]) ?_
        refine lv_sipush (v := nI 400) S.1 S.2.1 dX1_remove_58 (by decide) ?_
        refine lv_icmp_ne (tgt := 71) S.1 S.2.1 dX1_remove_61 (by decide) (fun h61 => ?_) (fun h61 => ?_)
        · have hmd : st 9 a ≠ 400 := fun g => h61 (by rw [g])
          refine lv_aload_n S.1 S.2.1 dX1_remove_71 rfl (lv_at hl 0 rfl) ?_
          refine lv_iload_n S.1 S.2.1 dX1_remove_72 rfl (lv_at hl 1 rfl) ?_
          refine lv_aload_n S.1 S.2.1 dX1_remove_73 rfl (lv_at hl 0 rfl) ?_
          refine yyg_order S w dX1_remove_74 ?_
          refine lv_iload_n S.1 S.2.1 dX1_remove_77 rfl (lv_at hl 2 rfl) ?_
          refine yyl_11 S w (by omega) dX1_remove_78 ?_
          refine tw_t (show _ = nI (T (p + 1)) from by rw [tw_up_k (by omega), hord p p1 p2]) ?_
          refine lv_ineg S.1 S.2.1 dX1_remove_79 ?_
          refine tw_t (tw_wh_o _).symm ?_
          have e9 : tw_up s1 13 0 0 9 a = st 9 a := by rw [tw_up_k (by omega), ho 9 _ (by omega)]
          refine tw_cyi (n := 2) S w hA (kX1_done l D cI cZ x ad _ _ (h := 2 * T (p + 1) + 1) ha (by rw [e9]; have := h9 a ha; omega)) (tw_gV wl_X1_82 wn_X1_done ws_X1_done wi_X1 wy_X1_done) rfl rfl (by decide +kernel) ⟨Nat.le_of_ble_eq_true rfl, Nat.le_of_ble_eq_true rfl⟩ rfl hl.1 rfl (Nat.le_of_ble_eq_true rfl) dX1_remove_80 ⟨Nat.le_of_ble_eq_true rfl, Nat.le_of_ble_eq_true rfl⟩ (fun r u H locs hp w => ?_)
          rw [e9] at hp
          obtain ⟨hr9, hu⟩ := hp
          subst hr9
          exact tw_iretY S hr hlk0 w (Or.inr ⟨a, ha, rfl, Or.inr ⟨p, p1, p2, rfl, Or.inr ⟨hmd, rfl, _, tw_lkr_of (c := 0) hq, hu⟩⟩⟩) dX1_remove_83
        · have hmd : st 9 a = 400 := (tw_eq (by have := h9 a ha; omega) (by omega)).mp h61
          refine lv_aload_n S.1 S.2.1 dX1_remove_64 rfl (lv_at hl 0 rfl) ?_
          refine lv_iconst (v := nI 2) S.1 S.2.1 dX1_remove_65 (by decide) ?_
          refine yyp_thrown S w dX1_remove_66 (fun H locs w => ?_)
          refine lv_iconst (v := nI 0) S.1 S.2.1 dX1_remove_69 (by decide) ?_
          exact tw_iretY S hr hlk0 w (Or.inr ⟨a, ha, rfl, Or.inr ⟨p, p1, p2, rfl, Or.inl ⟨hmd, tw_lkr_c (tw_lkr_of (c := 0) hq)⟩⟩⟩) dX1_remove_70
      · have hno := tw_no (f := F a) (m := st 13 1 - 1) (by omega) (Int32.not_lt.mp h36)
        refine lv_iconst (v := nI 1) S.1 S.2.1 dX1_remove_39 (by decide) ?_
        refine lv_goto (tgt := 44) S.1 S.2.1 dX1_remove_40 (by decide) ?_
        refine tw_cyi (n := 1) S w hA (kX1_bad l D cI cZ x ad _ _ (b := 1) (by omega)) (tw_gV wl_X1_71 wn_X1_bad ws_X1_bad wi_X1 wy_X1_bad) rfl rfl (by decide +kernel) ⟨Nat.le_of_ble_eq_true rfl, Nat.le_of_ble_eq_true rfl⟩ rfl hl.1 rfl (Nat.le_of_ble_eq_true rfl) dX1_remove_44 ⟨Nat.le_of_ble_eq_true rfl, Nat.le_of_ble_eq_true rfl⟩ (fun r u H locs hp w => ?_)
        obtain ⟨hr9, hu⟩ := hp
        subst hr9
        rw [hu] at w
        refine lv_if_eq (tgt := 52) S.1 S.2.1 dX1_remove_47 (by decide) (fun h47 => absurd h47 (by decide)) (fun h47 => ?_)
        refine lv_iconst (v := nI 0) S.1 S.2.1 dX1_remove_50 (by decide) ?_
        exact tw_iretY S hr hlk0 w (Or.inr ⟨a, ha, rfl, Or.inl ⟨hno, tw_lkr_of hq⟩⟩) dX1_remove_51
  · have hbad : tw_nc v := hp.elim (fun g => absurd (g.1.symm.trans h5) (by decide)) (fun g => g.2)
    refine lv_iconst (v := nI 1) S.1 S.2.1 dX1_remove_8 (by decide) ?_
    refine lv_goto (tgt := 13) S.1 S.2.1 dX1_remove_9 (by decide) ?_
    refine tw_cyi (n := 1) S w hA (kX1_bad l D cI cZ x ad _ _ (b := 1) (by omega)) (tw_gV wl_X1_71 wn_X1_bad ws_X1_bad wi_X1 wy_X1_bad) rfl rfl (by decide +kernel) ⟨Nat.le_of_ble_eq_true rfl, Nat.le_of_ble_eq_true rfl⟩ rfl hl.1 rfl (Nat.le_of_ble_eq_true rfl) dX1_remove_13 ⟨Nat.le_of_ble_eq_true rfl, Nat.le_of_ble_eq_true rfl⟩ (fun r u H locs hp w => ?_)
    obtain ⟨hr9, hu⟩ := hp
    subst hr9
    rw [hu] at w
    refine lv_if_eq (tgt := 21) S.1 S.2.1 dX1_remove_16 (by decide) (fun h16 => absurd h16 (by decide)) (fun h16 => ?_)
    refine lv_iconst (v := nI 0) S.1 S.2.1 dX1_remove_19 (by decide) ?_
    exact tw_iretY S hr hlk0 w (Or.inl ⟨hbad, rfl⟩) dX1_remove_20
end
section
set_option maxHeartbeats 4000000 in
set_option maxRecDepth 100000 in
/-- bring(from, k, to) -/
theorem kX1_bring (l : Launch) (D : va_G) (cI cZ : ClassId) (x : Nat) (ad : Nat → Nat) (st : Nat → Nat → Nat) (sz : Nat) {v t b : Int32} (h9 : ∀ a, a < 4 → st 9 a ≤ 400) (hb8 : ∀ y, st 8 y < 2147483648) (hb10 : ∀ y, st 10 y < 2147483648) : Met l yX1_bring wsX1_bring ({ frames := 3, cells := 0, slots := 0, locals := 80 }) (va_Pc [.ref x, .int v, .int t, .int b] (fun U => U.heap.size = sz ∧ tw_YU D cI cZ x ad st U)) (va_Qv (fun u => ((tw_nc v ∨ tw_nc b ∨ v = b ∨ ∃ a, a < 4 ∧ v = nI a ∧ (t < 0 ∨ nI (st 9 a) ≤ t)) ∧ u = tw_up st 13 0 1) ∨ ∃ a c k, a < 4 ∧ v = nI a ∧ c < 4 ∧ b = nI c ∧ a ≠ c ∧ k < st 9 a ∧ t = nI k ∧ ((k < st 10 (4 * c + a) ∧ u = tw_up st 13 0 0) ∨ (¬ k < st 10 (4 * c + a) ∧ ((¬ (∀ m, m < 4 → st 8 ((400 * a + k) * 4 + m) ≤ st 10 (4 * c + m)) ∧ u = tw_up st 13 0 2) ∨ ((∀ m, m < 4 → st 8 ((400 * a + k) * 4 + m) ≤ st 10 (4 * c + m)) ∧ u = tw_up (tw_up (tw_up st 13 0 0) 10 (4 * c + a) (k + 1)) 13 2 0))))) (tw_YT D cI cZ x ad (va_A (tw_y cI cZ x ad st) sz)) (va_A (tw_y cI cZ x ad st) sz)) 0 0 (va_A (tw_y cI cZ x ad st) sz) := by
  refine Met.ofW (cc := cX1_bring) (maxL := 5) (ret := none) (by decide) rfl ?_
  intro p e s m args below meth cd s₁ B hml hv
  obtain ⟨rfl, hsz, hU⟩ := hv
  subst hsz
  have S : CallFix p m cd cX1_bring 5 s ([.ref x, .int v, .int t, .int b] : List Value).toArray tw_wall RX1 := ⟨B.exec, B.bytes, hml, findClass_of_methodNamed B.named, fun w h => atoms_spec (ws := wsX1_bring) B.pre w (List.mem_cons_of_mem _ h)⟩
  have hr := B.returns
  have hlk0 := B.notSynchronized
  have z : va_S (fun q => s.heap.size ≤ q) s.heap s.heap [] := va_S.rf
  have w := tw_Y0 hU
  have hA : ∀ q : Nat, s.heap.size ≤ q → va_A (tw_y cI cZ x ad st) s.heap.size q := fun q h => Or.inr h
  generalize va_A (tw_y cI cZ x ad st) s.heap.size = A at w hA ⊢
  have hl := lv_entry ([.ref x, .int v, .int t, .int b]) (n := 5) (Nat.le_of_ble_eq_true rfl)
  rw [lg_entry_eq]
  generalize (lg_sl ([.ref x, .int v, .int t, .int b]) ++ List.replicate (5 - (lg_sl ([.ref x, .int v, .int t, .int b])).length) Slot.unset).toArray = ls at hl ⊢
  have hl : lv_has ls 5 [(0, .ref x), (1, .int v), (2, .int t), (3, .int b)] := hl
  refine lv_aload_n S.1 S.2.1 dX1_bring_0 rfl (lv_at hl 0 rfl) ?_
  refine lv_iload_n S.1 S.2.1 dX1_bring_1 rfl (lv_at hl 1 rfl) ?_
  refine tw_cst (n := 1) S w.2.2.2 hA (kX1_isCopy l _ (v := v)) (tw_gS wl_X1_67 wt_X1_isCopy wi_X1 wy_X1_isCopy) rfl rfl (by decide +kernel) ⟨Nat.le_of_ble_eq_true rfl, Nat.le_of_ble_eq_true rfl⟩ rfl hl.1 rfl (Nat.le_of_ble_eq_true rfl) dX1_bring_2 ⟨Nat.le_of_ble_eq_true rfl, Nat.le_of_ble_eq_true rfl⟩ (fun r H locs hp hk z9 => ?_)
  have w := w.kept hk z9
  refine lv_if_eq (tgt := 34) S.1 S.2.1 dX1_bring_5 (by decide) (fun h5 => ?_) (fun h5 => ?_)
  · have hbad : tw_nc v := hp.elim (fun g => absurd (g.1.symm.trans h5) (by decide)) (fun g => g.2)
    refine lv_iconst (v := nI 1) S.1 S.2.1 dX1_bring_34 (by decide) ?_
    refine lv_goto (tgt := 39) S.1 S.2.1 dX1_bring_35 (by decide) ?_
    refine tw_cyi (n := 1) S w hA (kX1_bad l D cI cZ x ad _ _ (b := 1) (by omega)) (tw_gV wl_X1_71 wn_X1_bad ws_X1_bad wi_X1 wy_X1_bad) rfl rfl (by decide +kernel) ⟨Nat.le_of_ble_eq_true rfl, Nat.le_of_ble_eq_true rfl⟩ rfl hl.1 rfl (Nat.le_of_ble_eq_true rfl) dX1_bring_39 ⟨Nat.le_of_ble_eq_true rfl, Nat.le_of_ble_eq_true rfl⟩ (fun r u H locs hp w => ?_)
    obtain ⟨hr9, hu⟩ := hp
    subst hr9
    rw [hu] at w
    refine lv_if_eq (tgt := 46) S.1 S.2.1 dX1_bring_42 (by decide) (fun h42 => absurd h42 (by decide)) (fun h42 => ?_)
    exact tw_vretY S hr hlk0 w (Or.inl ⟨Or.inl hbad, rfl⟩) dX1_bring_45
  · obtain ⟨a, ha, rfl⟩ := hp.elim (fun g => g.2) (fun g => absurd g.1 h5)
    refine lv_iload_n S.1 S.2.1 dX1_bring_8 rfl (lv_at hl 3 rfl) ?_
    refine tw_cst (n := 1) S w.2.2.2 hA (kX1_isCopy l _ (v := b)) (tw_gS wl_X1_67 wt_X1_isCopy wi_X1 wy_X1_isCopy) rfl rfl (by decide +kernel) ⟨Nat.le_of_ble_eq_true rfl, Nat.le_of_ble_eq_true rfl⟩ rfl hl.1 rfl (Nat.le_of_ble_eq_true rfl) dX1_bring_9 ⟨Nat.le_of_ble_eq_true rfl, Nat.le_of_ble_eq_true rfl⟩ (fun r H locs hp hk z9 => ?_)
    have w := w.kept hk z9
    refine lv_if_eq (tgt := 34) S.1 S.2.1 dX1_bring_12 (by decide) (fun h12 => ?_) (fun h12 => ?_)
    · have hbad : tw_nc b := hp.elim (fun g => absurd (g.1.symm.trans h12) (by decide)) (fun g => g.2)
      refine lv_iconst (v := nI 1) S.1 S.2.1 dX1_bring_34 (by decide) ?_
      refine lv_goto (tgt := 39) S.1 S.2.1 dX1_bring_35 (by decide) ?_
      refine tw_cyi (n := 1) S w hA (kX1_bad l D cI cZ x ad _ _ (b := 1) (by omega)) (tw_gV wl_X1_71 wn_X1_bad ws_X1_bad wi_X1 wy_X1_bad) rfl rfl (by decide +kernel) ⟨Nat.le_of_ble_eq_true rfl, Nat.le_of_ble_eq_true rfl⟩ rfl hl.1 rfl (Nat.le_of_ble_eq_true rfl) dX1_bring_39 ⟨Nat.le_of_ble_eq_true rfl, Nat.le_of_ble_eq_true rfl⟩ (fun r u H locs hp w => ?_)
      obtain ⟨hr9, hu⟩ := hp
      subst hr9
      rw [hu] at w
      refine lv_if_eq (tgt := 46) S.1 S.2.1 dX1_bring_42 (by decide) (fun h42 => absurd h42 (by decide)) (fun h42 => ?_)
      exact tw_vretY S hr hlk0 w (Or.inl ⟨Or.inr (Or.inl hbad), rfl⟩) dX1_bring_45
    · obtain ⟨c, hc, rfl⟩ := hp.elim (fun g => g.2) (fun g => absurd g.1 h12)
      refine lv_iload_n S.1 S.2.1 dX1_bring_15 rfl (lv_at hl 1 rfl) ?_
      refine lv_iload_n S.1 S.2.1 dX1_bring_16 rfl (lv_at hl 3 rfl) ?_
      refine lv_icmp_eq (tgt := 34) S.1 S.2.1 dX1_bring_17 (by decide) (fun h17 => ?_) (fun h17 => ?_)
      · refine lv_iconst (v := nI 1) S.1 S.2.1 dX1_bring_34 (by decide) ?_
        refine lv_goto (tgt := 39) S.1 S.2.1 dX1_bring_35 (by decide) ?_
        refine tw_cyi (n := 1) S w hA (kX1_bad l D cI cZ x ad _ _ (b := 1) (by omega)) (tw_gV wl_X1_71 wn_X1_bad ws_X1_bad wi_X1 wy_X1_bad) rfl rfl (by decide +kernel) ⟨Nat.le_of_ble_eq_true rfl, Nat.le_of_ble_eq_true rfl⟩ rfl hl.1 rfl (Nat.le_of_ble_eq_true rfl) dX1_bring_39 ⟨Nat.le_of_ble_eq_true rfl, Nat.le_of_ble_eq_true rfl⟩ (fun r u H locs hp w => ?_)
        obtain ⟨hr9, hu⟩ := hp
        subst hr9
        rw [hu] at w
        refine lv_if_eq (tgt := 46) S.1 S.2.1 dX1_bring_42 (by decide) (fun h42 => absurd h42 (by decide)) (fun h42 => ?_)
        exact tw_vretY S hr hlk0 w (Or.inl ⟨Or.inr (Or.inr (Or.inl h17)), rfl⟩) dX1_bring_45
      · have hac : a ≠ c := fun g => h17 (by rw [g])
        refine lv_iload_n S.1 S.2.1 dX1_bring_20 rfl (lv_at hl 2 rfl) ?_
        refine lv_if_lt (tgt := 34) S.1 S.2.1 dX1_bring_21 (by decide) (fun h21 => ?_) (fun h21 => ?_)
        · refine lv_iconst (v := nI 1) S.1 S.2.1 dX1_bring_34 (by decide) ?_
          refine lv_goto (tgt := 39) S.1 S.2.1 dX1_bring_35 (by decide) ?_
          refine tw_cyi (n := 1) S w hA (kX1_bad l D cI cZ x ad _ _ (b := 1) (by omega)) (tw_gV wl_X1_71 wn_X1_bad ws_X1_bad wi_X1 wy_X1_bad) rfl rfl (by decide +kernel) ⟨Nat.le_of_ble_eq_true rfl, Nat.le_of_ble_eq_true rfl⟩ rfl hl.1 rfl (Nat.le_of_ble_eq_true rfl) dX1_bring_39 ⟨Nat.le_of_ble_eq_true rfl, Nat.le_of_ble_eq_true rfl⟩ (fun r u H locs hp w => ?_)
          obtain ⟨hr9, hu⟩ := hp
          subst hr9
          rw [hu] at w
          refine lv_if_eq (tgt := 46) S.1 S.2.1 dX1_bring_42 (by decide) (fun h42 => absurd h42 (by decide)) (fun h42 => ?_)
          exact tw_vretY S hr hlk0 w (Or.inl ⟨Or.inr (Or.inr (Or.inr ⟨a, ha, rfl, Or.inl h21⟩)), rfl⟩) dX1_bring_45
        · refine lv_iload_n S.1 S.2.1 dX1_bring_24 rfl (lv_at hl 2 rfl) ?_
          refine lv_aload_n S.1 S.2.1 dX1_bring_25 rfl (lv_at hl 0 rfl) ?_
          refine yyg_made S w dX1_bring_26 ?_
          refine lv_iload_n S.1 S.2.1 dX1_bring_29 rfl (lv_at hl 1 rfl) ?_
          refine yyl_9 S w (by omega) dX1_bring_30 ?_
          refine lv_icmp_lt (tgt := 38) S.1 S.2.1 dX1_bring_31 (by decide) (fun h31 => ?_) (fun h31 => ?_)
          · obtain ⟨k, hk1, hk2⟩ : ∃ k, k < st 9 a ∧ t = nI k := by
              obtain ⟨k, k1, rfl⟩ := nI_of h21
              exact ⟨k, (tw_lt k1 (by have := h9 a ha; omega)).mp h31, rfl⟩
            subst hk2
            have h400 := h9 a ha
            refine lv_iconst (v := nI 0) S.1 S.2.1 dX1_bring_38 (by decide) ?_
            refine tw_cyi (n := 1) S w hA (kX1_bad l D cI cZ x ad _ _ (b := 0) (by omega)) (tw_gV wl_X1_71 wn_X1_bad ws_X1_bad wi_X1 wy_X1_bad) rfl rfl (by decide +kernel) ⟨Nat.le_of_ble_eq_true rfl, Nat.le_of_ble_eq_true rfl⟩ rfl hl.1 rfl (Nat.le_of_ble_eq_true rfl) dX1_bring_39 ⟨Nat.le_of_ble_eq_true rfl, Nat.le_of_ble_eq_true rfl⟩ (fun r u H locs hp w => ?_)
            obtain ⟨hr9, hu⟩ := hp
            subst hr9
            rw [hu] at w
            refine lv_if_eq (tgt := 46) S.1 S.2.1 dX1_bring_42 (by decide) (fun h42 => ?_) (fun h42 => absurd (by decide) h42)
            refine lv_iload_n S.1 S.2.1 dX1_bring_46 rfl (lv_at hl 2 rfl) ?_
            refine lv_aload_n S.1 S.2.1 dX1_bring_47 rfl (lv_at hl 0 rfl) ?_
            refine yyg_has S w dX1_bring_48 ?_
            refine lv_iconst (v := nI 4) S.1 S.2.1 dX1_bring_51 (by decide) ?_
            refine lv_iload_n S.1 S.2.1 dX1_bring_52 rfl (lv_at hl 3 rfl) ?_
            refine lv_imul S.1 S.2.1 dX1_bring_53 ?_
            refine tw_t (pk_mul _ _) ?_
            refine lv_iload_n S.1 S.2.1 dX1_bring_54 rfl (lv_at hl 1 rfl) ?_
            refine lv_iadd S.1 S.2.1 dX1_bring_55 ?_
            refine tw_t (nI_add _ _) ?_
            refine yyl_10 S w (by omega) dX1_bring_56 ?_
            refine lv_icmp_ge (tgt := 61) S.1 S.2.1 dX1_bring_57 (by decide) (fun h57 => ?_) (fun h57 => ?_)
            · have hkc : ¬ k < st 10 (4 * c + a) := fun g => by
                have := (tw_le (hb10 _) (by omega)).mp h57
                have e : tw_up st 13 0 0 10 (4 * c + a) = st 10 (4 * c + a) := tw_up_k (by omega)
                omega
              have loop : ∀ (n : Nat) (j cd0 : Nat) (H : Heap) (locs : List Loc) (ls : Array Slot), 4 - j < n → j ≤ 4 → ((cd0 = 0 ∧ ∀ m, m < j → st 8 ((400 * a + k) * 4 + m) ≤ st 10 (4 * c + m)) ∨ (cd0 = 2 ∧ ∃ m, m < j ∧ m < 4 ∧ ¬ st 8 ((400 * a + k) * 4 + m) ≤ st 10 (4 * c + m))) → TWY D cI cZ x ad (tw_up st 13 0 cd0) A s.heap H locs s → lv_has ls 5 [(4, .int (nI j)), (0, .ref x), (1, .int (nI a)), (2, .int (nI k)), (3, .int (nI c))] → W p l e (headSpec wsX1_bring ({ frames := 3, cells := 0, slots := 0, locals := 80 })).room s m ([.ref x, .int (nI a), .int (nI k), .int (nI c)] : List Value).toArray below meth cd H locs 0 0 (MQ below (va_Qv (fun u => ((tw_nc (nI a) ∨ tw_nc (nI c) ∨ nI a = nI c ∨ ∃ a', a' < 4 ∧ nI a = nI a' ∧ (nI k < 0 ∨ nI (st 9 a') ≤ nI k)) ∧ u = tw_up st 13 0 1) ∨ ∃ a' c' k', a' < 4 ∧ nI a = nI a' ∧ c' < 4 ∧ nI c = nI c' ∧ a' ≠ c' ∧ k' < st 9 a' ∧ nI k = nI k' ∧ ((k' < st 10 (4 * c' + a') ∧ u = tw_up st 13 0 0) ∨ (¬ k' < st 10 (4 * c' + a') ∧ ((¬ (∀ m, m < 4 → st 8 ((400 * a' + k') * 4 + m) ≤ st 10 (4 * c' + m)) ∧ u = tw_up st 13 0 2) ∨ ((∀ m, m < 4 → st 8 ((400 * a' + k') * 4 + m) ≤ st 10 (4 * c' + m)) ∧ u = tw_up (tw_up (tw_up st 13 0 0) 10 (4 * c' + a') (k' + 1)) 13 2 0))))) (tw_YT D cI cZ x ad A) A) ([.ref x, .int (nI a), .int (nI k), .int (nI c)] : List Value).toArray s 0 0 A) (F0 m 64 ls []) := by
                intro n
                induction n with
                | zero => intros; omega
                | succ n ih =>
                  intro j cd0 H locs ls hm hj hcd w hl
                  refine lv_iload S.1 S.2.1 dX1_bring_64 (lv_at hl 0 rfl) ?_
                  refine lv_iconst (v := nI 4) S.1 S.2.1 dX1_bring_66 (by decide) ?_
                  refine lv_icmp_ge (tgt := 112) S.1 S.2.1 dX1_bring_67 (by decide) (fun h67 => ?_) (fun h67 => ?_)
                  · have hj4 : j = 4 := by have := (tw_le (by omega) (by omega)).mp h67; omega
                    subst hj4
                    refine lv_aload_n S.1 S.2.1 dX1_bring_112 rfl (lv_at hl 1 rfl) ?_
                    refine yyg_thrown S w dX1_bring_113 ?_
                    refine tw_t (show _ = nI cd0 from by rw [tw_up_e]) ?_
                    refine lv_if_eq (tgt := 120) S.1 S.2.1 dX1_bring_116 (by decide) (fun h116 => ?_) (fun h116 => ?_)
                    · have hc0 : cd0 = 0 := (tw_eq (by omega) (by omega)).mp h116
                      have hall := hcd.elim (fun g => g.2) (fun g => absurd g.1 (by omega))
                      subst hc0
                      refine lv_aload_n S.1 S.2.1 dX1_bring_120 rfl (lv_at hl 1 rfl) ?_
                      refine yyg_has S w dX1_bring_121 ?_
                      refine lv_iconst (v := nI 4) S.1 S.2.1 dX1_bring_124 (by decide) ?_
                      refine lv_iload_n S.1 S.2.1 dX1_bring_125 rfl (lv_at hl 4 rfl) ?_
                      refine lv_imul S.1 S.2.1 dX1_bring_126 ?_
                      refine tw_t (pk_mul _ _) ?_
                      refine lv_iload_n S.1 S.2.1 dX1_bring_127 rfl (lv_at hl 2 rfl) ?_
                      refine lv_iadd S.1 S.2.1 dX1_bring_128 ?_
                      refine tw_t (nI_add _ _) ?_
                      refine lv_iload_n S.1 S.2.1 dX1_bring_129 rfl (lv_at hl 3 rfl) ?_
                      refine lv_iconst (v := nI 1) S.1 S.2.1 dX1_bring_130 (by decide) ?_
                      refine lv_iadd S.1 S.2.1 dX1_bring_131 ?_
                      refine tw_t (nI_add _ _) ?_
                      refine yys_10 S w (by omega)  dX1_bring_132 (fun H locs w => ?_)
                      refine lv_aload_n S.1 S.2.1 dX1_bring_133 rfl (lv_at hl 1 rfl) ?_
                      refine lv_iconst (v := nI 0 - 1) S.1 S.2.1 dX1_bring_134 (by decide) ?_
                      refine yyp_orderOf S w dX1_bring_135 (fun H locs w => ?_)
                      exact tw_vretY S hr hlk0 w (Or.inr ⟨a, c, k, ha, rfl, hc, rfl, hac, hk1, rfl, Or.inr ⟨hkc, Or.inr ⟨hall, rfl⟩⟩⟩) dX1_bring_138
                    · have hc0 : cd0 ≠ 0 := fun g => h116 (by rw [g]; decide)
                      have hex := hcd.elim (fun g => absurd g.1 hc0) id
                      rw [hex.1] at w
                      exact tw_vretY S hr hlk0 w (Or.inr ⟨a, c, k, ha, rfl, hc, rfl, hac, hk1, rfl, Or.inr ⟨hkc, Or.inl ⟨fun g => by obtain ⟨m, m1, m2, m3⟩ := hex.2; exact m3 (g m m2), rfl⟩⟩⟩) dX1_bring_119
                  · have hj4 : j < 4 := Nat.not_le.mp (fun g => h67 ((tw_le (by omega) (by omega)).mpr g))
                    refine lv_aload_n S.1 S.2.1 dX1_bring_70 rfl (lv_at hl 1 rfl) ?_
                    refine yyg_had S w dX1_bring_71 ?_
                    refine lv_sipush (v := nI 400) S.1 S.2.1 dX1_bring_74 (by decide) ?_
                    refine lv_iload_n S.1 S.2.1 dX1_bring_77 rfl (lv_at hl 2 rfl) ?_
                    refine lv_imul S.1 S.2.1 dX1_bring_78 ?_
                    refine tw_t (pk_mul _ _) ?_
                    refine lv_iload_n S.1 S.2.1 dX1_bring_79 rfl (lv_at hl 3 rfl) ?_
                    refine lv_iadd S.1 S.2.1 dX1_bring_80 ?_
                    refine tw_t (nI_add _ _) ?_
                    refine lv_iconst (v := nI 4) S.1 S.2.1 dX1_bring_81 (by decide) ?_
                    refine lv_imul S.1 S.2.1 dX1_bring_82 ?_
                    refine tw_t (pk_mul _ _) ?_
                    refine lv_iload S.1 S.2.1 dX1_bring_83 (lv_at hl 0 rfl) ?_
                    refine lv_iadd S.1 S.2.1 dX1_bring_85 ?_
                    refine tw_t (nI_add _ _) ?_
                    refine yyl_8 S w (by omega) dX1_bring_86 ?_
                    refine tw_t (show _ = nI (st 8 ((400 * a + k) * 4 + j)) from by rw [tw_up_k (by omega)]) ?_
                    refine lv_aload_n S.1 S.2.1 dX1_bring_87 rfl (lv_at hl 1 rfl) ?_
                    refine yyg_has S w dX1_bring_88 ?_
                    refine lv_iconst (v := nI 4) S.1 S.2.1 dX1_bring_91 (by decide) ?_
                    refine lv_iload_n S.1 S.2.1 dX1_bring_92 rfl (lv_at hl 4 rfl) ?_
                    refine lv_imul S.1 S.2.1 dX1_bring_93 ?_
                    refine tw_t (pk_mul _ _) ?_
                    refine lv_iload S.1 S.2.1 dX1_bring_94 (lv_at hl 0 rfl) ?_
                    refine lv_iadd S.1 S.2.1 dX1_bring_96 ?_
                    refine tw_t (nI_add _ _) ?_
                    refine yyl_10 S w (by omega) dX1_bring_97 ?_
                    refine tw_t (show _ = nI (st 10 (4 * c + j)) from by rw [tw_up_k (by omega)]) ?_
                    refine lv_icmp_le (tgt := 106) S.1 S.2.1 dX1_bring_98 (by decide) (fun h98 => ?_) (fun h98 => ?_)
                    · have hle : st 8 ((400 * a + k) * 4 + j) ≤ st 10 (4 * c + j) := (tw_le (hb8 _) (hb10 _)).mp h98
                      refine lv_iinc S.1 S.2.1 dX1_bring_106 hl (k := 0) rfl (tw_inc _) (by decide) rfl (fun ls hl => ?_)
                      refine lv_goto (tgt := 64) S.1 S.2.1 dX1_bring_109 (by decide) ?_
                      exact ih (j + 1) cd0 H locs ls (by omega) (by omega) (hcd.elim (fun g => Or.inl ⟨g.1, fun m hm => by rcases Nat.lt_or_ge m j with z | z; exact g.2 m z; rw [show m = j by omega]; exact hle⟩) (fun g => Or.inr ⟨g.1, by obtain ⟨m, m1, m2⟩ := g.2; exact ⟨m, by omega, m2⟩⟩)) w (lv_sub hl [0, 1, 2, 3, 4] rfl)
                    · have hle : ¬ st 8 ((400 * a + k) * 4 + j) ≤ st 10 (4 * c + j) := fun g => h98 ((tw_le (hb8 _) (hb10 _)).mpr g)
                      refine lv_aload_n S.1 S.2.1 dX1_bring_101 rfl (lv_at hl 1 rfl) ?_
                      refine lv_iconst (v := nI 2) S.1 S.2.1 dX1_bring_102 (by decide) ?_
                      refine yyp_thrown S w dX1_bring_103 (fun H locs w => ?_)
                      rw [tw_up_up] at w
                      refine lv_iinc S.1 S.2.1 dX1_bring_106 hl (k := 0) rfl (tw_inc _) (by decide) rfl (fun ls hl => ?_)
                      refine lv_goto (tgt := 64) S.1 S.2.1 dX1_bring_109 (by decide) ?_
                      exact ih (j + 1) 2 H locs ls (by omega) (by omega) (Or.inr ⟨rfl, j, by omega, hj4, hle⟩) w (lv_sub hl [0, 1, 2, 3, 4] rfl)
              refine lv_iconst (v := nI 0) S.1 S.2.1 dX1_bring_61 (by decide) ?_
              refine lv_istore S.1 S.2.1 dX1_bring_62 hl (by decide) rfl (fun ls hl => ?_)
              exact loop 5 0 0 H locs ls (by omega) (by omega) (Or.inl ⟨rfl, fun m hm => by omega⟩) w (lv_sub hl [0, 1, 2, 3, 4] rfl)
            · have hkc : k < st 10 (4 * c + a) := Nat.not_le.mp (fun g => h57 ((tw_le (hb10 _) (by omega)).mpr g))
              exact tw_vretY S hr hlk0 w (Or.inr ⟨a, c, k, ha, rfl, hc, rfl, hac, hk1, rfl, Or.inl ⟨hkc, rfl⟩⟩) dX1_bring_60
          · refine lv_iconst (v := nI 1) S.1 S.2.1 dX1_bring_34 (by decide) ?_
            refine lv_goto (tgt := 39) S.1 S.2.1 dX1_bring_35 (by decide) ?_
            refine tw_cyi (n := 1) S w hA (kX1_bad l D cI cZ x ad _ _ (b := 1) (by omega)) (tw_gV wl_X1_71 wn_X1_bad ws_X1_bad wi_X1 wy_X1_bad) rfl rfl (by decide +kernel) ⟨Nat.le_of_ble_eq_true rfl, Nat.le_of_ble_eq_true rfl⟩ rfl hl.1 rfl (Nat.le_of_ble_eq_true rfl) dX1_bring_39 ⟨Nat.le_of_ble_eq_true rfl, Nat.le_of_ble_eq_true rfl⟩ (fun r u H locs hp w => ?_)
            obtain ⟨hr9, hu⟩ := hp
            subst hr9
            rw [hu] at w
            refine lv_if_eq (tgt := 46) S.1 S.2.1 dX1_bring_42 (by decide) (fun h42 => absurd h42 (by decide)) (fun h42 => ?_)
            exact tw_vretY S hr hlk0 w (Or.inl ⟨Or.inr (Or.inr (Or.inr ⟨a, ha, rfl, Or.inr (Int32.not_lt.mp h31)⟩)), rfl⟩) dX1_bring_45
theorem tw_gt0 {p q : Nat} (hp : p < 1000000) (hq : q < 1000000) : 0 < nI p - nI q ↔ q < p := by
  have h1 := pk_sub_toInt (a := p) (b := q) (by omega) (by omega)
  have h0 : (0 : Int32).toInt = 0 := by decide
  constructor
  · intro h
    have := Int32.lt_iff_toInt_lt.mp h
    omega
  · intro h
    exact Int32.lt_iff_toInt_lt.mpr (by omega)
/-- row b of 'has' up to m is the greater of the two; n is what is new -/
def tw_mm (st sm : Nat → Nat → Nat) (a b m n : Nat) : Prop :=
  (∀ j, j < 4 → sm 10 (4 * b + j) = if j < m then max (st 10 (4 * b + j)) (st 10 (4 * a + j)) else st 10 (4 * b + j)) ∧ (∀ y, (∀ j, j < 4 → y ≠ 4 * b + j) → sm 10 y = st 10 y) ∧ (∀ k y, k ≠ 10 → sm k y = tw_up st 13 0 0 k y) ∧
  n + st 10 (4 * b + 0) + st 10 (4 * b + 1) + st 10 (4 * b + 2) + st 10 (4 * b + 3) = sm 10 (4 * b + 0) + sm 10 (4 * b + 1) + sm 10 (4 * b + 2) + sm 10 (4 * b + 3)
theorem tw_mm_a {st sm : Nat → Nat → Nat} {a b m n : Nat} (h : tw_mm st sm a b m n) (hm : m < 4) (ha : a < 4) (hb : b < 4) : sm 10 (4 * a + m) = st 10 (4 * a + m) := by
  by_cases e : a = b
  · rw [e, h.1 m hm, if_neg (by omega)]
  · exact h.2.1 _ (fun j hj => by omega)
theorem tw_mm_no {st sm : Nat → Nat → Nat} {a b m n : Nat} (h : tw_mm st sm a b m n) (hm : m < 4) (hle : st 10 (4 * a + m) ≤ st 10 (4 * b + m)) : tw_mm st sm a b (m + 1) n := by
  obtain ⟨h1, h2, h3, h4⟩ := h
  refine ⟨fun j hj => ?_, h2, h3, h4⟩
  rw [h1 j hj]
  by_cases e : j = m
  · rw [e, if_neg (by omega), if_pos (by omega)]; omega
  · by_cases g : j < m
    · rw [if_pos g, if_pos (by omega)]
    · rw [if_neg g, if_neg (by omega)]
theorem tw_mm_yes {st sm : Nat → Nat → Nat} {a b m n : Nat} (h : tw_mm st sm a b m n) (hm : m < 4) (hlt : st 10 (4 * b + m) < st 10 (4 * a + m)) : tw_mm st (tw_up sm 10 (4 * b + m) (st 10 (4 * b + m) + (st 10 (4 * a + m) - st 10 (4 * b + m)))) a b (m + 1) (n + (st 10 (4 * a + m) - st 10 (4 * b + m))) := by
  obtain ⟨h1, h2, h3, h4⟩ := h
  have r : ∀ j, j < 4 → tw_up sm 10 (4 * b + m) (st 10 (4 * b + m) + (st 10 (4 * a + m) - st 10 (4 * b + m))) 10 (4 * b + j) = if j < m + 1 then max (st 10 (4 * b + j)) (st 10 (4 * a + j)) else st 10 (4 * b + j) := by
    intro j hj
    by_cases e : j = m
    · rw [e, tw_up_e, if_pos (by omega)]; omega
    · rw [tw_up_i (by omega), h1 j hj]
      by_cases g : j < m
      · rw [if_pos g, if_pos (by omega)]
      · rw [if_neg g, if_neg (by omega)]
  refine ⟨r, fun y hy => by rw [tw_up_i (hy m hm)]; exact h2 y hy, fun k y hk => by rw [tw_up_k hk]; exact h3 k y hk, ?_⟩
  have q : ∀ j, j < 4 → tw_up sm 10 (4 * b + m) (st 10 (4 * b + m) + (st 10 (4 * a + m) - st 10 (4 * b + m))) 10 (4 * b + j) = if j = m then st 10 (4 * a + m) else sm 10 (4 * b + j) := by
    intro j hj
    by_cases e : j = m
    · rw [e, tw_up_e, if_pos rfl]; omega
    · rw [tw_up_i (by omega), if_neg e]
  have hmm := h1 m hm
  rw [if_neg (by omega)] at hmm
  rw [q 0 (by omega), q 1 (by omega), q 2 (by omega), q 3 (by omega)]
  rcases (show m = 0 ∨ m = 1 ∨ m = 2 ∨ m = 3 by omega) with rfl | rfl | rfl | rfl <;> simp at hmm h4 hlt ⊢ <;> omega
set_option maxHeartbeats 4000000 in
set_option maxRecDepth 100000 in
/-- merge(from, to) -/
theorem kX1_merge (l : Launch) (D : va_G) (cI cZ : ClassId) (x : Nat) (ad : Nat → Nat) (st : Nat → Nat → Nat) (sz : Nat) {v t : Int32} (hb10 : ∀ a m, a < 4 → m < 4 → st 10 (4 * a + m) ≤ 400) : Met l yX1_merge wsX1_merge ({ frames := 3, cells := 0, slots := 0, locals := 80 }) (va_Pc [.ref x, .int v, .int t] (fun U => U.heap.size = sz ∧ tw_YU D cI cZ x ad st U)) (va_Qi (fun r u => ((tw_nc v ∨ tw_nc t) ∧ u = tw_up st 13 0 1) ∨ ∃ a b k, a < 4 ∧ v = nI a ∧ b < 4 ∧ t = nI b ∧ r = nI k ∧ ∃ sm, tw_mm st sm a b 4 k ∧ u = tw_up sm 13 2 0) (tw_YT D cI cZ x ad (va_A (tw_y cI cZ x ad st) sz)) (va_A (tw_y cI cZ x ad st) sz)) 0 0 (va_A (tw_y cI cZ x ad st) sz) := by
  refine Met.ofW (cc := cX1_merge) (maxL := 6) (ret := (some .int)) (by decide) rfl ?_
  intro p e s m args below meth cd s₁ B hml hv
  obtain ⟨rfl, hsz, hU⟩ := hv
  subst hsz
  have S : CallFix p m cd cX1_merge 6 s ([.ref x, .int v, .int t] : List Value).toArray tw_wall RX1 := ⟨B.exec, B.bytes, hml, findClass_of_methodNamed B.named, fun w h => atoms_spec (ws := wsX1_merge) B.pre w (List.mem_cons_of_mem _ h)⟩
  have hr := B.returns
  have hlk0 := B.notSynchronized
  have z : va_S (fun q => s.heap.size ≤ q) s.heap s.heap [] := va_S.rf
  have w := tw_Y0 hU
  have hA : ∀ q : Nat, s.heap.size ≤ q → va_A (tw_y cI cZ x ad st) s.heap.size q := fun q h => Or.inr h
  generalize va_A (tw_y cI cZ x ad st) s.heap.size = A at w hA ⊢
  have hl := lv_entry ([.ref x, .int v, .int t]) (n := 6) (Nat.le_of_ble_eq_true rfl)
  rw [lg_entry_eq]
  generalize (lg_sl ([.ref x, .int v, .int t]) ++ List.replicate (6 - (lg_sl ([.ref x, .int v, .int t])).length) Slot.unset).toArray = ls at hl ⊢
  have hl : lv_has ls 6 [(0, .ref x), (1, .int v), (2, .int t)] := hl
  refine lv_aload_n S.1 S.2.1 dX1_merge_0 rfl (lv_at hl 0 rfl) ?_
  refine lv_iload_n S.1 S.2.1 dX1_merge_1 rfl (lv_at hl 1 rfl) ?_
  refine tw_cst (n := 1) S w.2.2.2 hA (kX1_isCopy l _ (v := v)) (tw_gS wl_X1_67 wt_X1_isCopy wi_X1 wy_X1_isCopy) rfl rfl (by decide +kernel) ⟨Nat.le_of_ble_eq_true rfl, Nat.le_of_ble_eq_true rfl⟩ rfl hl.1 rfl (Nat.le_of_ble_eq_true rfl) dX1_merge_2 ⟨Nat.le_of_ble_eq_true rfl, Nat.le_of_ble_eq_true rfl⟩ (fun r H locs hp hk z9 => ?_)
  have w := w.kept hk z9
  refine lv_if_eq (tgt := 15) S.1 S.2.1 dX1_merge_5 (by decide) (fun h5 => ?_) (fun h5 => ?_)
  · have hbad : tw_nc v := hp.elim (fun g => absurd (g.1.symm.trans h5) (by decide)) (fun g => g.2)
    refine lv_iconst (v := nI 1) S.1 S.2.1 dX1_merge_15 (by decide) ?_
    refine lv_goto (tgt := 20) S.1 S.2.1 dX1_merge_16 (by decide) ?_
    refine tw_cyi (n := 1) S w hA (kX1_bad l D cI cZ x ad _ _ (b := 1) (by omega)) (tw_gV wl_X1_71 wn_X1_bad ws_X1_bad wi_X1 wy_X1_bad) rfl rfl (by decide +kernel) ⟨Nat.le_of_ble_eq_true rfl, Nat.le_of_ble_eq_true rfl⟩ rfl hl.1 rfl (Nat.le_of_ble_eq_true rfl) dX1_merge_20 ⟨Nat.le_of_ble_eq_true rfl, Nat.le_of_ble_eq_true rfl⟩ (fun r u H locs hp w => ?_)
    obtain ⟨hr9, hu⟩ := hp
    subst hr9
    rw [hu] at w
    refine lv_if_eq (tgt := 28) S.1 S.2.1 dX1_merge_23 (by decide) (fun h23 => absurd h23 (by decide)) (fun h23 => ?_)
    refine lv_iconst (v := nI 0) S.1 S.2.1 dX1_merge_26 (by decide) ?_
    first
      | exact tw_iretY S hr hlk0 w (Or.inl ⟨Or.inl hbad, rfl⟩) dX1_merge_27
      | exact tw_iretY S hr hlk0 w (Or.inl ⟨Or.inr hbad, rfl⟩) dX1_merge_27
  · obtain ⟨a, ha, rfl⟩ := hp.elim (fun g => g.2) (fun g => absurd g.1 h5)
    refine lv_iload_n S.1 S.2.1 dX1_merge_8 rfl (lv_at hl 2 rfl) ?_
    refine tw_cst (n := 1) S w.2.2.2 hA (kX1_isCopy l _ (v := t)) (tw_gS wl_X1_67 wt_X1_isCopy wi_X1 wy_X1_isCopy) rfl rfl (by decide +kernel) ⟨Nat.le_of_ble_eq_true rfl, Nat.le_of_ble_eq_true rfl⟩ rfl hl.1 rfl (Nat.le_of_ble_eq_true rfl) dX1_merge_9 ⟨Nat.le_of_ble_eq_true rfl, Nat.le_of_ble_eq_true rfl⟩ (fun r H locs hp hk z9 => ?_)
    have w := w.kept hk z9
    refine lv_if_ne (tgt := 19) S.1 S.2.1 dX1_merge_12 (by decide) (fun h12 => ?_) (fun h12 => ?_)
    · obtain ⟨b, hb, rfl⟩ := hp.elim (fun g => g.2) (fun g => absurd g.1 h12)
      refine lv_iconst (v := nI 0) S.1 S.2.1 dX1_merge_19 (by decide) ?_
      refine tw_cyi (n := 1) S w hA (kX1_bad l D cI cZ x ad _ _ (b := 0) (by omega)) (tw_gV wl_X1_71 wn_X1_bad ws_X1_bad wi_X1 wy_X1_bad) rfl rfl (by decide +kernel) ⟨Nat.le_of_ble_eq_true rfl, Nat.le_of_ble_eq_true rfl⟩ rfl hl.1 rfl (Nat.le_of_ble_eq_true rfl) dX1_merge_20 ⟨Nat.le_of_ble_eq_true rfl, Nat.le_of_ble_eq_true rfl⟩ (fun r u H locs hp w => ?_)
      obtain ⟨hr9, hu⟩ := hp
      subst hr9
      rw [hu] at w
      refine lv_if_eq (tgt := 28) S.1 S.2.1 dX1_merge_23 (by decide) (fun h23 => ?_) (fun h23 => absurd (by decide) h23)
      have loop : ∀ (n : Nat) (m9 k : Nat) (sm : Nat → Nat → Nat) (H : Heap) (locs : List Loc) (ls : Array Slot), 4 - m9 < n → m9 ≤ 4 → tw_mm st sm a b m9 k → TWY D cI cZ x ad sm A s.heap H locs s → lv_has ls 6 [(4, .int (nI m9)), (3, .int (nI k)), (0, .ref x), (1, .int (nI a)), (2, .int (nI b))] → W p l e (headSpec wsX1_merge ({ frames := 3, cells := 0, slots := 0, locals := 80 })).room s m ([.ref x, .int (nI a), .int (nI b)] : List Value).toArray below meth cd H locs 0 0 (MQ below (va_Qi (fun r u => ((tw_nc (nI a) ∨ tw_nc (nI b)) ∧ u = tw_up st 13 0 1) ∨ ∃ a' b' k, a' < 4 ∧ nI a = nI a' ∧ b' < 4 ∧ nI b = nI b' ∧ r = nI k ∧ ∃ sm, tw_mm st sm a' b' 4 k ∧ u = tw_up sm 13 2 0) (tw_YT D cI cZ x ad A) A) ([.ref x, .int (nI a), .int (nI b)] : List Value).toArray s 0 0 A) (F0 m 33 ls []) := by
        intro n
        induction n with
        | zero => intros; omega
        | succ n ih =>
          intro m9 k sm H locs ls hm hj hg w hl
          refine lv_iload S.1 S.2.1 dX1_merge_33 (lv_at hl 0 rfl) ?_
          refine lv_iconst (v := nI 4) S.1 S.2.1 dX1_merge_35 (by decide) ?_
          refine lv_icmp_ge (tgt := 99) S.1 S.2.1 dX1_merge_36 (by decide) (fun h36 => ?_) (fun h36 => ?_)
          · have hm4 : m9 = 4 := by have := (tw_le (by omega) (by omega)).mp h36; omega
            subst hm4
            refine lv_aload_n S.1 S.2.1 dX1_merge_99 rfl (lv_at hl 2 rfl) ?_
            refine lv_iconst (v := nI 0 - 1) S.1 S.2.1 dX1_merge_100 (by decide) ?_
            refine yyp_orderOf S w dX1_merge_101 (fun H locs w => ?_)
            refine lv_iload_n S.1 S.2.1 dX1_merge_104 rfl (lv_at hl 1 rfl) ?_
            exact tw_iretY S hr hlk0 w (Or.inr ⟨a, b, k, ha, rfl, hb, rfl, rfl, _, hg, rfl⟩) dX1_merge_105
          · have hm4 : m9 < 4 := Nat.not_le.mp (fun g => h36 ((tw_le (by omega) (by omega)).mpr g))
            have ba := hb10 a m9 ha hm4
            have bb := hb10 b m9 hb hm4
            have eb := hg.1 m9 hm4
            rw [if_neg (by omega)] at eb
            refine lv_aload_n S.1 S.2.1 dX1_merge_39 rfl (lv_at hl 2 rfl) ?_
            refine yyg_has S w dX1_merge_40 ?_
            refine lv_iconst (v := nI 4) S.1 S.2.1 dX1_merge_43 (by decide) ?_
            refine lv_iload_n S.1 S.2.1 dX1_merge_44 rfl (lv_at hl 3 rfl) ?_
            refine lv_imul S.1 S.2.1 dX1_merge_45 ?_
            refine tw_t (pk_mul _ _) ?_
            refine lv_iload S.1 S.2.1 dX1_merge_46 (lv_at hl 0 rfl) ?_
            refine lv_iadd S.1 S.2.1 dX1_merge_48 ?_
            refine tw_t (nI_add _ _) ?_
            refine yyl_10 S w (by omega) dX1_merge_49 ?_
            refine tw_t (show _ = nI (st 10 (4 * a + m9)) from by rw [tw_mm_a hg hm4 ha hb]) ?_
            refine lv_aload_n S.1 S.2.1 dX1_merge_50 rfl (lv_at hl 2 rfl) ?_
            refine yyg_has S w dX1_merge_51 ?_
            refine lv_iconst (v := nI 4) S.1 S.2.1 dX1_merge_54 (by decide) ?_
            refine lv_iload_n S.1 S.2.1 dX1_merge_55 rfl (lv_at hl 4 rfl) ?_
            refine lv_imul S.1 S.2.1 dX1_merge_56 ?_
            refine tw_t (pk_mul _ _) ?_
            refine lv_iload S.1 S.2.1 dX1_merge_57 (lv_at hl 0 rfl) ?_
            refine lv_iadd S.1 S.2.1 dX1_merge_59 ?_
            refine tw_t (nI_add _ _) ?_
            refine yyl_10 S w (by omega) dX1_merge_60 ?_
            refine tw_t (show _ = nI (st 10 (4 * b + m9)) from by rw [eb]) ?_
            refine lv_isub S.1 S.2.1 dX1_merge_61 ?_
            refine lv_istore S.1 S.2.1 dX1_merge_62 hl (by decide) rfl (fun ls hl => ?_)
            refine lv_iload S.1 S.2.1 dX1_merge_64 (lv_at hl 0 rfl) ?_
            refine lv_if_gt (tgt := 72) S.1 S.2.1 dX1_merge_66 (by decide) (fun h66 => ?_) (fun h66 => ?_)
            · have hlt := (tw_gt0 (by omega) (by omega)).mp h66
              refine lv_iload_n S.1 S.2.1 dX1_merge_72 rfl (lv_at hl 2 rfl) ?_
              refine lv_iload S.1 S.2.1 dX1_merge_73 (lv_at hl 0 rfl) ?_
              refine tw_t (pk_sub (Nat.le_of_lt hlt)) ?_
              refine lv_iadd S.1 S.2.1 dX1_merge_75 ?_
              refine tw_t (nI_add _ _) ?_
              refine lv_istore_n S.1 S.2.1 dX1_merge_76 rfl hl (by decide) rfl (fun ls hl => ?_)
              refine lv_aload_n S.1 S.2.1 dX1_merge_77 rfl (lv_at hl 3 rfl) ?_
              refine yyg_has S w dX1_merge_78 ?_
              refine lv_iconst (v := nI 4) S.1 S.2.1 dX1_merge_81 (by decide) ?_
              refine lv_iload_n S.1 S.2.1 dX1_merge_82 rfl (lv_at hl 5 rfl) ?_
              refine lv_imul S.1 S.2.1 dX1_merge_83 ?_
              refine tw_t (pk_mul _ _) ?_
              refine lv_iload S.1 S.2.1 dX1_merge_84 (lv_at hl 2 rfl) ?_
              refine lv_iadd S.1 S.2.1 dX1_merge_86 ?_
              refine tw_t (nI_add _ _) ?_
              refine lv_dup2_11 S.1 S.2.1 dX1_merge_87 rfl rfl ?_
              refine yyl_10 S w (by omega) dX1_merge_88 ?_
              refine tw_t (show _ = nI (st 10 (4 * b + m9)) from by rw [eb]) ?_
              refine lv_iload S.1 S.2.1 dX1_merge_89 (lv_at hl 1 rfl) ?_
              refine tw_t (pk_sub (Nat.le_of_lt hlt)) ?_
              refine lv_iadd S.1 S.2.1 dX1_merge_91 ?_
              refine tw_t (nI_add _ _) ?_
              refine yys_10 S w (by omega)  dX1_merge_92 (fun H locs w => ?_)
              refine lv_iinc S.1 S.2.1 dX1_merge_93 hl (k := 2) rfl (tw_inc _) (by decide) rfl (fun ls hl => ?_)
              refine lv_goto (tgt := 33) S.1 S.2.1 dX1_merge_96 (by decide) ?_
              exact ih (m9 + 1) _ _ H locs ls (by omega) (by omega) (tw_mm_yes hg hm4 hlt) w (lv_sub hl [0, 1, 3, 4, 5] rfl)
            · have hle : st 10 (4 * a + m9) ≤ st 10 (4 * b + m9) := Nat.not_lt.mp (fun g => h66 ((tw_gt0 (by omega) (by omega)).mpr g))
              refine lv_goto (tgt := 93) S.1 S.2.1 dX1_merge_69 (by decide) ?_
              refine lv_iinc S.1 S.2.1 dX1_merge_93 hl (k := 1) rfl (tw_inc _) (by decide) rfl (fun ls hl => ?_)
              refine lv_goto (tgt := 33) S.1 S.2.1 dX1_merge_96 (by decide) ?_
              exact ih (m9 + 1) _ _ H locs ls (by omega) (by omega) (tw_mm_no hg hm4 hle) w (lv_sub hl [0, 2, 3, 4, 5] rfl)
      refine lv_iconst (v := nI 0) S.1 S.2.1 dX1_merge_28 (by decide) ?_
      refine lv_istore_n S.1 S.2.1 dX1_merge_29 rfl hl (by decide) rfl (fun ls hl => ?_)
      refine lv_iconst (v := nI 0) S.1 S.2.1 dX1_merge_30 (by decide) ?_
      refine lv_istore S.1 S.2.1 dX1_merge_31 hl (by decide) rfl (fun ls hl => ?_)
      exact loop 5 0 0 (tw_up st 13 0 0) H locs ls (by omega) (by omega) ⟨fun j hj => by rw [if_neg (by omega)]; rfl, fun _ _ => rfl, fun _ _ _ => rfl, by rw [tw_up_k (by omega), tw_up_k (by omega), tw_up_k (by omega), tw_up_k (by omega)]; omega⟩ w (lv_sub hl [0, 1, 2, 3, 4] rfl)
    · have hbad : tw_nc t := hp.elim (fun g => absurd (g.1.symm.trans h12) (by decide)) (fun g => g.2)
      refine lv_iconst (v := nI 1) S.1 S.2.1 dX1_merge_15 (by decide) ?_
      refine lv_goto (tgt := 20) S.1 S.2.1 dX1_merge_16 (by decide) ?_
      refine tw_cyi (n := 1) S w hA (kX1_bad l D cI cZ x ad _ _ (b := 1) (by omega)) (tw_gV wl_X1_71 wn_X1_bad ws_X1_bad wi_X1 wy_X1_bad) rfl rfl (by decide +kernel) ⟨Nat.le_of_ble_eq_true rfl, Nat.le_of_ble_eq_true rfl⟩ rfl hl.1 rfl (Nat.le_of_ble_eq_true rfl) dX1_merge_20 ⟨Nat.le_of_ble_eq_true rfl, Nat.le_of_ble_eq_true rfl⟩ (fun r u H locs hp w => ?_)
      obtain ⟨hr9, hu⟩ := hp
      subst hr9
      rw [hu] at w
      refine lv_if_eq (tgt := 28) S.1 S.2.1 dX1_merge_23 (by decide) (fun h23 => absurd h23 (by decide)) (fun h23 => ?_)
      refine lv_iconst (v := nI 0) S.1 S.2.1 dX1_merge_26 (by decide) ?_
      first
        | exact tw_iretY S hr hlk0 w (Or.inl ⟨Or.inl hbad, rfl⟩) dX1_merge_27
        | exact tw_iretY S hr hlk0 w (Or.inl ⟨Or.inr hbad, rfl⟩) dX1_merge_27
end
section
/-! the reference's insert: its states, and what comes out -/
def tw_In (st : Nat → Nat → Nat) (a k : Nat) : Prop := st 2 k < st 10 (4 * a + st 1 k)
def tw_most (st : Nat → Nat → Nat) (a j mo : Nat) : Prop := (∀ k, 1 ≤ k → k < j → tw_In st a k → st 0 k ≤ mo) ∧ (mo = 0 ∨ ∃ k, 1 ≤ k ∧ k < j ∧ tw_In st a k ∧ st 0 k = mo)
def tw_i5 (s : Nat → Nat → Nat) (L mo a m d : Nat) : Nat → Nat → Nat := tw_up (tw_up (tw_up (tw_up (tw_up s 13 1 (L + 1)) 0 L (mo + 1)) 1 L a) 2 L m) 3 L d
def tw_i6 (s : Nat → Nat → Nat) (L mo a m d beh : Nat) : Nat → Nat → Nat := tw_up (tw_i5 s L mo a m d) 6 L beh
def tw_i8 (s : Nat → Nat → Nat) (L mo a m d beh sb last : Nat) : Nat → Nat → Nat := if last = 0 then tw_up (tw_up (tw_i6 s L mo a m d beh) 5 L sb) 4 beh L else tw_up (tw_up (tw_i6 s L mo a m d beh) 5 L sb) 5 last L
theorem tw_i5_o {s : Nat → Nat → Nat} {L mo a m d k y : Nat} (h : 3 < k) (h2 : k ≠ 13 ∨ y ≠ 1) : tw_i5 s L mo a m d k y = s k y := by
  unfold tw_i5
  rw [tw_up_k (by omega), tw_up_k (by omega), tw_up_k (by omega), tw_up_k (by omega)]
  by_cases g : k = 13
  · exact tw_up_i (by omega)
  · exact tw_up_k g
theorem tw_i5_y {s : Nat → Nat → Nat} {L mo a m d k y : Nat} (h : y ≠ L) (h2 : k ≠ 13) : tw_i5 s L mo a m d k y = s k y := by
  unfold tw_i5
  rw [tw_up_i h, tw_up_i h, tw_up_i h, tw_up_i h, tw_up_k h2]
theorem tw_i5_0 {s : Nat → Nat → Nat} {L mo a m d : Nat} : tw_i5 s L mo a m d 0 L = mo + 1 := by
  unfold tw_i5
  rw [tw_up_k (by omega), tw_up_k (by omega), tw_up_k (by omega), tw_up_e]
theorem tw_i5_1 {s : Nat → Nat → Nat} {L mo a m d : Nat} : tw_i5 s L mo a m d 1 L = a := by
  unfold tw_i5
  rw [tw_up_k (by omega), tw_up_k (by omega), tw_up_e]
theorem tw_i5_2 {s : Nat → Nat → Nat} {L mo a m d : Nat} : tw_i5 s L mo a m d 2 L = m := by
  unfold tw_i5
  rw [tw_up_k (by omega), tw_up_e]
theorem tw_i5_3 {s : Nat → Nat → Nat} {L mo a m d : Nat} : tw_i5 s L mo a m d 3 L = d := by
  unfold tw_i5
  rw [tw_up_e]
theorem tw_i5_13 {s : Nat → Nat → Nat} {L mo a m d : Nat} : tw_i5 s L mo a m d 13 1 = L + 1 := by
  unfold tw_i5
  rw [tw_up_k (by omega), tw_up_k (by omega), tw_up_k (by omega), tw_up_k (by omega), tw_up_e]
theorem tw_i8_o {s : Nat → Nat → Nat} {L mo a m d beh sb last k y : Nat} (h : k ≠ 4) (h2 : k ≠ 5) (h3 : k ≠ 6) : tw_i8 s L mo a m d beh sb last k y = tw_i5 s L mo a m d k y := by
  unfold tw_i8 tw_i6
  split
  · rw [tw_up_k h, tw_up_k h2, tw_up_k h3]
  · rw [tw_up_k h2, tw_up_k h2, tw_up_k h3]
theorem tw_i8_6 {s : Nat → Nat → Nat} {L mo a m d beh sb last y : Nat} : tw_i8 s L mo a m d beh sb last 6 y = if y = L then beh else s 6 y := by
  have h : tw_i8 s L mo a m d beh sb last 6 y = tw_i6 s L mo a m d beh 6 y := by
    unfold tw_i8
    split
    · rw [tw_up_k (by omega), tw_up_k (by omega)]
    · rw [tw_up_k (by omega), tw_up_k (by omega)]
  rw [h]
  unfold tw_i6
  by_cases g : y = L
  · rw [if_pos g, g, tw_up_e]
  · rw [if_neg g, tw_up_i g, tw_i5_o (by omega) (by omega)]
theorem tw_i8_4 {s : Nat → Nat → Nat} {L mo a m d beh sb last y : Nat} : tw_i8 s L mo a m d beh sb last 4 y = if last = 0 ∧ y = beh then L else s 4 y := by
  unfold tw_i8 tw_i6
  by_cases g : last = 0
  · rw [if_pos g]
    by_cases g2 : y = beh
    · rw [if_pos ⟨g, g2⟩, g2, tw_up_e]
    · rw [if_neg (fun z => g2 z.2), tw_up_i g2, tw_up_k (by omega), tw_up_k (by omega), tw_i5_o (by omega) (by omega)]
  · rw [if_neg g, if_neg (fun z => g z.1), tw_up_k (by omega), tw_up_k (by omega), tw_up_k (by omega), tw_i5_o (by omega) (by omega)]
theorem tw_i8_5 {s : Nat → Nat → Nat} {L mo a m d beh sb last y : Nat} : tw_i8 s L mo a m d beh sb last 5 y = if last ≠ 0 ∧ y = last then L else if y = L then sb else s 5 y := by
  unfold tw_i8 tw_i6
  by_cases g : last = 0
  · rw [if_pos g, if_neg (fun z => z.1 g), tw_up_k (by omega)]
    by_cases g2 : y = L
    · rw [if_pos g2, g2, tw_up_e]
    · rw [if_neg g2, tw_up_i g2, tw_up_k (by omega), tw_i5_o (by omega) (by omega)]
  · rw [if_neg g]
    by_cases g3 : y = last
    · rw [if_pos ⟨g, g3⟩, g3, tw_up_e]
    · rw [if_neg (fun z => g3 z.2), tw_up_i g3]
      by_cases g2 : y = L
      · rw [if_pos g2, g2, tw_up_e]
      · rw [if_neg g2, tw_up_i g2, tw_up_k (by omega), tw_i5_o (by omega) (by omega)]
/-- where letter k of the text is put: behind which -/
def tw_bhM (L : Nat) (f : Nat → Bool) (k b : Nat) : Prop := (k = 0 ∧ b = 0) ∨ ∃ p, p < L - 1 ∧ f p = true ∧ tw_cn f p + 1 = k ∧ b = p + 1
def tw_last (L : Nat) (T n up : Nat → Nat) (b q last : Nat) : Prop := (last = 0 ∧ q = b + 1) ∨ ∃ i, b < i ∧ i < q ∧ last = T i ∧ up (T i) = T b ∧ (∀ k, i < k → k < q → n (T i) < n (T k)) ∧ (q < L → n (T q) < n (T i))
def tw_insM (st u : Nat → Nat → Nat) (a k d : Nat) (T : Nat → Nat) (f : Nat → Bool) : Prop :=
  ∃ mo b q s2, tw_most st a (st 13 1) mo ∧ tw_bhM (st 13 1) f k b ∧ b < q ∧ q ≤ st 13 1 ∧ (∀ j, b < j → j < q → 4 * (mo + 1) + a < tw_n st (T j)) ∧ (q < st 13 1 → tw_n st (T q) < 4 * (mo + 1) + a) ∧
    s2 13 1 = st 13 1 + 1 ∧ (∀ c y, c < 4 → y ≠ st 13 1 → s2 c y = st c y) ∧ s2 0 (st 13 1) = mo + 1 ∧ s2 1 (st 13 1) = a ∧ s2 2 (st 13 1) = st 9 a ∧ s2 3 (st 13 1) = d ∧ (∀ y, y ≠ st 13 1 → s2 6 y = st 6 y) ∧ s2 6 (st 13 1) = T b ∧ (∀ y, st 13 1 + 1 ≤ y → s2 4 y = 0) ∧
    tw_tree (st 13 1 + 1) (tw_ins T q (st 13 1)) (tw_n s2) (s2 4) (s2 5) (s2 6) ∧ (∀ c y, 6 < c → c < 11 → s2 c y = st c y) ∧ s2 13 0 = 0 ∧ u = tw_dn s2 a (2 * st 13 1)
theorem tw_insM_of {st sA u : Nat → Nat → Nat} {a k d mo b q sb last : Nat} {T : Nat → Nat} {f : Nat → Bool} (hP : tw_lkp st a T f) (hR : tw_lkr st sA a T f 0) (ha : a < 4) (hmo : tw_most st a (st 13 1) mo) (hbh : tw_bhM (st 13 1) f k b) (hown : ∀ y, 1 ≤ y → y < st 13 1 → tw_In st (st 1 y) y) (hfs : ∀ y, st 13 1 ≤ y → st 4 y = 0)
    (hsw : tw_sw (st 13 1) T (tw_n st) (st 6) b q sb) (hgt : ∀ j, b < j → j < q → 4 * (mo + 1) + a < tw_n st (T j)) (hend : sb ≠ 0 → ¬ 4 * (mo + 1) + a < tw_n st sb) (hla : tw_last (st 13 1) T (tw_n st) (st 6) b q last) (hu : u = tw_dn (tw_i8 sA (st 13 1) mo a (st 9 a) d (T b) sb last) a (2 * st 13 1)) : tw_insM st u a k d T f := by
  obtain ⟨⟨L1, L2⟩, hli, htr, hinj, hn0, hr5, hr6, hr7, hr8, hr9, hr10, hr11⟩ := hP
  obtain ⟨hA0, hA2, hA3, hA4, hA5⟩ := hR
  have oA : ∀ c y, c < 11 → sA c y = st c y := fun c y h => hA5 c y (by omega) (by omega) (by omega)
  have hbL : b < st 13 1 := by have := hsw.1; have := hsw.2.1; omega
  have hnx : ∀ i, i < st 13 1 → tw_n st (T i) ≠ 4 * (mo + 1) + a := by
    intro i hi e
    rcases Nat.eq_zero_or_pos i with g | g
    · rw [g, hli.2.1, hn0] at e; omega
    · have hp := tw_pos hli g hi
      have hl := hli.2.2.1 i hi
      have h5 := (hr5 _ hp hl).1
      have e1 : st 1 (T i) = a ∧ st 0 (T i) = mo + 1 := by unfold tw_n at e; omega
      have := hmo.1 _ hp hl (by have := hown _ hp hl; rw [e1.1] at this; exact this)
      omega
  have hbx : tw_n st (T b) < 4 * (mo + 1) + a := by
    rcases hbh with ⟨-, rfl⟩ | ⟨p, p1, p2, p3, rfl⟩
    · rw [hli.2.1, hn0]; omega
    · have hp := tw_pos hli (show 1 ≤ p + 1 by omega) hbL
      have hl := hli.2.2.1 (p + 1) hbL
      have hin := ((hr9 p hbL).mp p2).1
      have h1 := hmo.1 _ hp hl hin
      have h5 := (hr5 _ hp hl).1
      have := hnx (p + 1) hbL
      unfold tw_n at this ⊢
      omega
  have hend2 : q < st 13 1 → tw_n st (T q) < 4 * (mo + 1) + a := by
    intro hq
    rcases hsw.2.2.2 with ⟨g1, g2, g3⟩ | ⟨g1, g2⟩
    · have := hend (by rw [g2]; have := tw_pos hli (show 1 ≤ q by have := hsw.1; omega) g1; omega)
      rw [g2] at this
      have := hnx q g1
      omega
    · have := g2 hq
      omega
  have n1 : ∀ y, y < st 13 1 → tw_n (tw_i8 sA (st 13 1) mo a (st 9 a) d (T b) sb last) y = tw_n st y := fun y hy => by
    unfold tw_n
    rw [tw_i8_o (by omega) (by omega) (by omega), tw_i8_o (by omega) (by omega) (by omega), tw_i5_y (by omega) (by omega), tw_i5_y (by omega) (by omega), oA 0 y (by omega), oA 1 y (by omega)]
  refine ⟨mo, b, q, _, hmo, hbh, hsw.1, hsw.2.1, hgt, hend2, ?_, ?_, ?_, ?_, ?_, ?_, ?_, ?_, ?_, ?_, ?_, ?_, hu⟩
  · rw [tw_i8_o (by omega) (by omega) (by omega), tw_i5_13]
  · intro c y hc hy
    rw [tw_i8_o (by omega) (by omega) (by omega), tw_i5_y hy (by omega), oA c y (by omega)]
  · rw [tw_i8_o (by omega) (by omega) (by omega), tw_i5_0]
  · rw [tw_i8_o (by omega) (by omega) (by omega), tw_i5_1]
  · rw [tw_i8_o (by omega) (by omega) (by omega), tw_i5_2]
  · rw [tw_i8_o (by omega) (by omega) (by omega), tw_i5_3]
  · intro y hy
    rw [tw_i8_6, if_neg hy, oA 6 y (by omega)]
  · rw [tw_i8_6, if_pos rfl]
  · intro y hy
    have hTb := hli.2.2.1 b hbL
    rw [tw_i8_4, if_neg (fun z => by omega), oA 4 y (by omega)]
    exact hfs y (by omega)
  · refine tw_put hli htr hbL hsw.1 hsw.2.1 hgt hend2 hbx hnx hsw.2.2.2 hla n1 ?_ (fun y hy => ?_) ?_ ?_ (fun h0 => ?_) (fun y hy h => ?_) ?_ (fun h0 => ?_) (fun y h1 hy hne => ?_)
    · unfold tw_n
      rw [tw_i8_o (by omega) (by omega) (by omega), tw_i8_o (by omega) (by omega) (by omega), tw_i5_0, tw_i5_1]
    · rw [tw_i8_6, if_neg (by omega), oA 6 y (by omega)]
    · rw [tw_i8_6, if_pos rfl]
    · have hTb := hli.2.2.1 b hbL
      rw [tw_i8_4, if_neg (fun z => by omega), oA 4 _ (by omega)]
      exact hfs _ (Nat.le_refl _)
    · rw [tw_i8_4, if_pos ⟨h0, rfl⟩]
    · rw [tw_i8_4, if_neg (fun z => h z.1 z.2), oA 4 y (by omega)]
    · have hlL : last ≠ st 13 1 := by
        rcases hla with ⟨e, -⟩ | ⟨i, i1, i2, i3, -⟩
        · omega
        · have := hli.2.2.1 i (by have := hsw.2.1; omega)
          omega
      rw [tw_i8_5, if_neg (fun z => hlL z.2.symm), if_pos rfl]
    · rw [tw_i8_5, if_pos ⟨h0, rfl⟩]
    · rw [tw_i8_5, if_neg (fun z => hne z.2), if_neg (by omega), oA 5 y (by omega)]
  · intro c y h1 h2
    rw [tw_i8_o (by omega) (by omega) (by omega), tw_i5_o (by omega) (by omega), oA c y (by omega)]
  · rw [tw_i8_o (by omega) (by omega) (by omega), tw_i5_o (by omega) (by omega)]
    exact hA0
end
section
set_option maxHeartbeats 4000000 in
set_option maxRecDepth 100000 in
/-- insert(c, at, letter) -/
theorem kX1_insert (l : Launch) (D : va_G) (cI cZ : ClassId) (x : Nat) (ad : Nat → Nat) (st : Nat → Nat → Nat) (sz : Nat) {v t b : Int32} {T : Nat → Nat} {F : Nat → Nat → Bool} (hlk : ∀ a, a < 4 → tw_lkp st a T (F a)) (h9 : ∀ a, a < 4 → st 9 a ≤ 400) (hL : st 13 1 < 1601) (hnm2 : ∀ y, st 0 y < 1000000) (hnum : ∀ y, st 0 y < 2147483648) (hfs : ∀ y, st 13 1 ≤ y → st 4 y = 0) (hown : ∀ y, 1 ≤ y → y < st 13 1 → tw_In st (st 1 y) y) : Met l yX1_insert wsX1_insert ({ frames := 3, cells := 0, slots := 0, locals := 80 }) (va_Pc [.ref x, .int v, .int t, .int b] (fun U => U.heap.size = sz ∧ tw_YU D cI cZ x ad st U)) (va_Qi (fun r u => ((tw_nc v ∨ ∃ a, a < 4 ∧ v = nI a ∧ (b < 0 ∨ nI 255 < b)) ∧ u = tw_up st 13 0 1) ∨ ∃ a d, a < 4 ∧ v = nI a ∧ d ≤ 255 ∧ b = nI d ∧ (((t < 0 ∨ nI (tw_cn (F a) (st 13 1 - 1)) < t) ∧ tw_lkr st u a T (F a) 1) ∨ ∃ k, k ≤ tw_cn (F a) (st 13 1 - 1) ∧ t = nI k ∧ ((st 9 a = 400 ∧ tw_lkr st u a T (F a) 2) ∨ (st 9 a ≠ 400 ∧ r = nI (st 9 a) ∧ tw_insM st u a k d T (F a))))) (tw_YT D cI cZ x ad (va_A (tw_y cI cZ x ad st) sz)) (va_A (tw_y cI cZ x ad st) sz)) 0 0 (va_A (tw_y cI cZ x ad st) sz) := by
  refine Met.ofW (cc := cX1_insert) (maxL := 9) (ret := (some .int)) (by decide) rfl ?_
  intro p e s m args below meth cd s₁ B hml hv
  obtain ⟨rfl, hsz, hU⟩ := hv
  subst hsz
  have S : CallFix p m cd cX1_insert 9 s ([.ref x, .int v, .int t, .int b] : List Value).toArray tw_wall RX1 := ⟨B.exec, B.bytes, hml, findClass_of_methodNamed B.named, fun w h => atoms_spec (ws := wsX1_insert) B.pre w (List.mem_cons_of_mem _ h)⟩
  have hr := B.returns
  have hlk0 := B.notSynchronized
  have z : va_S (fun q => s.heap.size ≤ q) s.heap s.heap [] := va_S.rf
  have w := tw_Y0 hU
  have hA : ∀ q : Nat, s.heap.size ≤ q → va_A (tw_y cI cZ x ad st) s.heap.size q := fun q h => Or.inr h
  generalize va_A (tw_y cI cZ x ad st) s.heap.size = A at w hA ⊢
  have hl := lv_entry ([.ref x, .int v, .int t, .int b]) (n := 9) (Nat.le_of_ble_eq_true rfl)
  rw [lg_entry_eq]
  generalize (lg_sl ([.ref x, .int v, .int t, .int b]) ++ List.replicate (9 - (lg_sl ([.ref x, .int v, .int t, .int b])).length) Slot.unset).toArray = ls at hl ⊢
  have hl : lv_has ls 9 [(0, .ref x), (1, .int v), (2, .int t), (3, .int b)] := hl
  refine lv_aload_n S.1 S.2.1 dX1_insert_0 rfl (lv_at hl 0 rfl) ?_
  refine lv_iload_n S.1 S.2.1 dX1_insert_1 rfl (lv_at hl 1 rfl) ?_
  refine tw_cst (n := 1) S w.2.2.2 hA (kX1_isCopy l _ (v := v)) (tw_gS wl_X1_67 wt_X1_isCopy wi_X1 wy_X1_isCopy) rfl rfl (by decide +kernel) ⟨Nat.le_of_ble_eq_true rfl, Nat.le_of_ble_eq_true rfl⟩ rfl hl.1 rfl (Nat.le_of_ble_eq_true rfl) dX1_insert_2 ⟨Nat.le_of_ble_eq_true rfl, Nat.le_of_ble_eq_true rfl⟩ (fun r H locs hp hk z9 => ?_)
  have w := w.kept hk z9
  refine lv_if_eq (tgt := 19) S.1 S.2.1 dX1_insert_5 (by decide) (fun h5 => ?_) (fun h5 => ?_)
  · have hbad : tw_nc v := hp.elim (fun g => absurd (g.1.symm.trans h5) (by decide)) (fun g => g.2)
    refine lv_iconst (v := nI 1) S.1 S.2.1 dX1_insert_19 (by decide) ?_
    refine lv_goto (tgt := 24) S.1 S.2.1 dX1_insert_20 (by decide) ?_
    refine tw_cyi (n := 1) S w hA (kX1_bad l D cI cZ x ad _ _ (b := 1) (by omega)) (tw_gV wl_X1_71 wn_X1_bad ws_X1_bad wi_X1 wy_X1_bad) rfl rfl (by decide +kernel) ⟨Nat.le_of_ble_eq_true rfl, Nat.le_of_ble_eq_true rfl⟩ rfl hl.1 rfl (Nat.le_of_ble_eq_true rfl) dX1_insert_24 ⟨Nat.le_of_ble_eq_true rfl, Nat.le_of_ble_eq_true rfl⟩ (fun r u H locs hp w => ?_)
    obtain ⟨hr9, hu⟩ := hp
    subst hr9
    rw [hu] at w
    refine lv_if_eq (tgt := 32) S.1 S.2.1 dX1_insert_27 (by decide) (fun h27 => absurd h27 (by decide)) (fun h27 => ?_)
    refine lv_iconst (v := nI 0) S.1 S.2.1 dX1_insert_30 (by decide) ?_
    exact tw_iretY S hr hlk0 w (Or.inl ⟨Or.inl hbad, rfl⟩) dX1_insert_31
  · obtain ⟨a, ha, rfl⟩ := hp.elim (fun g => g.2) (fun g => absurd g.1 h5)
    refine lv_iload_n S.1 S.2.1 dX1_insert_8 rfl (lv_at hl 3 rfl) ?_
    refine lv_if_lt (tgt := 19) S.1 S.2.1 dX1_insert_9 (by decide) (fun h9x => ?_) (fun h9x => ?_)
    · refine lv_iconst (v := nI 1) S.1 S.2.1 dX1_insert_19 (by decide) ?_
      refine lv_goto (tgt := 24) S.1 S.2.1 dX1_insert_20 (by decide) ?_
      refine tw_cyi (n := 1) S w hA (kX1_bad l D cI cZ x ad _ _ (b := 1) (by omega)) (tw_gV wl_X1_71 wn_X1_bad ws_X1_bad wi_X1 wy_X1_bad) rfl rfl (by decide +kernel) ⟨Nat.le_of_ble_eq_true rfl, Nat.le_of_ble_eq_true rfl⟩ rfl hl.1 rfl (Nat.le_of_ble_eq_true rfl) dX1_insert_24 ⟨Nat.le_of_ble_eq_true rfl, Nat.le_of_ble_eq_true rfl⟩ (fun r u H locs hp w => ?_)
      obtain ⟨hr9, hu⟩ := hp
      subst hr9
      rw [hu] at w
      refine lv_if_eq (tgt := 32) S.1 S.2.1 dX1_insert_27 (by decide) (fun h27 => absurd h27 (by decide)) (fun h27 => ?_)
      refine lv_iconst (v := nI 0) S.1 S.2.1 dX1_insert_30 (by decide) ?_
      exact tw_iretY S hr hlk0 w (Or.inl ⟨Or.inr ⟨a, ha, rfl, Or.inl h9x⟩, rfl⟩) dX1_insert_31
    · refine lv_iload_n S.1 S.2.1 dX1_insert_12 rfl (lv_at hl 3 rfl) ?_
      refine lv_sipush (v := nI 255) S.1 S.2.1 dX1_insert_13 (by decide) ?_
      refine lv_icmp_le (tgt := 23) S.1 S.2.1 dX1_insert_16 (by decide) (fun h16 => ?_) (fun h16 => ?_)
      · obtain ⟨d, hd1, rfl⟩ := tw_up_of (by omega) ⟨h9x, h16⟩
        refine lv_iconst (v := nI 0) S.1 S.2.1 dX1_insert_23 (by decide) ?_
        refine tw_cyi (n := 1) S w hA (kX1_bad l D cI cZ x ad _ _ (b := 0) (by omega)) (tw_gV wl_X1_71 wn_X1_bad ws_X1_bad wi_X1 wy_X1_bad) rfl rfl (by decide +kernel) ⟨Nat.le_of_ble_eq_true rfl, Nat.le_of_ble_eq_true rfl⟩ rfl hl.1 rfl (Nat.le_of_ble_eq_true rfl) dX1_insert_24 ⟨Nat.le_of_ble_eq_true rfl, Nat.le_of_ble_eq_true rfl⟩ (fun r u H locs hp w => ?_)
        obtain ⟨hr9, hu⟩ := hp
        subst hr9
        rw [hu] at w
        refine lv_if_eq (tgt := 32) S.1 S.2.1 dX1_insert_27 (by decide) (fun h27 => ?_) (fun h27 => absurd (by decide) h27)
        refine lv_aload_n S.1 S.2.1 dX1_insert_32 rfl (lv_at hl 0 rfl) ?_
        refine lv_iload_n S.1 S.2.1 dX1_insert_33 rfl (lv_at hl 1 rfl) ?_
        refine tw_cyv (n := 1) S w hA (kX1_look l D cI cZ x ad _ _ ha (tw_lkp_b (hlk a ha))) (tw_gV wl_X1_75 wn_X1_look ws_X1_look wi_X1 wy_X1_look) rfl rfl (by decide +kernel) ⟨Nat.le_of_ble_eq_true rfl, Nat.le_of_ble_eq_true rfl⟩ rfl hl.1 rfl (Nat.le_of_ble_eq_true rfl) dX1_insert_34 ⟨Nat.le_of_ble_eq_true rfl, Nat.le_of_ble_eq_true rfl⟩ (fun s1 H locs hq w => ?_)
        have e33 : s1 13 3 = tw_cn (F a) (st 13 1 - 1) := hq.2.1
        obtain ⟨⟨L1, L2⟩, hli, htr, hinj, hn0, hr5, hr6, hr7, hr8, hr9, hr10, hr11⟩ := hlk a ha
        refine lv_aload_n S.1 S.2.1 dX1_insert_37 rfl (lv_at hl 0 rfl) ?_
        refine lv_iload_n S.1 S.2.1 dX1_insert_38 rfl (lv_at hl 2 rfl) ?_
        refine lv_if_lt (tgt := 50) S.1 S.2.1 dX1_insert_39 (by decide) (fun h39 => ?_) (fun h39 => ?_)
        · refine lv_iconst (v := nI 1) S.1 S.2.1 dX1_insert_50 (by decide) ?_
          refine lv_goto (tgt := 55) S.1 S.2.1 dX1_insert_51 (by decide) ?_
          refine tw_cyi (n := 1) S w hA (kX1_bad l D cI cZ x ad _ _ (b := 1) (by omega)) (tw_gV wl_X1_71 wn_X1_bad ws_X1_bad wi_X1 wy_X1_bad) rfl rfl (by decide +kernel) ⟨Nat.le_of_ble_eq_true rfl, Nat.le_of_ble_eq_true rfl⟩ rfl hl.1 rfl (Nat.le_of_ble_eq_true rfl) dX1_insert_55 ⟨Nat.le_of_ble_eq_true rfl, Nat.le_of_ble_eq_true rfl⟩ (fun r u H locs hp w => ?_)
          obtain ⟨hr9, hu⟩ := hp
          subst hr9
          rw [hu] at w
          refine lv_if_eq (tgt := 63) S.1 S.2.1 dX1_insert_58 (by decide) (fun h58 => absurd h58 (by decide)) (fun h58 => ?_)
          refine lv_iconst (v := nI 0) S.1 S.2.1 dX1_insert_61 (by decide) ?_
          exact tw_iretY S hr hlk0 w (Or.inr ⟨a, d, ha, rfl, hd1, rfl, Or.inl ⟨Or.inl h39, tw_lkr_of hq⟩⟩) dX1_insert_62
        · refine lv_iload_n S.1 S.2.1 dX1_insert_42 rfl (lv_at hl 2 rfl) ?_
          refine lv_aload_n S.1 S.2.1 dX1_insert_43 rfl (lv_at hl 0 rfl) ?_
          refine yyg_long_ S w dX1_insert_44 ?_
          refine tw_t (show _ = nI (tw_cn (F a) (st 13 1 - 1)) from by rw [e33]) ?_
          refine lv_icmp_le (tgt := 54) S.1 S.2.1 dX1_insert_47 (by decide) (fun h47 => ?_) (fun h47 => ?_)
          · obtain ⟨k, hk1, rfl⟩ := tw_up_of (by have := tw_cn_le (F a) (st 13 1 - 1); omega) ⟨h39, h47⟩
            refine lv_iconst (v := nI 0) S.1 S.2.1 dX1_insert_54 (by decide) ?_
            refine tw_cyi (n := 1) S w hA (kX1_bad l D cI cZ x ad _ _ (b := 0) (by omega)) (tw_gV wl_X1_71 wn_X1_bad ws_X1_bad wi_X1 wy_X1_bad) rfl rfl (by decide +kernel) ⟨Nat.le_of_ble_eq_true rfl, Nat.le_of_ble_eq_true rfl⟩ rfl hl.1 rfl (Nat.le_of_ble_eq_true rfl) dX1_insert_55 ⟨Nat.le_of_ble_eq_true rfl, Nat.le_of_ble_eq_true rfl⟩ (fun r u H locs hp w => ?_)
            obtain ⟨hr9, hu⟩ := hp
            subst hr9
            rw [hu] at w
            refine lv_if_eq (tgt := 63) S.1 S.2.1 dX1_insert_58 (by decide) (fun h58 => ?_) (fun h58 => absurd (by decide) h58)
            have hR : tw_lkr st (tw_up s1 13 0 0) a T (F a) 0 := tw_lkr_of hq
            obtain ⟨sA, hsA⟩ : ∃ z, z = tw_up s1 13 0 0 := ⟨_, rfl⟩
            rw [← hsA] at w hR
            have oA : ∀ c y, c < 11 → sA c y = st c y := fun c y h => hR.2.2.2.2 c y (by omega) (by omega) (by omega)
            have e131 : sA 13 1 = st 13 1 := hR.2.2.2.2 13 1 (by omega) (by omega) (by omega)
            refine lv_aload_n S.1 S.2.1 dX1_insert_63 rfl (lv_at hl 0 rfl) ?_
            refine yyg_made S w dX1_insert_64 ?_
            refine lv_iload_n S.1 S.2.1 dX1_insert_67 rfl (lv_at hl 1 rfl) ?_
            refine yyl_9 S w (by omega) dX1_insert_68 ?_
            refine tw_t (show _ = nI (st 9 a) from by rw [oA 9 a (by omega)]) ?_
            refine lv_sipush (v := nI 400) S.1 S.2.1 dX1_insert_69 (by decide) ?_
            refine lv_icmp_ne (tgt := 82) S.1 S.2.1 dX1_insert_72 (by decide) (fun h72 => ?_) (fun h72 => ?_)
            · have hmd : st 9 a ≠ 400 := fun g => h72 (by rw [g])
              have loop : ∀ (n : Nat) (j mo : Nat) (H : Heap) (locs : List Loc) (ls : Array Slot), st 13 1 - j < n → j ≤ st 13 1 → 1 ≤ j → mo < 2147483648 → tw_most st a j mo → TWY D cI cZ x ad sA A s.heap H locs s → lv_has ls 9 [(5, .int (nI j)), (4, .int (nI mo)), (0, .ref x), (1, .int (nI a)), (2, .int (nI k)), (3, .int (nI d))] → W p l e (headSpec wsX1_insert ({ frames := 3, cells := 0, slots := 0, locals := 80 })).room s m ([.ref x, .int (nI a), .int (nI k), .int (nI d)] : List Value).toArray below meth cd H locs 0 0 (MQ below (va_Qi (fun r u => ((tw_nc (nI a) ∨ ∃ a', a' < 4 ∧ nI a = nI a' ∧ (nI d < 0 ∨ nI 255 < nI d)) ∧ u = tw_up st 13 0 1) ∨ ∃ a' d', a' < 4 ∧ nI a = nI a' ∧ d' ≤ 255 ∧ nI d = nI d' ∧ (((nI k < 0 ∨ nI (tw_cn (F a') (st 13 1 - 1)) < nI k) ∧ tw_lkr st u a' T (F a') 1) ∨ ∃ k', k' ≤ tw_cn (F a') (st 13 1 - 1) ∧ nI k = nI k' ∧ ((st 9 a' = 400 ∧ tw_lkr st u a' T (F a') 2) ∨ (st 9 a' ≠ 400 ∧ r = nI (st 9 a') ∧ tw_insM st u a' k' d' T (F a'))))) (tw_YT D cI cZ x ad A) A) ([.ref x, .int (nI a), .int (nI k), .int (nI d)] : List Value).toArray s 0 0 A) (F0 m 88 ls []) := by
                intro n
                induction n with
                | zero => intros; omega
                | succ n ih =>
                  intro j mo H locs ls hm hj0 hj1 hmo0 hmo w hl
                  refine lv_iload S.1 S.2.1 dX1_insert_88 (lv_at hl 0 rfl) ?_
                  refine lv_aload_n S.1 S.2.1 dX1_insert_90 rfl (lv_at hl 2 rfl) ?_
                  refine yyg_letters S w dX1_insert_91 ?_
                  refine tw_t (show _ = nI (st 13 1) from by rw [e131]) ?_
                  refine lv_icmp_ge (tgt := 134) S.1 S.2.1 dX1_insert_94 (by decide) (fun h94 => ?_) (fun h94 => ?_)
                  · have hj : j = st 13 1 := by have := (tw_le (by omega) (by omega)).mp h94; omega
                    rw [hj] at hmo
                    have hmo9 : mo + 1 < 2147483648 := by
                      rcases hmo.2 with g | ⟨y, -, -, -, g⟩
                      · omega
                      · have := hnm2 y
                        omega
                    have fin : ∀ (bi q sb last : Nat) (H : Heap) (locs : List Loc) (ls : Array Slot), tw_bhM (st 13 1) (F a) k bi → tw_sw (st 13 1) T (tw_n st) (st 6) bi q sb → (∀ j, bi < j → j < q → 4 * (mo + 1) + a < tw_n st (T j)) → (sb ≠ 0 → ¬ 4 * (mo + 1) + a < tw_n st sb) → tw_last (st 13 1) T (tw_n st) (st 6) bi q last → TWY D cI cZ x ad (tw_i6 sA (st 13 1) mo a (st 9 a) d (T bi)) A s.heap H locs s → lv_has ls 9 [(8, .int (nI sb)), (7, .int (nI last)), (6, .int (nI (T bi))), (5, .int (nI (st 13 1))), (0, .ref x), (1, .int (nI a)), (2, .int (nI k)), (3, .int (nI d))] → W p l e (headSpec wsX1_insert ({ frames := 3, cells := 0, slots := 0, locals := 80 })).room s m ([.ref x, .int (nI a), .int (nI k), .int (nI d)] : List Value).toArray below meth cd H locs 0 0 (MQ below (va_Qi (fun r u => ((tw_nc (nI a) ∨ ∃ a', a' < 4 ∧ nI a = nI a' ∧ (nI d < 0 ∨ nI 255 < nI d)) ∧ u = tw_up st 13 0 1) ∨ ∃ a' d', a' < 4 ∧ nI a = nI a' ∧ d' ≤ 255 ∧ nI d = nI d' ∧ (((nI k < 0 ∨ nI (tw_cn (F a') (st 13 1 - 1)) < nI k) ∧ tw_lkr st u a' T (F a') 1) ∨ ∃ k', k' ≤ tw_cn (F a') (st 13 1 - 1) ∧ nI k = nI k' ∧ ((st 9 a' = 400 ∧ tw_lkr st u a' T (F a') 2) ∨ (st 9 a' ≠ 400 ∧ r = nI (st 9 a') ∧ tw_insM st u a' k' d' T (F a'))))) (tw_YT D cI cZ x ad A) A) ([.ref x, .int (nI a), .int (nI k), .int (nI d)] : List Value).toArray s 0 0 A) (F0 m 261 ls []) := by
                      intro bi q sb last H locs ls hbh hsw hgt hnb hla w hl
                      have hbL : bi < st 13 1 := by have := hsw.1; have := hsw.2.1; omega
                      have hTb := hli.2.2.1 bi hbL
                      have hsb : sb < 1601 := by
                        rcases hsw.2.2.2 with ⟨g, g2, -⟩ | ⟨g, -⟩
                        · have := hli.2.2.1 q g
                          omega
                        · omega
                      have hlast : last < 1601 := by
                        rcases hla with ⟨g, -⟩ | ⟨i, i1, i2, i3, -⟩
                        · omega
                        · have := hli.2.2.1 i (by have := hsw.2.1; omega)
                          omega
                      refine lv_aload_n S.1 S.2.1 dX1_insert_261 rfl (lv_at hl 4 rfl) ?_
                      refine yyg_sibling S w dX1_insert_262 ?_
                      refine lv_iload S.1 S.2.1 dX1_insert_265 (lv_at hl 3 rfl) ?_
                      refine lv_iload S.1 S.2.1 dX1_insert_267 (lv_at hl 0 rfl) ?_
                      refine yys_5 S w (by omega)  dX1_insert_269 (fun H locs w => ?_)
                      refine lv_iload S.1 S.2.1 dX1_insert_270 (lv_at hl 1 rfl) ?_
                      refine lv_if_ne (tgt := 287) S.1 S.2.1 dX1_insert_272 (by decide) (fun h272 => ?_) (fun h272 => ?_)
                      · have hla0 : last ≠ 0 := fun g => h272 (by rw [g]; decide)
                        skip
                        refine lv_aload_n S.1 S.2.1 dX1_insert_287 rfl (lv_at hl 4 rfl) ?_
                        refine yyg_sibling S w dX1_insert_288 ?_
                        refine lv_iload S.1 S.2.1 dX1_insert_291 (lv_at hl 1 rfl) ?_
                        refine lv_iload S.1 S.2.1 dX1_insert_293 (lv_at hl 3 rfl) ?_
                        refine yys_5 S w (by omega)  dX1_insert_295 (fun H locs w => ?_)
                        refine lv_aload_n S.1 S.2.1 dX1_insert_296 rfl (lv_at hl 4 rfl) ?_
                        refine lv_iload_n S.1 S.2.1 dX1_insert_297 rfl (lv_at hl 5 rfl) ?_
                        refine lv_iload S.1 S.2.1 dX1_insert_298 (lv_at hl 3 rfl) ?_
                        refine tw_t (tw_wh_e (st 13 1)).symm ?_
                        have w : TWY D cI cZ x ad (tw_i8 sA (st 13 1) mo a (st 9 a) d (T bi) sb last) A s.heap H locs s := by
                          unfold tw_i8
                          first
                            | (rw [if_pos hla0]; exact w)
                            | (rw [if_neg hla0]; exact w)
                        have e9 : tw_i8 sA (st 13 1) mo a (st 9 a) d (T bi) sb last 9 a = st 9 a := by rw [tw_i8_o (by omega) (by omega) (by omega), tw_i5_o (by omega) (by omega), oA 9 a (by omega)]
                        refine tw_cyi (n := 2) S w hA (kX1_done l D cI cZ x ad (tw_i8 sA (st 13 1) mo a (st 9 a) d (T bi) sb last) _ (h := 2 * st 13 1) ha (by rw [e9]; have := h9 a ha; omega)) (tw_gV wl_X1_82 wn_X1_done ws_X1_done wi_X1 wy_X1_done) rfl rfl (by decide +kernel) ⟨Nat.le_of_ble_eq_true rfl, Nat.le_of_ble_eq_true rfl⟩ rfl hl.1 rfl (Nat.le_of_ble_eq_true rfl) dX1_insert_300 ⟨Nat.le_of_ble_eq_true rfl, Nat.le_of_ble_eq_true rfl⟩ (fun r u H locs hp w => ?_)
                        rw [e9] at hp
                        obtain ⟨hr9, hu⟩ := hp
                        subst hr9
                        exact tw_iretY S hr hlk0 w (Or.inr ⟨a, d, ha, rfl, hd1, rfl, Or.inr ⟨k, hk1, rfl, Or.inr ⟨hmd, rfl, tw_insM_of (hlk a ha) hR ha hmo hbh hown hfs hsw hgt hnb hla hu⟩⟩⟩) dX1_insert_303
                      · have hla0 : last = 0 := (tw_eq (by omega) (by omega)).mp h272
                        refine lv_aload_n S.1 S.2.1 dX1_insert_275 rfl (lv_at hl 4 rfl) ?_
                        refine yyg_first S w dX1_insert_276 ?_
                        refine lv_iload S.1 S.2.1 dX1_insert_279 (lv_at hl 2 rfl) ?_
                        refine lv_iload S.1 S.2.1 dX1_insert_281 (lv_at hl 3 rfl) ?_
                        refine yys_4 S w (by omega)  dX1_insert_283 (fun H locs w => ?_)
                        refine lv_goto (tgt := 296) S.1 S.2.1 dX1_insert_284 (by decide) ?_
                        refine lv_aload_n S.1 S.2.1 dX1_insert_296 rfl (lv_at hl 4 rfl) ?_
                        refine lv_iload_n S.1 S.2.1 dX1_insert_297 rfl (lv_at hl 5 rfl) ?_
                        refine lv_iload S.1 S.2.1 dX1_insert_298 (lv_at hl 3 rfl) ?_
                        refine tw_t (tw_wh_e (st 13 1)).symm ?_
                        have w : TWY D cI cZ x ad (tw_i8 sA (st 13 1) mo a (st 9 a) d (T bi) sb last) A s.heap H locs s := by
                          unfold tw_i8
                          first
                            | (rw [if_pos hla0]; exact w)
                            | (rw [if_neg hla0]; exact w)
                        have e9 : tw_i8 sA (st 13 1) mo a (st 9 a) d (T bi) sb last 9 a = st 9 a := by rw [tw_i8_o (by omega) (by omega) (by omega), tw_i5_o (by omega) (by omega), oA 9 a (by omega)]
                        refine tw_cyi (n := 2) S w hA (kX1_done l D cI cZ x ad (tw_i8 sA (st 13 1) mo a (st 9 a) d (T bi) sb last) _ (h := 2 * st 13 1) ha (by rw [e9]; have := h9 a ha; omega)) (tw_gV wl_X1_82 wn_X1_done ws_X1_done wi_X1 wy_X1_done) rfl rfl (by decide +kernel) ⟨Nat.le_of_ble_eq_true rfl, Nat.le_of_ble_eq_true rfl⟩ rfl hl.1 rfl (Nat.le_of_ble_eq_true rfl) dX1_insert_300 ⟨Nat.le_of_ble_eq_true rfl, Nat.le_of_ble_eq_true rfl⟩ (fun r u H locs hp w => ?_)
                        rw [e9] at hp
                        obtain ⟨hr9, hu⟩ := hp
                        subst hr9
                        exact tw_iretY S hr hlk0 w (Or.inr ⟨a, d, ha, rfl, hd1, rfl, Or.inr ⟨k, hk1, rfl, Or.inr ⟨hmd, rfl, tw_insM_of (hlk a ha) hR ha hmo hbh hown hfs hsw hgt hnb hla hu⟩⟩⟩) dX1_insert_303
                    have sibs : ∀ (bi : Nat), tw_bhM (st 13 1) (F a) k bi → ∀ (n q sb last : Nat) (H : Heap) (locs : List Loc) (ls : Array Slot), st 13 1 - q < n → tw_sw (st 13 1) T (tw_n st) (st 6) bi q sb → (∀ j, bi < j → j < q → 4 * (mo + 1) + a < tw_n st (T j)) → tw_last (st 13 1) T (tw_n st) (st 6) bi q last → TWY D cI cZ x ad (tw_i6 sA (st 13 1) mo a (st 9 a) d (T bi)) A s.heap H locs s → lv_has ls 9 [(8, .int (nI sb)), (7, .int (nI last)), (6, .int (nI (T bi))), (5, .int (nI (st 13 1))), (0, .ref x), (1, .int (nI a)), (2, .int (nI k)), (3, .int (nI d))] → W p l e (headSpec wsX1_insert ({ frames := 3, cells := 0, slots := 0, locals := 80 })).room s m ([.ref x, .int (nI a), .int (nI k), .int (nI d)] : List Value).toArray below meth cd H locs 0 0 (MQ below (va_Qi (fun r u => ((tw_nc (nI a) ∨ ∃ a', a' < 4 ∧ nI a = nI a' ∧ (nI d < 0 ∨ nI 255 < nI d)) ∧ u = tw_up st 13 0 1) ∨ ∃ a' d', a' < 4 ∧ nI a = nI a' ∧ d' ≤ 255 ∧ nI d = nI d' ∧ (((nI k < 0 ∨ nI (tw_cn (F a') (st 13 1 - 1)) < nI k) ∧ tw_lkr st u a' T (F a') 1) ∨ ∃ k', k' ≤ tw_cn (F a') (st 13 1 - 1) ∧ nI k = nI k' ∧ ((st 9 a' = 400 ∧ tw_lkr st u a' T (F a') 2) ∨ (st 9 a' ≠ 400 ∧ r = nI (st 9 a') ∧ tw_insM st u a' k' d' T (F a'))))) (tw_YT D cI cZ x ad A) A) ([.ref x, .int (nI a), .int (nI k), .int (nI d)] : List Value).toArray s 0 0 A) (F0 m 229 ls []) := by
                      intro bi hbh n
                      induction n with
                      | zero => intros; omega
                      | succ n ih =>
                        intro q sb last H locs ls hm hsw hgt hla w hl
                        have hsb : sb < 1601 := by
                          rcases hsw.2.2.2 with ⟨g, g2, -⟩ | ⟨g, -⟩
                          · have := hli.2.2.1 q g
                            omega
                          · omega
                        refine lv_iload S.1 S.2.1 dX1_insert_229 (lv_at hl 0 rfl) ?_
                        refine lv_if_eq (tgt := 261) S.1 S.2.1 dX1_insert_231 (by decide) (fun h231 => ?_) (fun h231 => ?_)
                        · have hs0 : sb = 0 := (tw_eq (by omega) (by omega)).mp h231
                          exact fin bi q sb last H locs ls hbh hsw hgt (fun z => absurd hs0 z) hla w (lv_sub hl [0, 1, 2, 3, 4, 5, 6, 7] rfl)
                        · have hs0 : sb ≠ 0 := fun g => h231 (by rw [g]; decide)
                          obtain ⟨e1, e2, e3, e4, q2, e5, e6, e7, e8⟩ := tw_swn hli htr hsw hs0
                          have hTq := hli.2.2.1 q e2
                          have hsp : 1 ≤ sb := by omega
                          have hs5 := (hr5 sb hsp (by omega)).1
                          have ei0 : (tw_i6 sA (st 13 1) mo a (st 9 a) d (T bi)) 0 sb = st 0 sb := by unfold tw_i6; rw [tw_up_k (by omega), tw_i5_y (by omega) (by omega), oA 0 sb (by omega)]
                          have ei1 : (tw_i6 sA (st 13 1) mo a (st 9 a) d (T bi)) 1 sb = st 1 sb := by unfold tw_i6; rw [tw_up_k (by omega), tw_i5_y (by omega) (by omega), oA 1 sb (by omega)]
                          have el0 : (tw_i6 sA (st 13 1) mo a (st 9 a) d (T bi)) 0 (st 13 1) = mo + 1 := by unfold tw_i6; rw [tw_up_k (by omega), tw_i5_0]
                          have el1 : (tw_i6 sA (st 13 1) mo a (st 9 a) d (T bi)) 1 (st 13 1) = a := by unfold tw_i6; rw [tw_up_k (by omega), tw_i5_1]
                          have el5 : (tw_i6 sA (st 13 1) mo a (st 9 a) d (T bi)) 5 sb = st 5 sb := by unfold tw_i6; rw [tw_up_k (by omega), tw_i5_o (by omega) (by omega), oA 5 sb (by omega)]
                          refine lv_aload_n S.1 S.2.1 dX1_insert_234 rfl (lv_at hl 4 rfl) ?_
                          refine lv_iload S.1 S.2.1 dX1_insert_235 (lv_at hl 0 rfl) ?_
                          refine lv_iload S.1 S.2.1 dX1_insert_237 (lv_at hl 3 rfl) ?_
                          refine tw_cyi (n := 2) S w hA (kX1_isBefore l D cI cZ x ad (tw_i6 sA (st 13 1) mo a (st 9 a) d (T bi)) _ (i := sb) (k := st 13 1) hsb hL (by rw [ei1]; exact hs5) (by rw [el1]; exact ha) (by rw [ei0]; exact hnum _) (by rw [el0]; exact hmo9)) (tw_gV wl_X1_79 wn_X1_isBefore ws_X1_isBefore wi_X1 wy_X1_isBefore) rfl rfl (by decide +kernel) ⟨Nat.le_of_ble_eq_true rfl, Nat.le_of_ble_eq_true rfl⟩ rfl hl.1 rfl (Nat.le_of_ble_eq_true rfl) dX1_insert_239 ⟨Nat.le_of_ble_eq_true rfl, Nat.le_of_ble_eq_true rfl⟩ (fun r u H locs hp w => ?_)
                          obtain ⟨hp, hu⟩ := hp
                          rw [hu] at w
                          have en1 : tw_n (tw_i6 sA (st 13 1) mo a (st 9 a) d (T bi)) (st 13 1) = 4 * (mo + 1) + a := by unfold tw_n; rw [el0, el1]
                          have en2 : tw_n (tw_i6 sA (st 13 1) mo a (st 9 a) d (T bi)) sb = tw_n st sb := by unfold tw_n; rw [ei0, ei1]
                          rw [en1, en2] at hp
                          refine lv_if_eq (tgt := 261) S.1 S.2.1 dX1_insert_242 (by decide) (fun h242 => ?_) (fun h242 => ?_)
                          · have hnb : ¬ 4 * (mo + 1) + a < tw_n st sb := hp.elim (fun g => absurd (g.1.symm.trans h242) (by decide)) (fun g => g.2)
                            exact fin bi q sb last H locs ls hbh hsw hgt (fun _ => hnb) hla w (lv_sub hl [0, 1, 2, 3, 4, 5, 6, 7] rfl)
                          · have hbf : 4 * (mo + 1) + a < tw_n st sb := hp.elim (fun g => g.2) (fun g => absurd g.1 h242)
                            refine lv_iload S.1 S.2.1 dX1_insert_245 (lv_at hl 0 rfl) ?_
                            refine lv_istore S.1 S.2.1 dX1_insert_247 hl (by decide) rfl (fun ls hl => ?_)
                            refine lv_aload_n S.1 S.2.1 dX1_insert_249 rfl (lv_at hl 4 rfl) ?_
                            refine yyg_sibling S w dX1_insert_250 ?_
                            refine lv_iload S.1 S.2.1 dX1_insert_253 (lv_at hl 1 rfl) ?_
                            refine yyl_5 S w hsb dX1_insert_255 ?_
                            refine tw_t (show _ = nI (st 5 sb) from by rw [el5]) ?_
                            refine lv_istore S.1 S.2.1 dX1_insert_256 hl (by decide) rfl (fun ls hl => ?_)
                            refine lv_goto (tgt := 229) S.1 S.2.1 dX1_insert_258 (by decide) ?_
                            exact ih q2 (st 5 sb) sb H locs ls (by have := e6.2.1; omega) e6 (fun j h1 h2 => by rcases Nat.lt_trichotomy j q with z | z | z; exact hgt j h1 z; rw [z, ← e1]; exact hbf; exact Nat.lt_trans (by rw [← e1]; exact hbf) (e7 j z h2)) (Or.inr ⟨q, hsw.1, e5, e1, e3, e7, e8⟩) w (lv_sub hl [0, 1, 2, 3, 4, 5, 6, 7] rfl)
                    have tail : ∀ (bi : Nat) (H : Heap) (locs : List Loc) (ls : Array Slot), tw_bhM (st 13 1) (F a) k bi → bi < st 13 1 → TWY D cI cZ x ad (tw_i5 sA (st 13 1) mo a (st 9 a) d) A s.heap H locs s → lv_has ls 9 [(5, .int (nI (st 13 1))), (4, .int (nI mo)), (0, .ref x), (1, .int (nI a)), (2, .int (nI k)), (3, .int (nI d))] → W p l e (headSpec wsX1_insert ({ frames := 3, cells := 0, slots := 0, locals := 80 })).room s m ([.ref x, .int (nI a), .int (nI k), .int (nI d)] : List Value).toArray below meth cd H locs 0 0 (MQ below (va_Qi (fun r u => ((tw_nc (nI a) ∨ ∃ a', a' < 4 ∧ nI a = nI a' ∧ (nI d < 0 ∨ nI 255 < nI d)) ∧ u = tw_up st 13 0 1) ∨ ∃ a' d', a' < 4 ∧ nI a = nI a' ∧ d' ≤ 255 ∧ nI d = nI d' ∧ (((nI k < 0 ∨ nI (tw_cn (F a') (st 13 1 - 1)) < nI k) ∧ tw_lkr st u a' T (F a') 1) ∨ ∃ k', k' ≤ tw_cn (F a') (st 13 1 - 1) ∧ nI k = nI k' ∧ ((st 9 a' = 400 ∧ tw_lkr st u a' T (F a') 2) ∨ (st 9 a' ≠ 400 ∧ r = nI (st 9 a') ∧ tw_insM st u a' k' d' T (F a'))))) (tw_YT D cI cZ x ad A) A) ([.ref x, .int (nI a), .int (nI k), .int (nI d)] : List Value).toArray s 0 0 A) (F0 m 206 ls [.int (nI (T bi))]) := by
                      intro bi H locs ls hbh hbL w hl
                      have hTb := hli.2.2.1 bi hbL
                      refine lv_istore S.1 S.2.1 dX1_insert_206 hl (by decide) rfl (fun ls hl => ?_)
                      refine lv_aload_n S.1 S.2.1 dX1_insert_208 rfl (lv_at hl 3 rfl) ?_
                      refine yyg_up S w dX1_insert_209 ?_
                      refine lv_iload S.1 S.2.1 dX1_insert_212 (lv_at hl 1 rfl) ?_
                      refine lv_iload S.1 S.2.1 dX1_insert_214 (lv_at hl 0 rfl) ?_
                      refine yys_6 S w (by omega)  dX1_insert_216 (fun H locs w => ?_)
                      refine lv_iconst (v := nI 0) S.1 S.2.1 dX1_insert_217 (by decide) ?_
                      refine lv_istore S.1 S.2.1 dX1_insert_218 hl (by decide) rfl (fun ls hl => ?_)
                      refine lv_aload_n S.1 S.2.1 dX1_insert_220 rfl (lv_at hl 4 rfl) ?_
                      refine yyg_first S w dX1_insert_221 ?_
                      refine lv_iload S.1 S.2.1 dX1_insert_224 (lv_at hl 1 rfl) ?_
                      refine yyl_4 S w (by omega) dX1_insert_226 ?_
                      refine tw_t (show _ = nI (st 4 (T bi)) from by rw [tw_up_k (by omega), tw_i5_o (by omega) (by omega), oA 4 _ (by omega)]) ?_
                      refine lv_istore S.1 S.2.1 dX1_insert_227 hl (by decide) rfl (fun ls hl => ?_)
                      exact sibs bi hbh (st 13 1 + 1) (bi + 1) (st 4 (T bi)) 0 H locs ls (by omega) (tw_swf htr hbL) (fun j h1 h2 => by omega) (Or.inl ⟨rfl, rfl⟩) w (lv_sub hl [0, 1, 2, 3, 5, 6, 7, 8] rfl)
                    refine lv_aload_n S.1 S.2.1 dX1_insert_134 rfl (lv_at hl 2 rfl) ?_
                    refine yyg_letters S w dX1_insert_135 ?_
                    refine tw_t (show _ = nI (st 13 1) from by rw [e131]) ?_
                    refine lv_istore S.1 S.2.1 dX1_insert_138 hl (by decide) rfl (fun ls hl => ?_)
                    refine lv_aload_n S.1 S.2.1 dX1_insert_140 rfl (lv_at hl 2 rfl) ?_
                    refine lv_dup S.1 S.2.1 dX1_insert_141 rfl ?_
                    refine yyg_letters S w dX1_insert_142 ?_
                    refine tw_t (show _ = nI (st 13 1) from by rw [e131]) ?_
                    refine lv_iconst (v := nI 1) S.1 S.2.1 dX1_insert_145 (by decide) ?_
                    refine lv_iadd S.1 S.2.1 dX1_insert_146 ?_
                    refine tw_t (nI_add _ _) ?_
                    refine yyp_letters S w dX1_insert_147 (fun H locs w => ?_)
                    refine lv_aload_n S.1 S.2.1 dX1_insert_150 rfl (lv_at hl 2 rfl) ?_
                    refine yyg_number S w dX1_insert_151 ?_
                    refine lv_iload S.1 S.2.1 dX1_insert_154 (lv_at hl 0 rfl) ?_
                    refine lv_iload S.1 S.2.1 dX1_insert_156 (lv_at hl 1 rfl) ?_
                    refine lv_iconst (v := nI 1) S.1 S.2.1 dX1_insert_158 (by decide) ?_
                    refine lv_iadd S.1 S.2.1 dX1_insert_159 ?_
                    refine tw_t (nI_add _ _) ?_
                    refine yys_0 S w (by omega)  dX1_insert_160 (fun H locs w => ?_)
                    refine lv_aload_n S.1 S.2.1 dX1_insert_161 rfl (lv_at hl 2 rfl) ?_
                    refine yyg_maker S w dX1_insert_162 ?_
                    refine lv_iload S.1 S.2.1 dX1_insert_165 (lv_at hl 0 rfl) ?_
                    refine lv_iload_n S.1 S.2.1 dX1_insert_167 rfl (lv_at hl 3 rfl) ?_
                    refine yys_1 S w (by omega)  dX1_insert_168 (fun H locs w => ?_)
                    refine lv_aload_n S.1 S.2.1 dX1_insert_169 rfl (lv_at hl 2 rfl) ?_
                    refine yyg_change S w dX1_insert_170 ?_
                    refine lv_iload S.1 S.2.1 dX1_insert_173 (lv_at hl 0 rfl) ?_
                    refine lv_aload_n S.1 S.2.1 dX1_insert_175 rfl (lv_at hl 2 rfl) ?_
                    refine yyg_made S w dX1_insert_176 ?_
                    refine lv_iload_n S.1 S.2.1 dX1_insert_179 rfl (lv_at hl 3 rfl) ?_
                    refine yyl_9 S w (by omega) dX1_insert_180 ?_
                    refine tw_t (show _ = nI (st 9 a) from by rw [tw_up_k (by omega), tw_up_k (by omega), tw_up_k (by omega), oA 9 a (by omega)]) ?_
                    refine yys_2 S w (by omega)  dX1_insert_181 (fun H locs w => ?_)
                    refine lv_aload_n S.1 S.2.1 dX1_insert_182 rfl (lv_at hl 2 rfl) ?_
                    refine yyg_value S w dX1_insert_183 ?_
                    refine lv_iload S.1 S.2.1 dX1_insert_186 (lv_at hl 0 rfl) ?_
                    refine lv_iload_n S.1 S.2.1 dX1_insert_188 rfl (lv_at hl 5 rfl) ?_
                    refine yys_3 S w (by omega)  dX1_insert_189 (fun H locs w => ?_)
                    have w : TWY D cI cZ x ad (tw_i5 sA (st 13 1) mo a (st 9 a) d) A s.heap H locs s := w
                    have hcl := tw_cn_le (F a) (st 13 1 - 1)
                    refine lv_iload_n S.1 S.2.1 dX1_insert_190 rfl (lv_at hl 4 rfl) ?_
                    refine lv_if_ne (tgt := 198) S.1 S.2.1 dX1_insert_191 (by decide) (fun h191 => ?_) (fun h191 => ?_)
                    · have hk0 : k ≠ 0 := fun g => h191 (by rw [g]; decide)
                      obtain ⟨p, p1, p2, p3⟩ := tw_cn_at (show k - 1 < tw_cn (F a) (st 13 1 - 1) by omega)
                      refine lv_aload_n S.1 S.2.1 dX1_insert_198 rfl (lv_at hl 2 rfl) ?_
                      refine yyg_order S w dX1_insert_199 ?_
                      refine lv_iload_n S.1 S.2.1 dX1_insert_202 rfl (lv_at hl 4 rfl) ?_
                      refine lv_iconst (v := nI 1) S.1 S.2.1 dX1_insert_203 (by decide) ?_
                      refine lv_isub S.1 S.2.1 dX1_insert_204 ?_
                      refine tw_t (pk_sub (by omega)) ?_
                      refine yyl_11 S w (by omega) dX1_insert_205 ?_
                      refine tw_t (show _ = nI (T (p + 1)) from by rw [tw_i5_o (by omega) (by omega), ← p3, hR.2.2.2.1 p p1 p2]) ?_
                      exact tail (p + 1) H locs ls (Or.inr ⟨p, p1, p2, by omega, rfl⟩) (by omega) w (lv_sub hl [0, 1, 2, 3, 4, 5] rfl)
                    · have hk0 : k = 0 := (tw_eq (by omega) (by omega)).mp h191
                      refine lv_iconst (v := nI 0) S.1 S.2.1 dX1_insert_194 (by decide) ?_
                      refine lv_goto (tgt := 206) S.1 S.2.1 dX1_insert_195 (by decide) ?_
                      have hT0 : T 0 = 0 := hli.2.1
                      have tl := tail 0 H locs ls (Or.inl ⟨hk0, rfl⟩) (by omega) w (lv_sub hl [0, 1, 2, 3, 4, 5] rfl)
                      rw [hT0] at tl
                      exact tl
                  · have hj : j < st 13 1 := Nat.not_le.mp (fun g => h94 ((tw_le (by omega) (by omega)).mpr g))
                    have hj5 := hr5 j hj1 hj
                    refine lv_aload_n S.1 S.2.1 dX1_insert_97 rfl (lv_at hl 2 rfl) ?_
                    refine lv_iload_n S.1 S.2.1 dX1_insert_98 rfl (lv_at hl 3 rfl) ?_
                    refine lv_iload S.1 S.2.1 dX1_insert_99 (lv_at hl 0 rfl) ?_
                    refine tw_cyi (n := 2) S w hA (kX1_isIn l D cI cZ x ad sA _ (a := a) (k := j) ha (by omega) (by rw [oA 1 _ (by omega)]; exact hj5.1) (by rw [oA 2 _ (by omega)]; exact hj5.2) (by rw [oA 1 _ (by omega), oA 10 _ (by omega)]; have := hr6 _ hj5.1; omega)) (tw_gV wl_X1_63 wn_X1_isIn ws_X1_isIn wi_X1 wy_X1_isIn) rfl rfl (by decide +kernel) ⟨Nat.le_of_ble_eq_true rfl, Nat.le_of_ble_eq_true rfl⟩ rfl hl.1 rfl (Nat.le_of_ble_eq_true rfl) dX1_insert_101 ⟨Nat.le_of_ble_eq_true rfl, Nat.le_of_ble_eq_true rfl⟩ (fun r u H locs hp w => ?_)
                    obtain ⟨hp, hu⟩ := hp
                    rw [hu] at w
                    rw [oA 1 _ (by omega), oA 2 _ (by omega), oA 10 _ (by omega)] at hp
                    refine lv_if_eq (tgt := 128) S.1 S.2.1 dX1_insert_104 (by decide) (fun h104 => ?_) (fun h104 => ?_)
                    · have hni : ¬ tw_In st a j := hp.elim (fun g => absurd (g.1.symm.trans h104) (by decide)) (fun g => g.2)
                      refine lv_iinc S.1 S.2.1 dX1_insert_128 hl (k := 0) rfl (tw_inc _) (by decide) rfl (fun ls hl => ?_)
                      refine lv_goto (tgt := 88) S.1 S.2.1 dX1_insert_131 (by decide) ?_
                      exact ih (j + 1) mo H locs ls (by omega) (by omega) (by omega) (by omega) ⟨fun y h1 h2 h3 => by rcases Nat.lt_or_ge y j with z | z; exact hmo.1 y h1 z h3; rw [show y = j by omega] at h3; exact absurd h3 hni, hmo.2.elim Or.inl (fun ⟨y, y1, y2, y3⟩ => Or.inr ⟨y, y1, by omega, y3⟩)⟩ w (lv_sub hl [0, 1, 2, 3, 4, 5] rfl)
                    · have hin : tw_In st a j := hp.elim (fun g => g.2) (fun g => absurd g.1 h104)
                      refine lv_aload_n S.1 S.2.1 dX1_insert_107 rfl (lv_at hl 2 rfl) ?_
                      refine yyg_number S w dX1_insert_108 ?_
                      refine lv_iload S.1 S.2.1 dX1_insert_111 (lv_at hl 0 rfl) ?_
                      refine yyl_0 S w (by omega) dX1_insert_113 ?_
                      refine tw_t (show _ = nI (st 0 j) from by rw [oA 0 _ (by omega)]) ?_
                      refine lv_iload S.1 S.2.1 dX1_insert_114 (lv_at hl 1 rfl) ?_
                      refine lv_icmp_le (tgt := 128) S.1 S.2.1 dX1_insert_116 (by decide) (fun h116 => ?_) (fun h116 => ?_)
                      · have hle : st 0 j ≤ mo := (tw_le (hnum _) (by omega)).mp h116
                        refine lv_iinc S.1 S.2.1 dX1_insert_128 hl (k := 0) rfl (tw_inc _) (by decide) rfl (fun ls hl => ?_)
                        refine lv_goto (tgt := 88) S.1 S.2.1 dX1_insert_131 (by decide) ?_
                        exact ih (j + 1) mo H locs ls (by omega) (by omega) (by omega) (by omega) ⟨fun y h1 h2 h3 => by rcases Nat.lt_or_ge y j with z | z; exact hmo.1 y h1 z h3; rw [show y = j by omega]; exact hle, hmo.2.elim Or.inl (fun ⟨y, y1, y2, y3⟩ => Or.inr ⟨y, y1, by omega, y3⟩)⟩ w (lv_sub hl [0, 1, 2, 3, 4, 5] rfl)
                      · have hlt : mo < st 0 j := Nat.not_le.mp (fun g => h116 ((tw_le (hnum _) (by omega)).mpr g))
                        refine lv_aload_n S.1 S.2.1 dX1_insert_119 rfl (lv_at hl 2 rfl) ?_
                        refine yyg_number S w dX1_insert_120 ?_
                        refine lv_iload S.1 S.2.1 dX1_insert_123 (lv_at hl 0 rfl) ?_
                        refine yyl_0 S w (by omega) dX1_insert_125 ?_
                        refine tw_t (show _ = nI (st 0 j) from by rw [oA 0 _ (by omega)]) ?_
                        refine lv_istore S.1 S.2.1 dX1_insert_126 hl (by decide) rfl (fun ls hl => ?_)
                        refine lv_iinc S.1 S.2.1 dX1_insert_128 hl (k := 1) rfl (tw_inc _) (by decide) rfl (fun ls hl => ?_)
                        refine lv_goto (tgt := 88) S.1 S.2.1 dX1_insert_131 (by decide) ?_
                        exact ih (j + 1) (st 0 j) H locs ls (by omega) (by omega) (by omega) (hnum j) ⟨fun y h1 h2 h3 => by rcases Nat.lt_or_ge y j with z | z; exact Nat.le_trans (hmo.1 y h1 z h3) (Nat.le_of_lt hlt); rw [show y = j by omega]; exact Nat.le_refl _, Or.inr ⟨j, hj1, by omega, hin, rfl⟩⟩ w (lv_sub hl [0, 1, 2, 3, 4, 5] rfl)
              refine lv_iconst (v := nI 0) S.1 S.2.1 dX1_insert_82 (by decide) ?_
              refine lv_istore S.1 S.2.1 dX1_insert_83 hl (by decide) rfl (fun ls hl => ?_)
              refine lv_iconst (v := nI 1) S.1 S.2.1 dX1_insert_85 (by decide) ?_
              refine lv_istore S.1 S.2.1 dX1_insert_86 hl (by decide) rfl (fun ls hl => ?_)
              exact loop (st 13 1 + 1) 1 0 H locs ls (by omega) (by omega) (by omega) (by omega) ⟨fun y h1 h2 => by omega, Or.inl rfl⟩ w (lv_sub hl [0, 1, 2, 3, 4, 5] rfl)
            · have hmd : st 9 a = 400 := (tw_eq (by have := h9 a ha; omega) (by omega)).mp h72
              refine lv_aload_n S.1 S.2.1 dX1_insert_75 rfl (lv_at hl 0 rfl) ?_
              refine lv_iconst (v := nI 2) S.1 S.2.1 dX1_insert_76 (by decide) ?_
              refine yyp_thrown S w dX1_insert_77 (fun H locs w => ?_)
              refine lv_iconst (v := nI 0) S.1 S.2.1 dX1_insert_80 (by decide) ?_
              exact tw_iretY S hr hlk0 w (Or.inr ⟨a, d, ha, rfl, hd1, rfl, Or.inr ⟨k, hk1, rfl, Or.inl ⟨hmd, tw_lkr_c hR⟩⟩⟩) dX1_insert_81
          · refine lv_iconst (v := nI 1) S.1 S.2.1 dX1_insert_50 (by decide) ?_
            refine lv_goto (tgt := 55) S.1 S.2.1 dX1_insert_51 (by decide) ?_
            refine tw_cyi (n := 1) S w hA (kX1_bad l D cI cZ x ad _ _ (b := 1) (by omega)) (tw_gV wl_X1_71 wn_X1_bad ws_X1_bad wi_X1 wy_X1_bad) rfl rfl (by decide +kernel) ⟨Nat.le_of_ble_eq_true rfl, Nat.le_of_ble_eq_true rfl⟩ rfl hl.1 rfl (Nat.le_of_ble_eq_true rfl) dX1_insert_55 ⟨Nat.le_of_ble_eq_true rfl, Nat.le_of_ble_eq_true rfl⟩ (fun r u H locs hp w => ?_)
            obtain ⟨hr9, hu⟩ := hp
            subst hr9
            rw [hu] at w
            refine lv_if_eq (tgt := 63) S.1 S.2.1 dX1_insert_58 (by decide) (fun h58 => absurd h58 (by decide)) (fun h58 => ?_)
            refine lv_iconst (v := nI 0) S.1 S.2.1 dX1_insert_61 (by decide) ?_
            exact tw_iretY S hr hlk0 w (Or.inr ⟨a, d, ha, rfl, hd1, rfl, Or.inl ⟨Or.inr (Int32.not_le.mp h47), tw_lkr_of hq⟩⟩) dX1_insert_62
      · refine lv_iconst (v := nI 1) S.1 S.2.1 dX1_insert_19 (by decide) ?_
        refine lv_goto (tgt := 24) S.1 S.2.1 dX1_insert_20 (by decide) ?_
        refine tw_cyi (n := 1) S w hA (kX1_bad l D cI cZ x ad _ _ (b := 1) (by omega)) (tw_gV wl_X1_71 wn_X1_bad ws_X1_bad wi_X1 wy_X1_bad) rfl rfl (by decide +kernel) ⟨Nat.le_of_ble_eq_true rfl, Nat.le_of_ble_eq_true rfl⟩ rfl hl.1 rfl (Nat.le_of_ble_eq_true rfl) dX1_insert_24 ⟨Nat.le_of_ble_eq_true rfl, Nat.le_of_ble_eq_true rfl⟩ (fun r u H locs hp w => ?_)
        obtain ⟨hr9, hu⟩ := hp
        subst hr9
        rw [hu] at w
        refine lv_if_eq (tgt := 32) S.1 S.2.1 dX1_insert_27 (by decide) (fun h27 => absurd h27 (by decide)) (fun h27 => ?_)
        refine lv_iconst (v := nI 0) S.1 S.2.1 dX1_insert_30 (by decide) ?_
        exact tw_iretY S hr hlk0 w (Or.inl ⟨Or.inr ⟨a, ha, rfl, Or.inr (Int32.not_le.mp h16)⟩, rfl⟩) dX1_insert_31
end
section
/-! class and reference side by side -/
theorem tw_rel_let {md : Nat → Nat} {s t : Nat → Nat → Nat} {g T : Nat → Nat} (h : tw_rel md s t g T) {i : Nat} (hi : i < s 9 0) (h2 : s 2 i = 0) : ∃ k, 1 ≤ k ∧ k < t 13 1 ∧ g k = i := by
  obtain ⟨hci, -, ⟨e1, -, -⟩, ⟨hli, ho, -⟩⟩ := h
  obtain ⟨p, p1, p2⟩ := hci.2.2.2.1.2.2.2.1 i hi h2
  exact ⟨T (p + 1), tw_pos hli (by omega) (by omega), hli.2.2.1 _ (by omega), by rw [← ho p p1, p2]⟩
theorem tw_rel_ginj {md : Nat → Nat} {s t : Nat → Nat → Nat} {g T : Nat → Nat} (h : tw_rel md s t g T) {a b : Nat} (u1 : 1 ≤ a) (u2 : a < t 13 1) (v1 : 1 ≤ b) (v2 : b < t 13 1) (e : g a = g b) : a = b := by
  obtain ⟨-, -, ⟨-, a2, -⟩, -⟩ := h
  have e1 := (a2 a u1 u2).2.2.2.2.2.2
  have e2 := (a2 b v1 v2).2.2.2.2.2.2
  rw [e] at e1
  omega
theorem tw_rel_gone {md : Nat → Nat} {s t : Nat → Nat → Nat} {g T : Nat → Nat} (h : tw_rel md s t g T) {c k : Nat} (hc : c < 4) (h1 : 1 ≤ k) (hk : k < t 13 1) : (∃ m j, m < 4 ∧ j < t 10 (4 * c + m) ∧ t 7 (400 * m + j) = 2 * k + 1) ↔ ∃ j, j < s 9 0 ∧ s 2 j = g k + 1 ∧ tw_has s c j := by
  have hlet := @tw_rel_let _ _ _ _ _ h
  have hinj := @tw_rel_ginj _ _ _ _ _ h
  obtain ⟨hci, ⟨-, r2, -, -⟩, ⟨-, a2, a3⟩, -⟩ := h
  obtain ⟨l1, l2, l3, -, -⟩ := hci.1
  constructor
  · rintro ⟨m, j, hm, hj, e⟩
    rw [r2 c m hc hm] at hj
    have hkm : j < md m := Nat.lt_of_lt_of_le hj (hci.2.1.1 c m hc hm)
    obtain ⟨x1, x2, x3⟩ := l1 m j hm hkm
    refine ⟨s (20 + m) j, x1, ?_, by unfold tw_has; rw [x2, x3]; exact hj⟩
    rcases Nat.eq_zero_or_pos (s 2 (s (20 + m) j)) with z | z
    · obtain ⟨k', k1, k2, k3⟩ := hlet x1 z
      have := (a2 k' k1 k2).2.2.2.2.2.2
      rw [k3, x2, x3, e] at this
      omega
    · obtain ⟨i, hi⟩ : ∃ i, s 2 (s (20 + m) j) = i + 1 := ⟨s 2 (s (20 + m) j) - 1, by omega⟩
      obtain ⟨k', y1, y2, y3, y4⟩ := a3 _ i x1 hi
      rw [x2, x3, e] at y4
      have : k = k' := by omega
      rw [hi, ← y3, this]
  · rintro ⟨j, j1, j2, j3⟩
    obtain ⟨k', y1, y2, y3, y4⟩ := a3 j (g k) j1 j2
    have : k' = k := hinj y1 y2 h1 hk y3
    subst this
    obtain ⟨m1, m2, -⟩ := l2 j j1
    exact ⟨s 0 j, s 1 j, m1, by rw [r2 c _ hc m1]; exact j3, y4⟩
/-- what the reference's walk wants, out of the relation -/
theorem tw_rel_lkp {md : Nat → Nat} {s t : Nat → Nat → Nat} {g T : Nat → Nat} (h : tw_rel md s t g T) (hc9 : tw_cache s t T) (hn : s 9 0 ≤ 512) {a : Nat} (ha : a < 4) : tw_lkp t a T (tw_f s a) := by
  have hlet := @tw_rel_let _ _ _ _ _ h
  have hin := fun k => @tw_rel_in _ _ _ _ _ h a k ha
  have hgone := fun k => @tw_rel_gone _ _ _ _ _ h a k ha
  have h' := h
  obtain ⟨hci, ⟨r1, r2, r3, r4⟩, ⟨e1, a2, a3⟩, ⟨hli, ho, z0, z1, hfs, htr, hnj, hup⟩⟩ := h
  have bd := tw_bd_of hci hn
  obtain ⟨⟨l1, l2, l3, l4, l5⟩, ⟨k1, k2⟩, ⟨b1, b2, b3⟩, hor, hgr⟩ := hci
  refine ⟨⟨by omega, by have := bd.1; omega⟩, hli, htr, hnj, by unfold tw_n; rw [z0, z1], fun k h1 h2 => ?_, fun m hm => by rw [r2 a m ha hm]; exact bd.2.2.2.1 a m ha hm, fun m k hm hk => ?_, fun k h1 h2 h3 h4 => ?_, fun p hp => ?_, fun hz => ?_, hc9.1⟩
  · obtain ⟨x1, x2, x3, x4, -⟩ := a2 k h1 h2
    have := bd.2.2.2.2.2.1 _ x1
    rw [x3, x4]
    omega
  · rw [r2 a m ha hm] at hk
    have hkm : k < md m := Nat.lt_of_lt_of_le hk (k1 a m ha hm)
    obtain ⟨x1, x2, x3⟩ := l1 m k hm hkm
    rcases Nat.eq_zero_or_pos (s 2 (s (20 + m) k)) with z | z
    · obtain ⟨k', y1, y2, y3⟩ := hlet x1 z
      have := (a2 k' y1 y2).2.2.2.2.2.2
      rw [y3, x2, x3] at this
      exact ⟨k', y2, Or.inl this⟩
    · obtain ⟨k', y1, y2, y3, y4⟩ := a3 (s (20 + m) k) (s 2 (s (20 + m) k) - 1) x1 (by omega)
      rw [x2, x3] at y4
      exact ⟨k', y2, Or.inr ⟨y4, y1⟩⟩
  · obtain ⟨i, hi, rfl⟩ := hli.2.2.2.2 k h2
    have hi1 : 1 ≤ i := by
      rcases Nat.eq_zero_or_pos i with z | z
      · rw [z, hli.2.1] at h1; omega
      · exact z
    obtain ⟨j, j1, j2, -, -⟩ := htr.1 i hi1 hi
    rw [j2] at h3 ⊢
    have hj1 : 1 ≤ j := by
      rcases Nat.eq_zero_or_pos j with z | z
      · rw [z, hli.2.1] at h3; exact absurd rfl h3
      · exact z
    have hTj := hli.2.2.1 j (by omega)
    have hTp := tw_pos hli hj1 (by omega)
    have hhas := (hin _ h1 h2).mp h4
    have hu := hup _ h1 h2 (by rw [j2]; exact h3)
    rw [j2] at hu
    have hgj := a2 _ hTp hTj
    have := k2 a _ ha (a2 _ h1 h2).1 hhas _ (l2 _ hgj.1).1
    refine (hin _ hTp hTj).mpr ?_
    unfold tw_has
    omega
  · have hT1 := hli.2.2.1 (p + 1) hp
    have hT0 := tw_pos hli (show 1 ≤ p + 1 by omega) hp
    unfold tw_f
    rw [ho p (by omega), b2 _ a ha]
    unfold tw_shows
    constructor
    · rintro ⟨x1, x2, x3, x4⟩
      refine ⟨(hin _ hT0 hT1).mpr x3, fun z => ?_⟩
      obtain ⟨j, j1, j2, j3⟩ := (hgone _ hT0 hT1).mp z
      exact x4 j j1 j2 j3
    · rintro ⟨x1, x2⟩
      refine ⟨(a2 _ hT0 hT1).1, (a2 _ hT0 hT1).2.1, (hin _ hT0 hT1).mp x1, fun j j1 j2 j3 => x2 ((hgone _ hT0 hT1).mpr ⟨j, j1, j2, j3⟩)⟩
  · have := hc9.2 (by omega)
    rw [hz, show a + 1 - 1 = a by omega] at this
    rw [e1, show s 9 1 + 1 - 1 = s 9 1 by omega]
    exact this
theorem tw_rel_congr {md : Nat → Nat} {s t t' : Nat → Nat → Nat} {g T : Nat → Nat} (h : tw_rel md s t g T) (hk : ∀ k y, k < 11 → t' k y = t k y) (hL : t' 13 1 = t 13 1) : tw_rel md s t' g T := by
  obtain ⟨hci, ⟨r1, r2, r3, r4⟩, ⟨e1, a2, a3⟩, ⟨hli, ho, z0, z1, hfs, htr, hnj, hup⟩⟩ := h
  have en : tw_n t' = tw_n t := funext fun k => by unfold tw_n; rw [hk 0 k (by omega), hk 1 k (by omega)]
  have e4 : t' 4 = t 4 := funext fun k => hk 4 k (by omega)
  have e5 : t' 5 = t 5 := funext fun k => hk 5 k (by omega)
  have e6 : t' 6 = t 6 := funext fun k => hk 6 k (by omega)
  refine ⟨hci, ⟨r1, fun c m hc hm => by rw [hk 10 _ (by omega)]; exact r2 c m hc hm, fun c hc => by rw [hk 9 _ (by omega)]; exact r3 c hc, fun i m hi hm => by rw [hk 8 _ (by omega)]; exact r4 i m hi hm⟩, ⟨by rw [hL]; exact e1, fun k h1 h2 => ?_, fun i j hi hj => ?_⟩, ?_⟩
  · rw [hL] at h2
    rw [hk 1 k (by omega), hk 2 k (by omega), hk 3 k (by omega), hk 7 _ (by omega), en]
    exact a2 k h1 h2
  · rw [hL, hk 7 _ (by omega)]
    exact a3 i j hi hj
  · unfold tw_rtree
    rw [hL, en, e4, e5, e6, hk 0 0 (by omega), hk 1 0 (by omega)]
    exact ⟨hli, ho, z0, z1, hfs, htr, hnj, hup⟩
theorem tw_rel_lkr {md : Nat → Nat} {s t u : Nat → Nat → Nat} {g T : Nat → Nat} {a c : Nat} (h : tw_rel md s t g T) (ha : a < 4) (hu : tw_lkr t u a T (tw_f s a) c) : tw_rel md s u g T ∧ tw_cache s u T := by
  obtain ⟨u0, u1, u2, u3, u4⟩ := hu
  have e1 := h.2.2.1.1
  refine ⟨tw_rel_congr h (fun k y hk => u4 k y (by omega) (by omega) (by omega)) (u4 13 1 (by omega) (by omega) (by omega)), by omega, fun _ => ?_⟩
  rw [u1, show a + 1 - 1 = a by omega]
  rw [e1, show s 9 1 + 1 - 1 = s 9 1 by omega] at u2 u3
  exact ⟨u2, u3⟩
theorem tw_rel_thr {md : Nat → Nat} {s t : Nat → Nat → Nat} {g T : Nat → Nat} {c : Nat} (h : tw_rel md s t g T) (hc : tw_cache s t T) : tw_rel md s (tw_up t 13 0 c) g T ∧ tw_cache s (tw_up t 13 0 c) T :=
  ⟨tw_rel_congr h (fun k y hk => tw_up_k (by omega)) (tw_up_i (by omega)), hc⟩
theorem tw_cache_0 {s u : Nat → Nat → Nat} {T : Nat → Nat} (h : u 13 2 = 0) : tw_cache s u T := ⟨by omega, fun z => by omega⟩
/-- letter or name, on both sides -/
theorem tw_pl_eq {s : Nat → Nat → Nat} {a L : Nat} {v r r' : Int32} {g1 g2 : Nat → Nat} (hL : L = s 9 1 + 1) (hb : s 9 1 ≤ 512) (h1 : tw_pl s a v r g1) (h2 : tw_plM L (tw_f s a) v r' g2) (he : ∀ p, p < s 9 1 → g1 p = g2 p) : r = r' := by
  rcases h1 with ⟨p, p1, p2, p3, rfl⟩ | ⟨rfl, n1⟩ <;> rcases h2 with ⟨q, q1, q2, q3, rfl⟩ | ⟨rfl, n2⟩
  · have c1 := tw_cn_le (tw_f s a) p
    have c2 := tw_cn_le (tw_f s a) q
    have : tw_cn (tw_f s a) p = tw_cn (tw_f s a) q := (tw_eq (by omega) (by omega)).mp (p3.symm.trans q3)
    have : p = q := tw_cn_inj p2 q2 this
    rw [← this, he p p1]
  · exact absurd p3 (n2 p (by omega) p2)
  · exact absurd q3 (n1 q (by omega) q2)
  · rfl
end
section
/-! calls that change what copies have -/
theorem tw_rel_kn {md : Nat → Nat} {s t s' t' : Nat → Nat → Nat} {g T : Nat → Nat} (h : tw_rel md s t g T) (hci : tw_ci md s') (ho : ∀ k x, (k < 5 ∨ k = 6 ∨ (8 < k ∧ k < 24)) → s' k x = s k x) (hd : ∀ c, c < 4 → s' (24 + c) c = md c) (hk : ∀ k y, k < 10 → t' k y = t k y) (hL : t' 13 1 = t 13 1) (h10 : ∀ c m, c < 4 → m < 4 → t' 10 (4 * c + m) = s' (24 + c) m) : tw_rel md s' t' g T := by
  have l2 := h.1.1.2.1
  obtain ⟨hci0, ⟨r1, r2, r3, r4⟩, ⟨e1, a2, a3⟩, ⟨hli, hor, z0, z1, hfs, htr, hnj, hup⟩⟩ := h
  have en : tw_n t' = tw_n t := funext fun k => by unfold tw_n; rw [hk 0 k (by omega), hk 1 k (by omega)]
  have e4 : t' 4 = t 4 := funext fun k => hk 4 k (by omega)
  have e5 : t' 5 = t 5 := funext fun k => hk 5 k (by omega)
  have e6 : t' 6 = t 6 := funext fun k => hk 6 k (by omega)
  have s9 : ∀ x, s' 9 x = s 9 x := fun x => ho 9 x (by omega)
  have s0 : ∀ x, s' 0 x = s 0 x := fun x => ho 0 x (by omega)
  have s1 : ∀ x, s' 1 x = s 1 x := fun x => ho 1 x (by omega)
  have s2 : ∀ x, s' 2 x = s 2 x := fun x => ho 2 x (by omega)
  refine ⟨hci, ⟨hd, h10, fun c hc => by rw [hk 9 _ (by omega)]; exact r3 c hc, fun i m hi hm => ?_⟩, ⟨by rw [hL, s9]; exact e1, fun k h1 h2 => ?_, fun i j hi hj => ?_⟩, ?_⟩
  · rw [s9] at hi
    rw [hk 8 _ (by omega), s0, s1, ho (16 + m) i (by omega)]
    exact r4 i m hi hm
  · rw [hL] at h2
    rw [s9, s2, s0, s1, ho 3 _ (by omega), ho 4 _ (by omega), hk 1 k (by omega), hk 2 k (by omega), hk 3 k (by omega), hk 7 _ (by omega), en]
    exact a2 k h1 h2
  · rw [s9] at hi
    rw [s2] at hj
    rw [hL, s0, s1, hk 7 _ (by omega)]
    exact a3 i j hi hj
  · unfold tw_rtree
    rw [hL, en, e4, e5, e6, hk 0 0 (by omega), hk 1 0 (by omega)]
    refine ⟨hli, fun p hp => ?_, z0, z1, hfs, htr, hnj, fun k h1 h2 h3 => ?_⟩
    · rw [s9] at hp
      rw [ho 6 p (by omega)]
      exact hor p hp
    · obtain ⟨i, hi, hTi⟩ := hli.2.2.2.2 k h2
      have hi1 : 1 ≤ i := by
        rcases Nat.eq_zero_or_pos i with z | z
        · rw [z, hli.2.1] at hTi; omega
        · exact z
      obtain ⟨j, j1, j2, -, -⟩ := htr.1 i hi1 hi
      rw [hTi] at j2
      have hj0 : 1 ≤ t 6 k := by omega
      have hj1 : t 6 k < t 13 1 := by rw [j2]; exact hli.2.2.1 j (by omega)
      have hg := (a2 _ hj0 hj1).1
      rw [s1, s0, ho (16 + s 0 (g (t 6 k))) _ (by have := (l2 _ hg).1; omega)]
      exact hup k h1 h2 h3
/-- bring -/
theorem tw_rel_br {md : Nat → Nat} {s t u u' : Nat → Nat → Nat} {g T : Nat → Nat} {a b k : Nat} (h : tw_rel md s t g T) (ha : a < 4) (hb : b < 4) (hab : a ≠ b) (hk : k < md a) (hno : ¬ tw_has s b (s (20 + a) k)) (hcan : ∀ j, j < 4 → s (16 + j) (s (20 + a) k) ≤ s (24 + b) j) (hu : u = tw_rcv s b (s (20 + a) k)) (hu' : u' = tw_up (tw_up (tw_up t 13 0 0) 10 (4 * b + a) (k + 1)) 13 2 0) : tw_rel md u u' g T ∧ tw_cache u u' T := by
  have hci := h.1
  obtain ⟨x1, x2, x3⟩ := h.1.1.1 a k ha hk
  have hl4 := (h.1.1.2.2.2.1 _ x1).1
  rw [x2, x3] at hl4
  have hc := hcan a ha
  unfold tw_has at hno
  rw [x2, x3] at hno
  have hk2 : s 1 (s (20 + a) k) = s (24 + b) (s 0 (s (20 + a) k)) := by rw [x2, x3]; omega
  obtain ⟨r1, r2, r3, r4⟩ := h.2.1
  subst hu
  subst hu'
  refine ⟨tw_rel_kn h (tw_rcv_ci hci hb x1 hk2 hcan) (fun k' x hx => tw_rcv_o hx) (fun c hc => ?_) (fun k' y hk' => ?_) rfl (fun c m hc hm => ?_), tw_cache_0 rfl⟩
  · rw [tw_rcv_k, x2, if_neg (by omega)]
    exact r1 c hc
  · rw [tw_up_k (by omega), tw_up_k (by omega), tw_up_k (by omega)]
  · rw [tw_up_k (by omega), tw_rcv_k, x2, x3]
    by_cases e : c = b ∧ m = a
    · rw [if_pos e, e.1, e.2, tw_up_e]
    · rw [if_neg e, tw_up_i (by omega), tw_up_k (by omega)]
      exact r2 c m hc hm
/-- what bring looks at, on both sides -/
theorem tw_rel_brc {md : Nat → Nat} {s t : Nat → Nat → Nat} {g T : Nat → Nat} {a b k : Nat} (h : tw_rel md s t g T) (ha : a < 4) (hb : b < 4) (hk : k < md a) : (tw_has s b (s (20 + a) k) ↔ k < t 10 (4 * b + a)) ∧ ∀ j, j < 4 → (s (16 + j) (s (20 + a) k) ≤ s (24 + b) j ↔ t 8 ((400 * a + k) * 4 + j) ≤ t 10 (4 * b + j)) := by
  obtain ⟨x1, x2, x3⟩ := h.1.1.1 a k ha hk
  obtain ⟨r1, r2, r3, r4⟩ := h.2.1
  constructor
  · unfold tw_has
    rw [x2, x3, r2 b a hb ha]
  · intro j hj
    have := r4 _ j x1 hj
    rw [x2, x3] at this
    rw [this, r2 b j hb hj]
/-- merge -/
theorem tw_rel_mg {md : Nat → Nat} {s t u u' sm : Nat → Nat → Nat} {g T : Nat → Nat} {a b n n' : Nat} (h : tw_rel md s t g T) (ha : a < 4) (hb : b < 4) (hm : tw_mrg md s u a b (s 9 0) n) (hm' : tw_mm t sm a b 4 n') (hu' : u' = tw_up sm 13 2 0) : n = n' ∧ tw_rel md u u' g T ∧ tw_cache u u' T := by
  have hmax := tw_mrg_end hm h.1 ha
  obtain ⟨c1, c2, c3, c4, c5, c6, c7⟩ := hm
  obtain ⟨m1, m2, m3, m4⟩ := hm'
  obtain ⟨r1, r2, r3, r4⟩ := h.2.1
  have k1 := h.1.2.1.1
  have e : ∀ j, j < 4 → sm 10 (4 * b + j) = u (24 + b) j := fun j hj => by rw [m1 j hj, if_pos hj, hmax j hj, r2 b j hb hj, r2 a j ha hj]
  subst hu'
  refine ⟨?_, tw_rel_kn h c1 c2 (fun c hc => ?_) (fun k' y hk' => ?_) ?_ (fun c m hc hm => ?_), tw_cache_0 (by rw [tw_up_e])⟩
  · rw [e 0 (by omega), e 1 (by omega), e 2 (by omega), e 3 (by omega), r2 b 0 hb (by omega), r2 b 1 hb (by omega), r2 b 2 hb (by omega), r2 b 3 hb (by omega)] at m4
    omega
  · by_cases z : c = b
    · rw [z, hmax b hb, r1 b hb]
      have := k1 a b ha hb
      omega
    · rw [c3 c c hc z]
      exact r1 c hc
  · rw [tw_up_k (by omega), m3 k' y (by omega), tw_up_k (by omega)]
  · rw [tw_up_i (by omega), m3 13 1 (by omega), tw_up_i (by omega)]
  · rw [tw_up_k (by omega)]
    by_cases z : c = b
    · rw [z]; exact e m hm
    · rw [m2 _ (fun j hj => by omega), r2 c m hc hm, c3 c m hc z]
/-- the class's new change -/
theorem tw_hadK_r {st s : Nat → Nat → Nat} {a i m y : Nat} (hm : m < 4) : tw_hadK st s a i 4 (16 + m) y = if y = i then st (24 + a) m else s (16 + m) y := by
  show tw_up (tw_up (tw_up (tw_up s (16 + 0) i (st (24 + a) 0)) (16 + 1) i (st (24 + a) 1)) (16 + 2) i (st (24 + a) 2)) (16 + 3) i (st (24 + a) 3) (16 + m) y = _
  by_cases g : y = i
  · rw [if_pos g, g]
    rcases (show m = 0 ∨ m = 1 ∨ m = 2 ∨ m = 3 by omega) with rfl | rfl | rfl | rfl
    · rw [tw_up_k (by omega), tw_up_k (by omega), tw_up_k (by omega), tw_up_e]
    · rw [tw_up_k (by omega), tw_up_k (by omega), tw_up_e]
    · rw [tw_up_k (by omega), tw_up_e]
    · rw [tw_up_e]
  · rw [if_neg g, tw_up_i g, tw_up_i g, tw_up_i g, tw_up_i g]
theorem tw_add_adds {md : Nat → Nat} {s s' : Nat → Nat → Nat} {a t : Nat} (ha : a < 4) (hm : s (24 + a) a = md a) (hs : ∀ k y, (k < 3 ∨ k = 5 ∨ k = 7 ∨ k = 8 ∨ 16 ≤ k ∨ (k = 9 ∧ y = 0) ∨ (k = 4 ∧ y < s 9 0)) → s' k y = tw_add s a t k y) : tw_adds md s s' a t := by
  have e3 : ∀ k y, k ≤ 2 → s' k y = tw_add3 s a t k y := fun k y hk => by rw [hs k y (by omega), tw_add_l hk ha]
  have e16 : ∀ m y, m < 4 → s' (16 + m) y = if y = s 9 0 then s (24 + a) m else s (16 + m) y := fun m y h => by
    rw [hs _ y (by omega)]
    unfold tw_add
    rw [tw_up_k (by omega), tw_up_k (by omega), tw_hadK_r h, tw_add3_o (by omega)]
  have e20 : ∀ d k, d < 4 → s' (20 + d) k = if d = a ∧ k = md a then s 9 0 else s (20 + d) k := fun d k h => by
    rw [hs _ k (by omega)]
    unfold tw_add
    rw [tw_up_k (by omega)]
    by_cases g : d = a
    · by_cases g2 : k = md a
      · rw [if_pos ⟨g, g2⟩, g, g2, ← hm, tw_up_e]
      · rw [if_neg (fun z => g2 z.2), tw_up_i (by rw [hm]; exact g2), tw_hadK_o (by omega) (by omega), tw_add3_o (by omega)]
    · rw [if_neg (fun z => g z.1), tw_up_k (by omega), tw_hadK_o (by omega) (by omega), tw_add3_o (by omega)]
  refine ⟨fun x hx => ?_, by rw [hs 0 _ (by omega), tw_add_0 ha], fun x hx => ?_, by rw [hs 1 _ (by omega), tw_add_1 ha, hm], fun x hx => ?_, by rw [hs 2 _ (by omega), tw_add_2 ha], fun m x h1 h2 => by rw [e16 m x h1, if_neg (by omega)], fun m h1 => by rw [e16 m _ h1, if_pos rfl], fun d k h1 h2 => by rw [e20 d k h1, if_neg (by omega)], by rw [e20 a _ ha, if_pos ⟨rfl, rfl⟩], fun d m h1 => by rw [hs _ m (by omega), tw_add_o (by omega) ha], fun x => by rw [hs 5 x (by omega), tw_add_o (by omega) ha], fun x => by rw [hs 7 x (by omega), tw_add_o (by omega) ha], fun x => by rw [hs 8 x (by omega), tw_add_o (by omega) ha], fun x hx => by rw [hs 4 x (by omega), tw_add_o (by omega) ha], by rw [hs 9 0 (by omega), tw_add_9]⟩
  · rw [e3 0 x (by omega)]; unfold tw_add3; rw [tw_up_k (by omega), tw_up_k (by omega), tw_up_i (by omega)]
  · rw [e3 1 x (by omega)]; unfold tw_add3; rw [tw_up_k (by omega), tw_up_i (by omega), tw_up_k (by omega)]
  · rw [e3 2 x (by omega)]; unfold tw_add3; rw [tw_up_i (by omega), tw_up_k (by omega), tw_up_k (by omega)]
/-- the reference's new change -/
theorem tw_dn_o {st : Nat → Nat → Nat} {a h k y : Nat} (h1 : k < 7 ∨ (k = 13 ∧ y ≠ 2)) : tw_dn st a h k y = st k y := by
  unfold tw_dn
  have e : ∀ z : Nat → Nat → Nat, tw_up z 13 2 0 k y = z k y := fun z => by
    by_cases g : k = 13
    · exact tw_up_i (by omega)
    · exact tw_up_k g
  rw [e, tw_up_k (by omega), tw_up_k (by omega), tw_dnK_o (by omega), tw_up_k (by omega)]
theorem tw_dn_7 {st : Nat → Nat → Nat} {a h y : Nat} : tw_dn st a h 7 y = if y = 400 * a + st 9 a then h else st 7 y := by
  unfold tw_dn
  rw [tw_up_k (by omega), tw_up_k (by omega), tw_up_k (by omega), tw_dnK_o (by omega)]
  by_cases g : y = 400 * a + st 9 a
  · rw [if_pos g, g, tw_up_e]
  · rw [if_neg g, tw_up_i g]
theorem tw_dn_9 {st : Nat → Nat → Nat} {a h y : Nat} : tw_dn st a h 9 y = if y = a then st 9 a + 1 else st 9 y := by
  unfold tw_dn
  rw [tw_up_k (by omega), tw_up_k (by omega)]
  by_cases g : y = a
  · rw [if_pos g, g, tw_up_e]
  · rw [if_neg g, tw_up_i g, tw_dnK_o (by omega), tw_up_k (by omega)]
theorem tw_dn_10 {st : Nat → Nat → Nat} {a h y : Nat} : tw_dn st a h 10 y = if y = 4 * a + a then st 10 (4 * a + a) + 1 else st 10 y := by
  unfold tw_dn
  rw [tw_up_k (by omega)]
  by_cases g : y = 4 * a + a
  · rw [if_pos g, g, tw_up_e]
  · rw [if_neg g, tw_up_i g, tw_up_k (by omega), tw_dnK_o (by omega), tw_up_k (by omega)]
theorem tw_dn_8 {st : Nat → Nat → Nat} {a h c k m : Nat} (hm : m < 4) : tw_dn st a h 8 ((400 * c + k) * 4 + m) = if 400 * c + k = 400 * a + st 9 a then st 10 (4 * a + m) else st 8 ((400 * c + k) * 4 + m) := by
  unfold tw_dn
  rw [tw_up_k (by omega), tw_up_k (by omega), tw_up_k (by omega)]
  show tw_up (tw_up (tw_up (tw_up (tw_up st 7 (400 * a + st 9 a) h) 8 ((400 * a + st 9 a) * 4 + 0) (st 10 (4 * a + 0))) 8 ((400 * a + st 9 a) * 4 + 1) (st 10 (4 * a + 1))) 8 ((400 * a + st 9 a) * 4 + 2) (st 10 (4 * a + 2))) 8 ((400 * a + st 9 a) * 4 + 3) (st 10 (4 * a + 3)) 8 ((400 * c + k) * 4 + m) = _
  by_cases g : 400 * c + k = 400 * a + st 9 a
  · rw [if_pos g, g]
    rcases (show m = 0 ∨ m = 1 ∨ m = 2 ∨ m = 3 by omega) with rfl | rfl | rfl | rfl
    · rw [tw_up_i (by omega), tw_up_i (by omega), tw_up_i (by omega), tw_up_e]
    · rw [tw_up_i (by omega), tw_up_i (by omega), tw_up_e]
    · rw [tw_up_i (by omega), tw_up_e]
    · rw [tw_up_e]
  · rw [if_neg g, tw_up_i (by omega), tw_up_i (by omega), tw_up_i (by omega), tw_up_i (by omega), tw_up_k (by omega)]
theorem tw_dn_13 {st : Nat → Nat → Nat} {a h : Nat} : tw_dn st a h 13 2 = 0 := by unfold tw_dn; rw [tw_up_e]
/-- what both sides say of a change made by a: the log -/
theorem tw_rel_new {md : Nat → Nat} {s t s4 s2 : Nat → Nat → Nat} {g T : Nat → Nat} {a w v : Nat} (h : tw_rel md s t g T) (ha : a < 4) (hmd : md a < 400) (hadds : tw_adds md s s4 a w) (hci : tw_ci (tw_md md a) s4) (h10 : ∀ y, s2 10 y = t 10 y) (h9 : ∀ y, s2 9 y = t 9 y) (h8 : ∀ y, s2 8 y = t 8 y) :
    tw_ci (tw_md md a) (tw_rcv s4 a (s 9 0)) ∧ tw_rlog (tw_md md a) (tw_rcv s4 a (s 9 0)) (tw_dn s2 a v) := by
  obtain ⟨hci0, ⟨r1, r2, r3, r4⟩, -, -⟩ := h
  obtain ⟨l1, l2, l3, -, -⟩ := hci0.1
  obtain ⟨a0, b0, a1, b1, a2, b2, a16, b16, a20, b20, a24, a5, a7, a8, a4, b9⟩ := hadds
  have hk : s4 1 (s 9 0) = s4 (24 + a) (s4 0 (s 9 0)) := by rw [b1, b0, a24 a _ ha, r1 a ha]
  have e9 : s2 9 a = md a := by rw [h9, r3 a ha]
  refine ⟨tw_rcv_ci hci ha (by rw [b9]; omega) hk (fun m hm => by rw [b16 m hm, a24 a m ha]; exact Nat.le_refl _), fun c hc => ?_, fun c m hc hm => ?_, fun c hc => ?_, fun i m hi hm => ?_⟩
  · rw [tw_rcv_k, b0, b1]
    by_cases e : c = a
    · rw [if_pos ⟨e, e⟩, e, tw_md_c]
    · rw [if_neg (fun z => e z.1), a24 c c hc, tw_md_ne e]
      exact r1 c hc
  · rw [tw_dn_10, h10, h10, tw_rcv_k, b0, b1]
    by_cases e : c = a ∧ m = a
    · rw [if_pos (by omega), if_pos e, r2 a a ha ha, r1 a ha]
    · rw [if_neg (by omega), if_neg e, a24 c m hc]
      exact r2 c m hc hm
  · rw [tw_dn_9, e9, h9]
    by_cases e : c = a
    · rw [if_pos e, e, tw_md_c]
    · rw [if_neg e, tw_md_ne e]
      exact r3 c hc
  · rw [tw_rcv_o (by omega), b9] at hi
    rw [tw_rcv_o (by omega), tw_rcv_o (by omega), tw_rcv_o (by omega), tw_dn_8 hm, e9, h10, h8]
    rcases Nat.lt_or_ge i (s 9 0) with z | z
    · obtain ⟨x1, x2, -⟩ := l2 i z
      have x4 := l3 _ x1
      rw [a0 i z, a1 i z, a16 m i hm z, if_neg (fun q => by have := tw_idx (by omega) hmd q; rw [this.1] at x2; omega)]
      exact r4 i m z hm
    · have : i = s 9 0 := by omega
      rw [this, b0, b1, b16 m hm, if_pos rfl]
      exact r2 a m ha hm
/-- remove -/
theorem tw_rel_rm {md : Nat → Nat} {s t u u' s1 : Nat → Nat → Nat} {g T : Nat → Nat} {a p c : Nat} (h : tw_rel md s t g T) (ha : a < 4) (hmd : md a < 400) (hp : p < s 9 1) (hf : tw_f s a p = true) (hs1 : tw_lkr t s1 a T (tw_f s a) c) (hu : u = tw_rcv (tw_add s a (s 6 p + 1)) a (s 9 0)) (hu' : u' = tw_dn s1 a (2 * T (p + 1) + 1)) : tw_rel (tw_md md a) u u' g T ∧ tw_cache u u' T := by
  have h' := tw_rel_congr h (t' := s1) (fun k y hk => hs1.2.2.2.2 k y (by omega) (by omega) (by omega)) (hs1.2.2.2.2 13 1 (by omega) (by omega) (by omega))
  have hr1 := h.2.1.1 a ha
  have hadds : tw_adds md s (tw_add s a (s 6 p + 1)) a (s 6 p + 1) := tw_add_adds ha hr1 (fun _ _ _ => rfl)
  have hsh := (h.1.2.2.1.2.1 (s 6 p) a ha).mp hf
  have hci : tw_ci (tw_md md a) (tw_add s a (s 6 p + 1)) := tw_rem_ci hadds h.1 ha hr1 hmd hsh.1 hsh.2.1 hsh.2.2.1 (by rw [tw_add_o (by omega) ha]) (fun q => by rw [tw_add_o (by omega) ha])
  obtain ⟨n1, n2⟩ := tw_rel_new (v := 2 * T (p + 1) + 1) h' ha hmd hadds hci (fun _ => rfl) (fun _ => rfl) (fun _ => rfl)
  have l2 := h.1.1.2.1
  have l3 := h.1.1.2.2.1
  have r3 := h'.2.1.2.2.1
  obtain ⟨-, -, ⟨e1, a2', a3'⟩, ⟨hli, hor, z0, z1, hfs, htr, hnj, hup⟩⟩ := h'
  obtain ⟨a0, b0, a1, b1, a2, b2, a16, b16, a20, b20, a24, a5, a7, a8, a4, b9⟩ := hadds
  subst hu
  subst hu'
  have e9 : s1 9 a = md a := r3 a ha
  have en : tw_n (tw_dn s1 a (2 * T (p + 1) + 1)) = tw_n s1 := funext fun k => by unfold tw_n; rw [tw_dn_o (by omega), tw_dn_o (by omega)]
  have d4 : tw_dn s1 a (2 * T (p + 1) + 1) 4 = s1 4 := funext fun k => tw_dn_o (by omega)
  have d5 : tw_dn s1 a (2 * T (p + 1) + 1) 5 = s1 5 := funext fun k => tw_dn_o (by omega)
  have d6 : tw_dn s1 a (2 * T (p + 1) + 1) 6 = s1 6 := funext fun k => tw_dn_o (by omega)
  have dL : tw_dn s1 a (2 * T (p + 1) + 1) 13 1 = s1 13 1 := tw_dn_o (by omega)
  have idx : ∀ i, i < s 9 0 → ¬ 400 * s 0 i + s 1 i = 400 * a + md a := fun i hi q => by
    obtain ⟨x1, x2, -⟩ := l2 i hi
    have := tw_idx (by have := l3 _ x1; omega) hmd q
    rw [this.1] at x2
    omega
  have s91 : tw_add s a (s 6 p + 1) 9 1 = s 9 1 := tw_add_o (by omega) ha
  refine ⟨⟨n1, n2, ⟨by rw [dL, tw_rcv_o (by omega), s91]; exact e1, fun k h1 h2 => ?_, fun i j hi hj => ?_⟩, ?_⟩, tw_cache_0 tw_dn_13⟩
  · rw [dL] at h2
    obtain ⟨x1, x2, x3, x4, x5, x6, x7⟩ := a2' k h1 h2
    rw [tw_rcv_o (by omega), tw_rcv_o (by omega), tw_rcv_o (by omega), tw_rcv_o (by omega), tw_rcv_o (by omega), tw_rcv_o (by omega), b9, a2 _ x1, a0 _ x1, a1 _ x1, a4 _ x1, tw_add_o (k := 3) (by omega) ha, en, tw_dn_o (by omega), tw_dn_o (by omega), tw_dn_o (by omega), tw_dn_7, e9, if_neg (idx _ x1)]
    exact ⟨by omega, x2, x3, x4, x5, x6, x7⟩
  · rw [tw_rcv_o (by omega), b9] at hi
    rw [tw_rcv_o (by omega)] at hj
    rw [dL, tw_rcv_o (by omega), tw_rcv_o (by omega), tw_dn_7, e9]
    rcases Nat.lt_or_ge i (s 9 0) with z | z
    · rw [a2 i z] at hj
      rw [a0 i z, a1 i z, if_neg (idx i z)]
      exact a3' i j z hj
    · have : i = s 9 0 := by omega
      rw [this, b2] at hj
      rw [this, b0, b1, if_pos rfl]
      exact ⟨T (p + 1), tw_pos hli (by omega) (by omega), hli.2.2.1 _ (by omega), by rw [← hor p hp]; omega, rfl⟩
  · unfold tw_rtree
    rw [dL, en, d4, d5, d6, tw_dn_o (by omega), tw_dn_o (by omega), tw_rcv_o (by omega), s91]
    refine ⟨hli, fun q hq => ?_, z0, z1, hfs, htr, hnj, fun k h1 h2 h3 => ?_⟩
    · rw [tw_rcv_o (by omega), tw_add_o (by omega) ha]
      exact hor q hq
    · obtain ⟨i, hi, hTi⟩ := hli.2.2.2.2 k h2
      have hi1 : 1 ≤ i := by
        rcases Nat.eq_zero_or_pos i with z | z
        · rw [z, hli.2.1] at hTi; omega
        · exact z
      obtain ⟨j, j1, j2, -, -⟩ := htr.1 i hi1 hi
      rw [hTi] at j2
      have hj0 : 1 ≤ s1 6 k := by omega
      have hj1 : s1 6 k < s1 13 1 := by rw [j2]; exact hli.2.2.1 j (by omega)
      have hg := (a2' _ hj0 hj1).1
      have hgk := (a2' _ h1 h2).1
      have hl := (l2 _ hg).1
      rw [tw_rcv_o (k := 1) (by omega), tw_rcv_o (k := 0) (by omega), a1 _ hg, a0 _ hg, tw_rcv_o (by omega), a16 _ _ hl hgk]
      exact hup k h1 h2 h3
end
section
/-! insert, on both sides -/
theorem tw_rel_mo {md : Nat → Nat} {s t : Nat → Nat → Nat} {g T : Nat → Nat} {a mo : Nat} (h : tw_rel md s t g T) (ha : a < 4) (hmo : tw_most t a (t 13 1) mo) : mo = s 7 a := by
  have hlet := @tw_rel_let _ _ _ _ _ h
  have hin := fun k => @tw_rel_in _ _ _ _ _ h a k ha
  have l2 := h.1.1.2.1
  obtain ⟨g1, g2⟩ := h.1.2.2.2.2 a ha
  have a2 := h.2.2.1.2.1
  have num : ∀ k, 1 ≤ k → k < t 13 1 → t 0 k = s 4 (g k) / 4 := fun k h1 h2 => by
    obtain ⟨x1, x2, x3, x4, x5, x6, x7⟩ := a2 k h1 h2
    have := (l2 _ x1).1
    unfold tw_n at x6
    omega
  have hA : s 7 a ≤ mo := by
    rcases g2 with z | ⟨i, i1, i2, i3, i4⟩
    · omega
    · obtain ⟨k, k1, k2, k3⟩ := hlet i1 i2
      have := hmo.1 k k1 k2 ((hin k k1 k2).mpr (by rw [k3]; exact i3))
      rw [num k k1 k2, k3] at this
      omega
  have hB : mo ≤ s 7 a := by
    rcases hmo.2 with z | ⟨k, k1, k2, k3, k4⟩
    · omega
    · obtain ⟨x1, x2, -⟩ := a2 k k1 k2
      have := g1 _ x1 x2 ((hin k k1 k2).mp k3)
      rw [← num k k1 k2] at this
      omega
  omega
theorem tw_rel_bh {s : Nat → Nat → Nat} {a k b b' L : Nat} (hL : L = s 9 1 + 1) (h1 : tw_bh s a k b) (h2 : tw_bhM L (tw_f s a) k b') : b = b' := by
  rcases h1 with ⟨e1, rfl⟩ | ⟨p, p1, p2, p3, rfl⟩ <;> rcases h2 with ⟨e2, rfl⟩ | ⟨q, q1, q2, q3, rfl⟩
  · rfl
  · omega
  · omega
  · rw [tw_cn_inj p2 q2 (by omega)]
/-- a letter's place, the same on both sides -/
theorem tw_rel_q {x b q q' lt L : Nat} {n1 n2 : Nat → Nat} (hL : L = lt + 1) (he : ∀ j, j < lt → n1 j = n2 (j + 1)) (hb : b ≤ q) (hq : q ≤ lt) (h1 : ∀ j, b ≤ j → j < q → x < n1 j) (h2 : q < lt → n1 q ≤ x) (hb' : b < q') (hq' : q' ≤ L) (h3 : ∀ j, b < j → j < q' → x < n2 j) (h4 : q' < L → n2 q' < x) : q' = q + 1 := by
  rcases Nat.lt_trichotomy q' (q + 1) with z | z | z
  · have h5 := h4 (by omega)
    have h6 := h1 (q' - 1) (by omega) (by omega)
    rw [he (q' - 1) (by omega), show q' - 1 + 1 = q' by omega] at h6
    omega
  · exact z
  · have h5 := h3 (q + 1) (by omega) z
    rw [← he q (by omega)] at h5
    have := h2 (by omega)
    omega
theorem tw_rel_ins {md : Nat → Nat} {s t u u' : Nat → Nat → Nat} {g T : Nat → Nat} {a k d bh q : Nat} (h : tw_rel md s t g T) (ha : a < 4) (hmd : md a < 400) (hbh : tw_bh s a k bh) (g1 : bh ≤ q) (g2 : q ≤ s 9 1) (g3 : ∀ j, bh ≤ j → j < q → tw_new s a d 4 (s 9 0) < tw_new s a d 4 (s 6 j)) (g4 : q < s 9 1 → tw_new s a d 4 (s 6 q) ≤ tw_new s a d 4 (s 9 0)) (hu : u = tw_rcv (tw_wv (tw_new s a d) q (s 9 0)) a (s 9 0)) (hM : tw_insM t u' a k d T (tw_f s a)) :
    tw_rel (tw_md md a) u u' (fun y => if y = t 13 1 then s 9 0 else g y) (tw_ins T (q + 1) (t 13 1)) ∧ tw_cache u u' (tw_ins T (q + 1) (t 13 1)) := by
  obtain ⟨mo, b, q', s2, hmo, hbm, m1, m2, m3, m4, e131, ec, ez0, ez1, ez2, ez3, e6o, e6L, e4z, htr', eo, e130, hu'⟩ := hM
  have hmo' := tw_rel_mo h ha hmo
  subst hmo'
  have hr1 := h.2.1.1 a ha
  have hhas := fun i => @tw_rel_in _ _ _ _ _ h a i ha
  have h0 := h
  obtain ⟨hci, ⟨r1, r2, r3, r4⟩, ⟨e1, a2', a3'⟩, ⟨hli, hor, z0, z1, hfs, htr, hnj, hup⟩⟩ := h
  have hbb := tw_rel_bh e1 hbh hbm
  subst hbb
  have hlt := hci.2.2.2.1.1
  have od := hci.2.2.2.1.2.1
  have nmx : tw_new s a d 4 (s 9 0) = 4 * (s 7 a + 1) + a := by rw [tw_new_4 ha, if_pos rfl]
  have nmo : ∀ j, j < s 9 1 → tw_new s a d 4 (s 6 j) = tw_n t (T (j + 1)) := fun j hj => by
    have hT := hli.2.2.1 (j + 1) (by omega)
    have hT0 := tw_pos hli (show 1 ≤ j + 1 by omega) (by omega)
    rw [tw_new_4 ha, if_neg (by have := (od j hj).1; omega), hor j hj, (a2' _ hT0 hT).2.2.2.2.2.1]
  have hqq : q' = q + 1 := tw_rel_q (x := 4 * (s 7 a + 1) + a) (n1 := fun j => tw_new s a d 4 (s 6 j)) (n2 := fun j => tw_n t (T j)) e1 nmo g1 g2 (by rw [nmx] at g3; exact g3) (by rw [nmx] at g4; exact g4) m1 m2 m3 m4
  subst hqq
  -- the class
  have wo : ∀ c y, c ≠ 3 → c ≠ 4 → c ≠ 6 → (c ≠ 9 ∨ y ≠ 1) → tw_wv (tw_new s a d) q (s 9 0) c y = tw_add s a 0 c y := fun c y h3 h4 h6 h9 => by rw [tw_wv_o h6 h9, tw_new_o h3 h4]
  have n91 : tw_new s a d 9 1 = s 9 1 := by rw [tw_new_o (by omega) (by omega), tw_add_o (by omega) ha]
  have n6 : tw_new s a d 6 = s 6 := funext fun j => by rw [tw_new_o (by omega) (by omega), tw_add_o (by omega) ha]
  have hadds : tw_adds md s (tw_wv (tw_new s a d) q (s 9 0)) a 0 := tw_add_adds ha hr1 (fun c y hc => by
    by_cases z : c = 4
    · have hy : y < s 9 0 := by omega
      rw [z, tw_wv_o (by omega) (by omega), tw_new_4 ha, if_neg (by omega), tw_add_o (by omega) ha]
    · exact wo c y (by omega) z (by omega) (by omega))
  have w91 : tw_wv (tw_new s a d) q (s 9 0) 9 1 = s 9 1 + 1 := by rw [tw_wv_9, n91]
  have w6 : ∀ p, p < s 9 1 + 1 → tw_wv (tw_new s a d) q (s 9 0) 6 p = tw_ins (s 6) q (s 9 0) p := fun p hp => by rw [tw_wv_6 (by rw [n91]; exact hp), n6]
  have w4 : tw_wv (tw_new s a d) q (s 9 0) 4 (s 9 0) = 4 * (s 7 a + 1) + a := by rw [tw_wv_o (by omega) (by omega), nmx]
  have w3 : ∀ y, tw_wv (tw_new s a d) q (s 9 0) 3 y = if y = s 9 0 then d else s 3 y := fun y => by
    rw [tw_wv_o (by omega) (by omega)]
    unfold tw_new
    rw [tw_up_k (by omega)]
    by_cases z : y = s 9 0
    · rw [if_pos z, z, tw_up_e]
    · rw [if_neg z, tw_up_i z, tw_add_o (by omega) ha]
  have hci4 : tw_ci (tw_md md a) (tw_wv (tw_new s a d) q (s 9 0)) := tw_ins_ci hadds hci ha hr1 hmd w91 g2 w6 w4
  generalize tw_wv (tw_new s a d) q (s 9 0) = s4 at hu hadds w91 w6 w4 w3 hci4
  obtain ⟨n1, n2⟩ := tw_rel_new (v := 2 * t 13 1) h0 ha hmd hadds hci4 (s2 := s2) (fun y => eo 10 y (by omega) (by omega)) (fun y => eo 9 y (by omega) (by omega)) (fun y => eo 8 y (by omega) (by omega))
  have l2 := hci.1.2.1
  have l3 := hci.1.2.2.1
  obtain ⟨a0, b0, a1, b1, a2, b2, a16, b16, a20, b20, a24, a5, a7, a8, a4, b9⟩ := hadds
  subst hu
  subst hu'
  have e9 : s2 9 a = md a := by rw [eo 9 a (by omega) (by omega)]; exact r3 a ha
  have en : tw_n (tw_dn s2 a (2 * t 13 1)) = tw_n s2 := funext fun y => by unfold tw_n; rw [tw_dn_o (by omega), tw_dn_o (by omega)]
  have d4 : tw_dn s2 a (2 * t 13 1) 4 = s2 4 := funext fun y => tw_dn_o (by omega)
  have d5 : tw_dn s2 a (2 * t 13 1) 5 = s2 5 := funext fun y => tw_dn_o (by omega)
  have d6 : tw_dn s2 a (2 * t 13 1) 6 = s2 6 := funext fun y => tw_dn_o (by omega)
  have dL : tw_dn s2 a (2 * t 13 1) 13 1 = t 13 1 + 1 := by rw [tw_dn_o (by omega), e131]
  have idx : ∀ i, i < s 9 0 → ¬ 400 * s 0 i + s 1 i = 400 * a + md a := fun i hi z => by
    obtain ⟨x1, x2, -⟩ := l2 i hi
    have := tw_idx (by have := l3 _ x1; omega) hmd z
    rw [this.1] at x2
    omega
  have n2o : ∀ y, y ≠ t 13 1 → tw_n s2 y = tw_n t y := fun y hy => by unfold tw_n; rw [ec 0 y (by omega) hy, ec 1 y (by omega) hy]
  have n2L : tw_n s2 (t 13 1) = 4 * (s 7 a + 1) + a := by unfold tw_n; rw [ez0, ez1]
  refine ⟨⟨n1, n2, ⟨by rw [dL, tw_rcv_o (by omega), w91, e1], fun y h1 h2 => ?_, fun i j hi hj => ?_⟩, ?_⟩, tw_cache_0 tw_dn_13⟩
  · rw [dL] at h2
    dsimp only
    rw [tw_rcv_o (k := 9) (by omega), tw_rcv_o (k := 2) (by omega), tw_rcv_o (k := 0) (by omega), tw_rcv_o (k := 1) (by omega), tw_rcv_o (k := 3) (by omega), tw_rcv_o (k := 4) (by omega), b9, en, tw_dn_o (k := 1) (by omega), tw_dn_o (k := 2) (by omega), tw_dn_o (k := 3) (by omega), tw_dn_7, e9]
    by_cases z : y = t 13 1
    · rw [if_pos z, z, b2, b0, b1, ez1, ez2, ez3, w3, if_pos rfl, w4, n2L, if_pos rfl]
      exact ⟨by omega, rfl, rfl, r3 a ha, rfl, rfl, rfl⟩
    · obtain ⟨x1, x2, x3, x4, x5, x6, x7⟩ := a2' y h1 (by omega)
      rw [if_neg z, a2 _ x1, a0 _ x1, a1 _ x1, a4 _ x1, w3, if_neg (by omega), ec 1 y (by omega) z, ec 2 y (by omega) z, ec 3 y (by omega) z, n2o y z, if_neg (idx _ x1), eo 7 _ (by omega) (by omega)]
      exact ⟨by omega, x2, x3, x4, x5, x6, x7⟩
  · rw [tw_rcv_o (by omega), b9] at hi
    rw [tw_rcv_o (by omega)] at hj
    rw [dL, tw_rcv_o (by omega), tw_rcv_o (by omega), tw_dn_7, e9]
    rcases Nat.lt_or_ge i (s 9 0) with z | z
    · rw [a2 i z] at hj
      obtain ⟨y, y1, y2, y3, y4⟩ := a3' i j z hj
      rw [a0 i z, a1 i z, if_neg (idx i z), eo 7 _ (by omega) (by omega)]
      exact ⟨y, y1, by omega, by dsimp only; rw [if_neg (by omega)]; exact y3, y4⟩
    · have : i = s 9 0 := by omega
      rw [this, b2] at hj
      omega
  · unfold tw_rtree
    rw [dL, en, d4, d5, d6, tw_dn_o (by omega), tw_dn_o (by omega), tw_rcv_o (by omega), w91]
    refine ⟨tw_ins_list hli (by omega) m2, fun p hp => ?_, by rw [ec 0 0 (by omega) (by omega)]; exact z0, by rw [ec 1 0 (by omega) (by omega)]; exact z1, e4z, htr', fun i j hi hj e => ?_, fun y h1 h2 h3 => ?_⟩
    · rw [tw_rcv_o (by omega), w6 p hp]
      dsimp only
      rcases Nat.lt_trichotomy p q with z | z | z
      · rw [tw_ins_lt z, tw_ins_lt (by omega), if_neg (by have := hli.2.2.1 (p + 1) (by omega); omega)]
        exact hor p (by omega)
      · rw [z, tw_ins_eq, tw_ins_eq, if_pos rfl]
      · rw [tw_ins_gt z, tw_ins_gt (by omega), show p + 1 - 1 = (p - 1) + 1 by omega, if_neg (by have := hli.2.2.1 (p - 1 + 1) (by omega); omega)]
        exact hor (p - 1) (by omega)
    · have hxx : ∀ j, j < t 13 1 → tw_n t (T j) ≠ 4 * (s 7 a + 1) + a := by
        intro j hj e
        rcases Nat.eq_zero_or_pos j with z | z
        · rw [z, hli.2.1] at e
          unfold tw_n at e
          rw [z0, z1] at e
          omega
        · have hT := hli.2.2.1 j hj
          have hT0 := tw_pos hli z hj
          obtain ⟨x1, x2, x3, x4, x5, x6, x7⟩ := a2' _ hT0 hT
          have hl := l2 _ x1
          have ee : t 1 (T j) = a ∧ t 0 (T j) = s 7 a + 1 := by unfold tw_n at e; omega
          have hin : t 2 (T j) < t 10 (4 * a + t 1 (T j)) := by
            rw [ee.1, r2 a a ha ha, r1 a ha, x4]
            have := hl.2.1
            rw [← x3, ee.1] at this
            exact this
          have := hmo.1 _ hT0 hT hin
          omega
      have ni : ∀ i, i < t 13 1 + 1 → (i = q + 1 ∧ tw_n s2 (tw_ins T (q + 1) (t 13 1) i) = 4 * (s 7 a + 1) + a) ∨ ∃ i0, i0 < t 13 1 ∧ tw_n s2 (tw_ins T (q + 1) (t 13 1) i) = tw_n t (T i0) ∧ ((i < q + 1 ∧ i = i0) ∨ (q + 1 < i ∧ i = i0 + 1)) := by
        intro i hi
        rcases Nat.lt_trichotomy i (q + 1) with z | z | z
        · refine Or.inr ⟨i, by omega, ?_, Or.inl ⟨z, rfl⟩⟩
          rw [tw_ins_lt z, n2o _ (by have := hli.2.2.1 i (by omega); omega)]
        · exact Or.inl ⟨z, by rw [z, tw_ins_eq, n2L]⟩
        · refine Or.inr ⟨i - 1, by omega, ?_, Or.inr ⟨z, by omega⟩⟩
          rw [tw_ins_gt z, n2o _ (by have := hli.2.2.1 (i - 1) (by omega); omega)]
      rcases ni i hi with ⟨x1, x2⟩ | ⟨i0, x1, x2, x3⟩ <;> rcases ni j hj with ⟨y1, y2⟩ | ⟨j0, y1, y2, y3⟩
      · omega
      · rw [x2, y2] at e
        exact absurd e.symm (hxx j0 y1)
      · rw [x2, y2] at e
        exact absurd e (hxx i0 x1)
      · rw [x2, y2] at e
        have := hnj i0 j0 x1 y1 e
        omega
    · dsimp only
      by_cases z : y = t 13 1
      · rw [z, e6L] at h3 ⊢
        have hbL : bh < t 13 1 := by omega
        have hb1 : 1 ≤ bh := by
          rcases Nat.eq_zero_or_pos bh with w | w
          · rw [w, hli.2.1] at h3; exact absurd rfl h3
          · exact w
        have hT := hli.2.2.1 bh hbL
        have hT0 := tw_pos hli hb1 hbL
        obtain ⟨x1, -⟩ := a2' _ hT0 hT
        rw [if_neg (by omega), if_pos rfl]
        rcases hbh with ⟨-, w⟩ | ⟨p, p1, p2, -, w⟩
        · omega
        · have hs := (hci.2.2.1.2.1 (s 6 p) a ha).mp p2
          rw [hor p p1, ← w] at hs
          have hl := (l2 _ x1).1
          rw [tw_rcv_o (k := 1) (by omega), tw_rcv_o (k := 0) (by omega), a1 _ x1, a0 _ x1, tw_rcv_o (by omega), b16 _ hl]
          exact hs.2.2.1
      · have hy : y < t 13 1 := by omega
        rw [e6o y z] at h3 ⊢
        obtain ⟨i, hi, hTi⟩ := hli.2.2.2.2 y hy
        have hi1 : 1 ≤ i := by
          rcases Nat.eq_zero_or_pos i with w | w
          · rw [w, hli.2.1] at hTi; omega
          · exact w
        obtain ⟨j, j1, j2, -, -⟩ := htr.1 i hi1 hi
        rw [hTi] at j2
        have hj0 : 1 ≤ t 6 y := by omega
        have hj1 : t 6 y < t 13 1 := by rw [j2]; exact hli.2.2.1 j (by omega)
        have hg := (a2' _ hj0 hj1).1
        have hgk := (a2' _ h1 hy).1
        have hl := (l2 _ hg).1
        rw [if_neg (by omega), if_neg z, tw_rcv_o (k := 1) (by omega), tw_rcv_o (k := 0) (by omega), a1 _ hg, a0 _ hg, tw_rcv_o (by omega), a16 _ _ hl hgk]
        exact hup y h1 hy h3
end
section
/-- a class's arrays have one class -/
theorem tw_same {D : va_G} {cl : List vw_C} {tys : List (ClassId × FieldType)} {s : State} {c1 c2 : ClassId} {ty : FieldType} (ho : ∀ C, ty ≠ .object C) (t0 t1 : Nat) (hK : va_K D cl tys s) (h1 : tys[t0]? = some (c1, ty)) (h2 : tys[t1]? = some (c2, ty)) : c2 = c1 := by
  have a := (hK.2 t0 _ h1).2
  have b := (hK.2 t1 _ h2).2
  cases ty <;> first | exact Option.some.inj (b.symm.trans a) | exact absurd rfl (ho _)
section TWN
variable {p : Program} {l : Launch} {e : Env} {R : Room} {s : State} {m : MethodId} {args : Array Value} {below : List Frame} {meth : Method} {c : Code} {H : Heap} {locs : List Loc} {cells slots : Nat} {Q : State → Prop}
variable {cc : ByteArray} {pc nL : Nat} {ls : Array Slot} {rest : List Value} {D : va_G} {A : Nat → Prop} {H0 : Heap} {own : String} {ws : va_W} {tys : List (ClassId × FieldType)}
theorem tw_newa (S : CallFix p m c cc nL s args tw_wall own) {atype : ArrayType} (harr : Cond.arrayClass (newarray.typeOf atype) ∈ tw_wall) {ty : FieldType} (hty : newarray.typeOf atype = ty) (ho : ∀ C, ty ≠ .object C) (hK : va_K D twCl tys s) (hP : va_P D twCl ws H) (hD : va_D A ws) (hS : va_S A H0 H locs) (hA : ∀ q, H0.size ≤ q → A q) (t0 : Nat) {cI : ClassId} (ht : tys[t0]? = some (cI, ty))
    {N : Nat} (hN : N < 100000) (ha : ∀ cA : ClassId, vp_cell cA (N, .inl (fun _ => 0)) = arrV cA N (fun _ => defaultValue ty)) (hbytes : N * componentBytes ty ≤ 536870912) (hcells : cells + 1 ≤ R.cells) (hslots : slots + N ≤ R.slots) (hdg : decode cc pc = .ok (.newarray atype, 2))
    (kk : ∀ (q : Nat) (H1 : Heap), va_P D twCl (ws ++ [(q, .inl (cI, N, .inl (fun _ => 0)))]) H1 → va_D A (ws ++ [(q, .inl (cI, N, .inl (fun _ => 0)))]) → va_S A H0 H1 locs →
      W p l e R s m args below meth c H1 locs (cells + 1) (slots + N) Q (F0 m (pc + 2) ls (.ref q :: rest))) : W p l e R s m args below meth c H locs cells slots Q (F0 m pc ls (.int (nI N) :: rest)) := by
  refine va_newa S.1 S.2.1 (S.2.2.2.2 _ harr) hty hK hP hD hS hA ha (nI_pos (by omega)) (nI_clamp (by omega)) hbytes hcells hslots hdg (fun q cA H1 hK1 hP1 hD1 hS1 => ?_)
  have e1 : (tys ++ [(cA, ty)])[t0]? = some (cI, ty) := by rw [List.getElem?_append_left (List.getElem?_eq_some_iff.mp ht).1]; exact ht
  have e2 : (tys ++ [(cA, ty)])[tys.length]? = some (cA, ty) := by rw [List.getElem?_append_right (Nat.le_refl _), Nat.sub_self]; rfl
  have e3 := tw_same ho t0 tys.length hK1 e1 e2
  subst e3
  exact kk q H1 hP1 hD1 hS1
end TWN
def tw_t0 : Nat → Nat → Nat := fun k i => if k = 13 then (if i = 1 then 1 else 0) else 0
theorem tw_t0z {k : Nat} (h : k ≠ 13) : (fun i => nI (tw_t0 k i)) = (fun _ => (0 : Int32)) := by
  funext i
  unfold tw_t0
  rw [if_neg h]
  decide
theorem tw_t0w : (fun i => tw_wh (tw_t0 7 i)) = (fun _ => (0 : Int32)) := by
  funext i
  show tw_wh (if 7 = 13 then (if i = 1 then 1 else 0) else 0) = 0
  rw [if_neg (by decide)]
  decide
set_option maxHeartbeats 4000000 in
set_option maxRecDepth 100000 in
/-- LetterWeaveModel() -/
theorem kX1_init (l : Launch) (D : va_G) (cI cZ : ClassId) (x : Nat) (sz : Nat) : Met l yX1_init wsX1_init ({ frames := 1, cells := 13, slots := 22429, locals := 12 }) (va_Pc [.ref x] (fun U => U.heap.size = sz ∧ va_P D twCl [(x, .inr (1, [.int 0, .null, .null, .null, .null, .null, .null, .null, .int 0, .null, .null, .null, .null, .null, .null, .int 0, .int 0]))] U.heap ∧ va_K D twCl [(cI, .int), (cZ, .boolean)] U ∧ va_D (fun _ => True) [(x, .inr (1, [.int 0, .null, .null, .null, .null, .null, .null, .null, .int 0, .null, .null, .null, .null, .null, .null, .int 0, .int 0]))])) (va_Qv (fun (_ : Nat → Nat) => True) (fun ad t => tw_YT D cI cZ x ad (va_A [(x, .inr (1, [.int 0, .null, .null, .null, .null, .null, .null, .null, .int 0, .null, .null, .null, .null, .null, .null, .int 0, .int 0]))] sz) tw_t0 t) (va_A [(x, .inr (1, [.int 0, .null, .null, .null, .null, .null, .null, .null, .int 0, .null, .null, .null, .null, .null, .null, .int 0, .int 0]))] sz)) 13 22429 (va_A [(x, .inr (1, [.int 0, .null, .null, .null, .null, .null, .null, .null, .int 0, .null, .null, .null, .null, .null, .null, .int 0, .int 0]))] sz) := by
  refine Met.ofW (cc := cX1_init) (maxL := 1) (ret := none) (by decide) rfl ?_
  intro p e s m args below meth cd s₁ B hml hv
  obtain ⟨rfl, hsz, hP, hK, hD0⟩ := hv
  subst hsz
  have S : CallFix p m cd cX1_init 1 s ([.ref x] : List Value).toArray tw_wall RX1 := ⟨B.exec, B.bytes, hml, findClass_of_methodNamed B.named, fun w h => atoms_spec (ws := wsX1_init) B.pre w (List.mem_cons_of_mem _ h)⟩
  have hr := B.returns
  have hlk := B.notSynchronized
  have hin : meth.name = "<init>" := (name_of_methodNamed B.named B.method).1
  have hD := hD0.self (sz := s.heap.size)
  generalize hAe : va_A [(x, .inr (1, [.int 0, .null, .null, .null, .null, .null, .null, .null, .int 0, .null, .null, .null, .null, .null, .null, .int 0, .int 0]))] s.heap.size = A at hD ⊢
  have hA : ∀ q : Nat, s.heap.size ≤ q → A q := fun q h => by rw [← hAe]; exact Or.inr h
  have hS : va_S A s.heap s.heap [] := va_S.rf
  have hl := lv_entry ([.ref x]) (n := 1) (Nat.le_of_ble_eq_true rfl)
  rw [lg_entry_eq]
  generalize (lg_sl ([.ref x]) ++ List.replicate (1 - (lg_sl ([.ref x])).length) Slot.unset).toArray = ls at hl ⊢
  have hl : lv_has ls 1 [(0, .ref x)] := hl
  refine lv_aload_n S.1 S.2.1 dX1_init_0 rfl (lv_at hl 0 rfl) ?_
  refine W.objInit S.1 S.2.1 S.2.2.2.1 (S.2.2.2.2 _ wl_X1_3) (S.2.2.2.2 _ wn_objInit) (S.2.2.2.2 _ wy_objInit) rfl (by rw [S.2.2.1]; exact hl.1) rfl dX1_init_1 (Nat.le_of_ble_eq_true rfl) (Nat.le_of_ble_eq_true rfl) ?_
  refine W.eq (g2 := F0 m 4 ls []) rfl ?_
  refine lv_aload_n S.1 S.2.1 dX1_init_4 rfl (lv_at hl 0 rfl) ?_
  refine lv_sipush (v := nI 1601) S.1 S.2.1 dX1_init_5 (by decide) ?_
  refine tw_newa (atype := .int) S wa_int rfl (fun C h => by cases h) hK hP hD hS hA 0 rfl (N := 1601) (Nat.le_of_ble_eq_true rfl) (fun cA => rfl) (Nat.le_of_ble_eq_true rfl) (Nat.le_of_ble_eq_true rfl) (Nat.le_of_ble_eq_true rfl) dX1_init_8 (fun q0 H hP hD hS => ?_)
  have hP : va_P D twCl [(x, .inr (1, [.int 0, .null, .null, .null, .null, .null, .null, .null, .int 0, .null, .null, .null, .null, .null, .null, .int 0, .int 0])), (q0, .inl (cI, 1601, .inl (fun _ => 0)))] H := hP
  have hD : va_D A [(x, .inr (1, [.int 0, .null, .null, .null, .null, .null, .null, .null, .int 0, .null, .null, .null, .null, .null, .null, .int 0, .int 0])), (q0, .inl (cI, 1601, .inl (fun _ => 0)))] := hD
  refine va_putF (D := D) (ci := 1) (v := .ref q0) (ty := .array .int) (C := RX1) (T := TX1) (N := 17) S.1 S.2.1 S.2.2.2.2 inX1 tyX1 tyX1_ok nmX1 S.2.2.2.1 hK hP hD hS 0 rfl rfl 1 (by decide) (S.2.2.2.2 _ wf_X1_number) (fun _ h => h) rfl hin rfl (by decide +kernel) rfl rfl (Nat.le_of_ble_eq_true rfl) dX1_init_10 (fun H locs hP hD hS => ?_)
  have hP : va_P D twCl [(x, .inr (1, [.int 0, .ref q0, .null, .null, .null, .null, .null, .null, .int 0, .null, .null, .null, .null, .null, .null, .int 0, .int 0])), (q0, .inl (cI, 1601, .inl (fun _ => 0)))] H := hP
  have hD : va_D A [(x, .inr (1, [.int 0, .ref q0, .null, .null, .null, .null, .null, .null, .int 0, .null, .null, .null, .null, .null, .null, .int 0, .int 0])), (q0, .inl (cI, 1601, .inl (fun _ => 0)))] := hD
  refine lv_aload_n S.1 S.2.1 dX1_init_13 rfl (lv_at hl 0 rfl) ?_
  refine lv_sipush (v := nI 1601) S.1 S.2.1 dX1_init_14 (by decide) ?_
  refine tw_newa (atype := .int) S wa_int rfl (fun C h => by cases h) hK hP hD hS hA 0 rfl (N := 1601) (Nat.le_of_ble_eq_true rfl) (fun cA => rfl) (Nat.le_of_ble_eq_true rfl) (Nat.le_of_ble_eq_true rfl) (Nat.le_of_ble_eq_true rfl) dX1_init_17 (fun q1 H hP hD hS => ?_)
  have hP : va_P D twCl [(x, .inr (1, [.int 0, .ref q0, .null, .null, .null, .null, .null, .null, .int 0, .null, .null, .null, .null, .null, .null, .int 0, .int 0])), (q0, .inl (cI, 1601, .inl (fun _ => 0))), (q1, .inl (cI, 1601, .inl (fun _ => 0)))] H := hP
  have hD : va_D A [(x, .inr (1, [.int 0, .ref q0, .null, .null, .null, .null, .null, .null, .int 0, .null, .null, .null, .null, .null, .null, .int 0, .int 0])), (q0, .inl (cI, 1601, .inl (fun _ => 0))), (q1, .inl (cI, 1601, .inl (fun _ => 0)))] := hD
  refine va_putF (D := D) (ci := 1) (v := .ref q1) (ty := .array .int) (C := RX1) (T := TX1) (N := 17) S.1 S.2.1 S.2.2.2.2 inX1 tyX1 tyX1_ok nmX1 S.2.2.2.1 hK hP hD hS 0 rfl rfl 2 (by decide) (S.2.2.2.2 _ wf_X1_maker) (fun _ h => h) rfl hin rfl (by decide +kernel) rfl rfl (Nat.le_of_ble_eq_true rfl) dX1_init_19 (fun H locs hP hD hS => ?_)
  have hP : va_P D twCl [(x, .inr (1, [.int 0, .ref q0, .ref q1, .null, .null, .null, .null, .null, .int 0, .null, .null, .null, .null, .null, .null, .int 0, .int 0])), (q0, .inl (cI, 1601, .inl (fun _ => 0))), (q1, .inl (cI, 1601, .inl (fun _ => 0)))] H := hP
  have hD : va_D A [(x, .inr (1, [.int 0, .ref q0, .ref q1, .null, .null, .null, .null, .null, .int 0, .null, .null, .null, .null, .null, .null, .int 0, .int 0])), (q0, .inl (cI, 1601, .inl (fun _ => 0))), (q1, .inl (cI, 1601, .inl (fun _ => 0)))] := hD
  refine lv_aload_n S.1 S.2.1 dX1_init_22 rfl (lv_at hl 0 rfl) ?_
  refine lv_sipush (v := nI 1601) S.1 S.2.1 dX1_init_23 (by decide) ?_
  refine tw_newa (atype := .int) S wa_int rfl (fun C h => by cases h) hK hP hD hS hA 0 rfl (N := 1601) (Nat.le_of_ble_eq_true rfl) (fun cA => rfl) (Nat.le_of_ble_eq_true rfl) (Nat.le_of_ble_eq_true rfl) (Nat.le_of_ble_eq_true rfl) dX1_init_26 (fun q2 H hP hD hS => ?_)
  have hP : va_P D twCl [(x, .inr (1, [.int 0, .ref q0, .ref q1, .null, .null, .null, .null, .null, .int 0, .null, .null, .null, .null, .null, .null, .int 0, .int 0])), (q0, .inl (cI, 1601, .inl (fun _ => 0))), (q1, .inl (cI, 1601, .inl (fun _ => 0))), (q2, .inl (cI, 1601, .inl (fun _ => 0)))] H := hP
  have hD : va_D A [(x, .inr (1, [.int 0, .ref q0, .ref q1, .null, .null, .null, .null, .null, .int 0, .null, .null, .null, .null, .null, .null, .int 0, .int 0])), (q0, .inl (cI, 1601, .inl (fun _ => 0))), (q1, .inl (cI, 1601, .inl (fun _ => 0))), (q2, .inl (cI, 1601, .inl (fun _ => 0)))] := hD
  refine va_putF (D := D) (ci := 1) (v := .ref q2) (ty := .array .int) (C := RX1) (T := TX1) (N := 17) S.1 S.2.1 S.2.2.2.2 inX1 tyX1 tyX1_ok nmX1 S.2.2.2.1 hK hP hD hS 0 rfl rfl 3 (by decide) (S.2.2.2.2 _ wf_X1_change) (fun _ h => h) rfl hin rfl (by decide +kernel) rfl rfl (Nat.le_of_ble_eq_true rfl) dX1_init_28 (fun H locs hP hD hS => ?_)
  have hP : va_P D twCl [(x, .inr (1, [.int 0, .ref q0, .ref q1, .ref q2, .null, .null, .null, .null, .int 0, .null, .null, .null, .null, .null, .null, .int 0, .int 0])), (q0, .inl (cI, 1601, .inl (fun _ => 0))), (q1, .inl (cI, 1601, .inl (fun _ => 0))), (q2, .inl (cI, 1601, .inl (fun _ => 0)))] H := hP
  have hD : va_D A [(x, .inr (1, [.int 0, .ref q0, .ref q1, .ref q2, .null, .null, .null, .null, .int 0, .null, .null, .null, .null, .null, .null, .int 0, .int 0])), (q0, .inl (cI, 1601, .inl (fun _ => 0))), (q1, .inl (cI, 1601, .inl (fun _ => 0))), (q2, .inl (cI, 1601, .inl (fun _ => 0)))] := hD
  refine lv_aload_n S.1 S.2.1 dX1_init_31 rfl (lv_at hl 0 rfl) ?_
  refine lv_sipush (v := nI 1601) S.1 S.2.1 dX1_init_32 (by decide) ?_
  refine tw_newa (atype := .int) S wa_int rfl (fun C h => by cases h) hK hP hD hS hA 0 rfl (N := 1601) (Nat.le_of_ble_eq_true rfl) (fun cA => rfl) (Nat.le_of_ble_eq_true rfl) (Nat.le_of_ble_eq_true rfl) (Nat.le_of_ble_eq_true rfl) dX1_init_35 (fun q3 H hP hD hS => ?_)
  have hP : va_P D twCl [(x, .inr (1, [.int 0, .ref q0, .ref q1, .ref q2, .null, .null, .null, .null, .int 0, .null, .null, .null, .null, .null, .null, .int 0, .int 0])), (q0, .inl (cI, 1601, .inl (fun _ => 0))), (q1, .inl (cI, 1601, .inl (fun _ => 0))), (q2, .inl (cI, 1601, .inl (fun _ => 0))), (q3, .inl (cI, 1601, .inl (fun _ => 0)))] H := hP
  have hD : va_D A [(x, .inr (1, [.int 0, .ref q0, .ref q1, .ref q2, .null, .null, .null, .null, .int 0, .null, .null, .null, .null, .null, .null, .int 0, .int 0])), (q0, .inl (cI, 1601, .inl (fun _ => 0))), (q1, .inl (cI, 1601, .inl (fun _ => 0))), (q2, .inl (cI, 1601, .inl (fun _ => 0))), (q3, .inl (cI, 1601, .inl (fun _ => 0)))] := hD
  refine va_putF (D := D) (ci := 1) (v := .ref q3) (ty := .array .int) (C := RX1) (T := TX1) (N := 17) S.1 S.2.1 S.2.2.2.2 inX1 tyX1 tyX1_ok nmX1 S.2.2.2.1 hK hP hD hS 0 rfl rfl 4 (by decide) (S.2.2.2.2 _ wf_X1_value) (fun _ h => h) rfl hin rfl (by decide +kernel) rfl rfl (Nat.le_of_ble_eq_true rfl) dX1_init_37 (fun H locs hP hD hS => ?_)
  have hP : va_P D twCl [(x, .inr (1, [.int 0, .ref q0, .ref q1, .ref q2, .ref q3, .null, .null, .null, .int 0, .null, .null, .null, .null, .null, .null, .int 0, .int 0])), (q0, .inl (cI, 1601, .inl (fun _ => 0))), (q1, .inl (cI, 1601, .inl (fun _ => 0))), (q2, .inl (cI, 1601, .inl (fun _ => 0))), (q3, .inl (cI, 1601, .inl (fun _ => 0)))] H := hP
  have hD : va_D A [(x, .inr (1, [.int 0, .ref q0, .ref q1, .ref q2, .ref q3, .null, .null, .null, .int 0, .null, .null, .null, .null, .null, .null, .int 0, .int 0])), (q0, .inl (cI, 1601, .inl (fun _ => 0))), (q1, .inl (cI, 1601, .inl (fun _ => 0))), (q2, .inl (cI, 1601, .inl (fun _ => 0))), (q3, .inl (cI, 1601, .inl (fun _ => 0)))] := hD
  refine lv_aload_n S.1 S.2.1 dX1_init_40 rfl (lv_at hl 0 rfl) ?_
  refine lv_sipush (v := nI 1601) S.1 S.2.1 dX1_init_41 (by decide) ?_
  refine tw_newa (atype := .int) S wa_int rfl (fun C h => by cases h) hK hP hD hS hA 0 rfl (N := 1601) (Nat.le_of_ble_eq_true rfl) (fun cA => rfl) (Nat.le_of_ble_eq_true rfl) (Nat.le_of_ble_eq_true rfl) (Nat.le_of_ble_eq_true rfl) dX1_init_44 (fun q4 H hP hD hS => ?_)
  have hP : va_P D twCl [(x, .inr (1, [.int 0, .ref q0, .ref q1, .ref q2, .ref q3, .null, .null, .null, .int 0, .null, .null, .null, .null, .null, .null, .int 0, .int 0])), (q0, .inl (cI, 1601, .inl (fun _ => 0))), (q1, .inl (cI, 1601, .inl (fun _ => 0))), (q2, .inl (cI, 1601, .inl (fun _ => 0))), (q3, .inl (cI, 1601, .inl (fun _ => 0))), (q4, .inl (cI, 1601, .inl (fun _ => 0)))] H := hP
  have hD : va_D A [(x, .inr (1, [.int 0, .ref q0, .ref q1, .ref q2, .ref q3, .null, .null, .null, .int 0, .null, .null, .null, .null, .null, .null, .int 0, .int 0])), (q0, .inl (cI, 1601, .inl (fun _ => 0))), (q1, .inl (cI, 1601, .inl (fun _ => 0))), (q2, .inl (cI, 1601, .inl (fun _ => 0))), (q3, .inl (cI, 1601, .inl (fun _ => 0))), (q4, .inl (cI, 1601, .inl (fun _ => 0)))] := hD
  refine va_putF (D := D) (ci := 1) (v := .ref q4) (ty := .array .int) (C := RX1) (T := TX1) (N := 17) S.1 S.2.1 S.2.2.2.2 inX1 tyX1 tyX1_ok nmX1 S.2.2.2.1 hK hP hD hS 0 rfl rfl 5 (by decide) (S.2.2.2.2 _ wf_X1_first) (fun _ h => h) rfl hin rfl (by decide +kernel) rfl rfl (Nat.le_of_ble_eq_true rfl) dX1_init_46 (fun H locs hP hD hS => ?_)
  have hP : va_P D twCl [(x, .inr (1, [.int 0, .ref q0, .ref q1, .ref q2, .ref q3, .ref q4, .null, .null, .int 0, .null, .null, .null, .null, .null, .null, .int 0, .int 0])), (q0, .inl (cI, 1601, .inl (fun _ => 0))), (q1, .inl (cI, 1601, .inl (fun _ => 0))), (q2, .inl (cI, 1601, .inl (fun _ => 0))), (q3, .inl (cI, 1601, .inl (fun _ => 0))), (q4, .inl (cI, 1601, .inl (fun _ => 0)))] H := hP
  have hD : va_D A [(x, .inr (1, [.int 0, .ref q0, .ref q1, .ref q2, .ref q3, .ref q4, .null, .null, .int 0, .null, .null, .null, .null, .null, .null, .int 0, .int 0])), (q0, .inl (cI, 1601, .inl (fun _ => 0))), (q1, .inl (cI, 1601, .inl (fun _ => 0))), (q2, .inl (cI, 1601, .inl (fun _ => 0))), (q3, .inl (cI, 1601, .inl (fun _ => 0))), (q4, .inl (cI, 1601, .inl (fun _ => 0)))] := hD
  refine lv_aload_n S.1 S.2.1 dX1_init_49 rfl (lv_at hl 0 rfl) ?_
  refine lv_sipush (v := nI 1601) S.1 S.2.1 dX1_init_50 (by decide) ?_
  refine tw_newa (atype := .int) S wa_int rfl (fun C h => by cases h) hK hP hD hS hA 0 rfl (N := 1601) (Nat.le_of_ble_eq_true rfl) (fun cA => rfl) (Nat.le_of_ble_eq_true rfl) (Nat.le_of_ble_eq_true rfl) (Nat.le_of_ble_eq_true rfl) dX1_init_53 (fun q5 H hP hD hS => ?_)
  have hP : va_P D twCl [(x, .inr (1, [.int 0, .ref q0, .ref q1, .ref q2, .ref q3, .ref q4, .null, .null, .int 0, .null, .null, .null, .null, .null, .null, .int 0, .int 0])), (q0, .inl (cI, 1601, .inl (fun _ => 0))), (q1, .inl (cI, 1601, .inl (fun _ => 0))), (q2, .inl (cI, 1601, .inl (fun _ => 0))), (q3, .inl (cI, 1601, .inl (fun _ => 0))), (q4, .inl (cI, 1601, .inl (fun _ => 0))), (q5, .inl (cI, 1601, .inl (fun _ => 0)))] H := hP
  have hD : va_D A [(x, .inr (1, [.int 0, .ref q0, .ref q1, .ref q2, .ref q3, .ref q4, .null, .null, .int 0, .null, .null, .null, .null, .null, .null, .int 0, .int 0])), (q0, .inl (cI, 1601, .inl (fun _ => 0))), (q1, .inl (cI, 1601, .inl (fun _ => 0))), (q2, .inl (cI, 1601, .inl (fun _ => 0))), (q3, .inl (cI, 1601, .inl (fun _ => 0))), (q4, .inl (cI, 1601, .inl (fun _ => 0))), (q5, .inl (cI, 1601, .inl (fun _ => 0)))] := hD
  refine va_putF (D := D) (ci := 1) (v := .ref q5) (ty := .array .int) (C := RX1) (T := TX1) (N := 17) S.1 S.2.1 S.2.2.2.2 inX1 tyX1 tyX1_ok nmX1 S.2.2.2.1 hK hP hD hS 0 rfl rfl 6 (by decide) (S.2.2.2.2 _ wf_X1_sibling) (fun _ h => h) rfl hin rfl (by decide +kernel) rfl rfl (Nat.le_of_ble_eq_true rfl) dX1_init_55 (fun H locs hP hD hS => ?_)
  have hP : va_P D twCl [(x, .inr (1, [.int 0, .ref q0, .ref q1, .ref q2, .ref q3, .ref q4, .ref q5, .null, .int 0, .null, .null, .null, .null, .null, .null, .int 0, .int 0])), (q0, .inl (cI, 1601, .inl (fun _ => 0))), (q1, .inl (cI, 1601, .inl (fun _ => 0))), (q2, .inl (cI, 1601, .inl (fun _ => 0))), (q3, .inl (cI, 1601, .inl (fun _ => 0))), (q4, .inl (cI, 1601, .inl (fun _ => 0))), (q5, .inl (cI, 1601, .inl (fun _ => 0)))] H := hP
  have hD : va_D A [(x, .inr (1, [.int 0, .ref q0, .ref q1, .ref q2, .ref q3, .ref q4, .ref q5, .null, .int 0, .null, .null, .null, .null, .null, .null, .int 0, .int 0])), (q0, .inl (cI, 1601, .inl (fun _ => 0))), (q1, .inl (cI, 1601, .inl (fun _ => 0))), (q2, .inl (cI, 1601, .inl (fun _ => 0))), (q3, .inl (cI, 1601, .inl (fun _ => 0))), (q4, .inl (cI, 1601, .inl (fun _ => 0))), (q5, .inl (cI, 1601, .inl (fun _ => 0)))] := hD
  refine lv_aload_n S.1 S.2.1 dX1_init_58 rfl (lv_at hl 0 rfl) ?_
  refine lv_sipush (v := nI 1601) S.1 S.2.1 dX1_init_59 (by decide) ?_
  refine tw_newa (atype := .int) S wa_int rfl (fun C h => by cases h) hK hP hD hS hA 0 rfl (N := 1601) (Nat.le_of_ble_eq_true rfl) (fun cA => rfl) (Nat.le_of_ble_eq_true rfl) (Nat.le_of_ble_eq_true rfl) (Nat.le_of_ble_eq_true rfl) dX1_init_62 (fun q6 H hP hD hS => ?_)
  have hP : va_P D twCl [(x, .inr (1, [.int 0, .ref q0, .ref q1, .ref q2, .ref q3, .ref q4, .ref q5, .null, .int 0, .null, .null, .null, .null, .null, .null, .int 0, .int 0])), (q0, .inl (cI, 1601, .inl (fun _ => 0))), (q1, .inl (cI, 1601, .inl (fun _ => 0))), (q2, .inl (cI, 1601, .inl (fun _ => 0))), (q3, .inl (cI, 1601, .inl (fun _ => 0))), (q4, .inl (cI, 1601, .inl (fun _ => 0))), (q5, .inl (cI, 1601, .inl (fun _ => 0))), (q6, .inl (cI, 1601, .inl (fun _ => 0)))] H := hP
  have hD : va_D A [(x, .inr (1, [.int 0, .ref q0, .ref q1, .ref q2, .ref q3, .ref q4, .ref q5, .null, .int 0, .null, .null, .null, .null, .null, .null, .int 0, .int 0])), (q0, .inl (cI, 1601, .inl (fun _ => 0))), (q1, .inl (cI, 1601, .inl (fun _ => 0))), (q2, .inl (cI, 1601, .inl (fun _ => 0))), (q3, .inl (cI, 1601, .inl (fun _ => 0))), (q4, .inl (cI, 1601, .inl (fun _ => 0))), (q5, .inl (cI, 1601, .inl (fun _ => 0))), (q6, .inl (cI, 1601, .inl (fun _ => 0)))] := hD
  refine va_putF (D := D) (ci := 1) (v := .ref q6) (ty := .array .int) (C := RX1) (T := TX1) (N := 17) S.1 S.2.1 S.2.2.2.2 inX1 tyX1 tyX1_ok nmX1 S.2.2.2.1 hK hP hD hS 0 rfl rfl 7 (by decide) (S.2.2.2.2 _ wf_X1_up) (fun _ h => h) rfl hin rfl (by decide +kernel) rfl rfl (Nat.le_of_ble_eq_true rfl) dX1_init_64 (fun H locs hP hD hS => ?_)
  have hP : va_P D twCl [(x, .inr (1, [.int 0, .ref q0, .ref q1, .ref q2, .ref q3, .ref q4, .ref q5, .ref q6, .int 0, .null, .null, .null, .null, .null, .null, .int 0, .int 0])), (q0, .inl (cI, 1601, .inl (fun _ => 0))), (q1, .inl (cI, 1601, .inl (fun _ => 0))), (q2, .inl (cI, 1601, .inl (fun _ => 0))), (q3, .inl (cI, 1601, .inl (fun _ => 0))), (q4, .inl (cI, 1601, .inl (fun _ => 0))), (q5, .inl (cI, 1601, .inl (fun _ => 0))), (q6, .inl (cI, 1601, .inl (fun _ => 0)))] H := hP
  have hD : va_D A [(x, .inr (1, [.int 0, .ref q0, .ref q1, .ref q2, .ref q3, .ref q4, .ref q5, .ref q6, .int 0, .null, .null, .null, .null, .null, .null, .int 0, .int 0])), (q0, .inl (cI, 1601, .inl (fun _ => 0))), (q1, .inl (cI, 1601, .inl (fun _ => 0))), (q2, .inl (cI, 1601, .inl (fun _ => 0))), (q3, .inl (cI, 1601, .inl (fun _ => 0))), (q4, .inl (cI, 1601, .inl (fun _ => 0))), (q5, .inl (cI, 1601, .inl (fun _ => 0))), (q6, .inl (cI, 1601, .inl (fun _ => 0)))] := hD
  refine lv_aload_n S.1 S.2.1 dX1_init_67 rfl (lv_at hl 0 rfl) ?_
  refine lv_iconst (v := 1) S.1 S.2.1 dX1_init_68 (by decide) ?_
  refine va_put (D := D) (ci := 1) (v := .int (1)) (ty := .int) (C := RX1) (T := TX1) (N := 17) S.1 S.2.1 S.2.2.2.2 inX1 tyX1 tyX1_ok nmX1 S.2.2.2.1 hK hP hD hS 0 rfl rfl 8 (by decide) (S.2.2.2.2 _ wf_X1_letters) (fun _ h => h) rfl (by decide +kernel) rfl rfl (Nat.le_of_ble_eq_true rfl) dX1_init_69 (fun H locs hP hD hS => ?_)
  have hP : va_P D twCl [(x, .inr (1, [.int 0, .ref q0, .ref q1, .ref q2, .ref q3, .ref q4, .ref q5, .ref q6, .int (1), .null, .null, .null, .null, .null, .null, .int 0, .int 0])), (q0, .inl (cI, 1601, .inl (fun _ => 0))), (q1, .inl (cI, 1601, .inl (fun _ => 0))), (q2, .inl (cI, 1601, .inl (fun _ => 0))), (q3, .inl (cI, 1601, .inl (fun _ => 0))), (q4, .inl (cI, 1601, .inl (fun _ => 0))), (q5, .inl (cI, 1601, .inl (fun _ => 0))), (q6, .inl (cI, 1601, .inl (fun _ => 0)))] H := hP
  have hD : va_D A [(x, .inr (1, [.int 0, .ref q0, .ref q1, .ref q2, .ref q3, .ref q4, .ref q5, .ref q6, .int (1), .null, .null, .null, .null, .null, .null, .int 0, .int 0])), (q0, .inl (cI, 1601, .inl (fun _ => 0))), (q1, .inl (cI, 1601, .inl (fun _ => 0))), (q2, .inl (cI, 1601, .inl (fun _ => 0))), (q3, .inl (cI, 1601, .inl (fun _ => 0))), (q4, .inl (cI, 1601, .inl (fun _ => 0))), (q5, .inl (cI, 1601, .inl (fun _ => 0))), (q6, .inl (cI, 1601, .inl (fun _ => 0)))] := hD
  refine lv_aload_n S.1 S.2.1 dX1_init_72 rfl (lv_at hl 0 rfl) ?_
  refine lv_sipush (v := nI 1600) S.1 S.2.1 dX1_init_73 (by decide) ?_
  refine tw_newa (atype := .int) S wa_int rfl (fun C h => by cases h) hK hP hD hS hA 0 rfl (N := 1600) (Nat.le_of_ble_eq_true rfl) (fun cA => rfl) (Nat.le_of_ble_eq_true rfl) (Nat.le_of_ble_eq_true rfl) (Nat.le_of_ble_eq_true rfl) dX1_init_76 (fun q7 H hP hD hS => ?_)
  have hP : va_P D twCl [(x, .inr (1, [.int 0, .ref q0, .ref q1, .ref q2, .ref q3, .ref q4, .ref q5, .ref q6, .int (1), .null, .null, .null, .null, .null, .null, .int 0, .int 0])), (q0, .inl (cI, 1601, .inl (fun _ => 0))), (q1, .inl (cI, 1601, .inl (fun _ => 0))), (q2, .inl (cI, 1601, .inl (fun _ => 0))), (q3, .inl (cI, 1601, .inl (fun _ => 0))), (q4, .inl (cI, 1601, .inl (fun _ => 0))), (q5, .inl (cI, 1601, .inl (fun _ => 0))), (q6, .inl (cI, 1601, .inl (fun _ => 0))), (q7, .inl (cI, 1600, .inl (fun _ => 0)))] H := hP
  have hD : va_D A [(x, .inr (1, [.int 0, .ref q0, .ref q1, .ref q2, .ref q3, .ref q4, .ref q5, .ref q6, .int (1), .null, .null, .null, .null, .null, .null, .int 0, .int 0])), (q0, .inl (cI, 1601, .inl (fun _ => 0))), (q1, .inl (cI, 1601, .inl (fun _ => 0))), (q2, .inl (cI, 1601, .inl (fun _ => 0))), (q3, .inl (cI, 1601, .inl (fun _ => 0))), (q4, .inl (cI, 1601, .inl (fun _ => 0))), (q5, .inl (cI, 1601, .inl (fun _ => 0))), (q6, .inl (cI, 1601, .inl (fun _ => 0))), (q7, .inl (cI, 1600, .inl (fun _ => 0)))] := hD
  refine va_putF (D := D) (ci := 1) (v := .ref q7) (ty := .array .int) (C := RX1) (T := TX1) (N := 17) S.1 S.2.1 S.2.2.2.2 inX1 tyX1 tyX1_ok nmX1 S.2.2.2.1 hK hP hD hS 0 rfl rfl 9 (by decide) (S.2.2.2.2 _ wf_X1_what) (fun _ h => h) rfl hin rfl (by decide +kernel) rfl rfl (Nat.le_of_ble_eq_true rfl) dX1_init_78 (fun H locs hP hD hS => ?_)
  have hP : va_P D twCl [(x, .inr (1, [.int 0, .ref q0, .ref q1, .ref q2, .ref q3, .ref q4, .ref q5, .ref q6, .int (1), .ref q7, .null, .null, .null, .null, .null, .int 0, .int 0])), (q0, .inl (cI, 1601, .inl (fun _ => 0))), (q1, .inl (cI, 1601, .inl (fun _ => 0))), (q2, .inl (cI, 1601, .inl (fun _ => 0))), (q3, .inl (cI, 1601, .inl (fun _ => 0))), (q4, .inl (cI, 1601, .inl (fun _ => 0))), (q5, .inl (cI, 1601, .inl (fun _ => 0))), (q6, .inl (cI, 1601, .inl (fun _ => 0))), (q7, .inl (cI, 1600, .inl (fun _ => 0)))] H := hP
  have hD : va_D A [(x, .inr (1, [.int 0, .ref q0, .ref q1, .ref q2, .ref q3, .ref q4, .ref q5, .ref q6, .int (1), .ref q7, .null, .null, .null, .null, .null, .int 0, .int 0])), (q0, .inl (cI, 1601, .inl (fun _ => 0))), (q1, .inl (cI, 1601, .inl (fun _ => 0))), (q2, .inl (cI, 1601, .inl (fun _ => 0))), (q3, .inl (cI, 1601, .inl (fun _ => 0))), (q4, .inl (cI, 1601, .inl (fun _ => 0))), (q5, .inl (cI, 1601, .inl (fun _ => 0))), (q6, .inl (cI, 1601, .inl (fun _ => 0))), (q7, .inl (cI, 1600, .inl (fun _ => 0)))] := hD
  refine lv_aload_n S.1 S.2.1 dX1_init_81 rfl (lv_at hl 0 rfl) ?_
  refine lv_sipush (v := nI 6400) S.1 S.2.1 dX1_init_82 (by decide) ?_
  refine tw_newa (atype := .int) S wa_int rfl (fun C h => by cases h) hK hP hD hS hA 0 rfl (N := 6400) (Nat.le_of_ble_eq_true rfl) (fun cA => rfl) (Nat.le_of_ble_eq_true rfl) (Nat.le_of_ble_eq_true rfl) (Nat.le_of_ble_eq_true rfl) dX1_init_85 (fun q8 H hP hD hS => ?_)
  have hP : va_P D twCl [(x, .inr (1, [.int 0, .ref q0, .ref q1, .ref q2, .ref q3, .ref q4, .ref q5, .ref q6, .int (1), .ref q7, .null, .null, .null, .null, .null, .int 0, .int 0])), (q0, .inl (cI, 1601, .inl (fun _ => 0))), (q1, .inl (cI, 1601, .inl (fun _ => 0))), (q2, .inl (cI, 1601, .inl (fun _ => 0))), (q3, .inl (cI, 1601, .inl (fun _ => 0))), (q4, .inl (cI, 1601, .inl (fun _ => 0))), (q5, .inl (cI, 1601, .inl (fun _ => 0))), (q6, .inl (cI, 1601, .inl (fun _ => 0))), (q7, .inl (cI, 1600, .inl (fun _ => 0))), (q8, .inl (cI, 6400, .inl (fun _ => 0)))] H := hP
  have hD : va_D A [(x, .inr (1, [.int 0, .ref q0, .ref q1, .ref q2, .ref q3, .ref q4, .ref q5, .ref q6, .int (1), .ref q7, .null, .null, .null, .null, .null, .int 0, .int 0])), (q0, .inl (cI, 1601, .inl (fun _ => 0))), (q1, .inl (cI, 1601, .inl (fun _ => 0))), (q2, .inl (cI, 1601, .inl (fun _ => 0))), (q3, .inl (cI, 1601, .inl (fun _ => 0))), (q4, .inl (cI, 1601, .inl (fun _ => 0))), (q5, .inl (cI, 1601, .inl (fun _ => 0))), (q6, .inl (cI, 1601, .inl (fun _ => 0))), (q7, .inl (cI, 1600, .inl (fun _ => 0))), (q8, .inl (cI, 6400, .inl (fun _ => 0)))] := hD
  refine va_putF (D := D) (ci := 1) (v := .ref q8) (ty := .array .int) (C := RX1) (T := TX1) (N := 17) S.1 S.2.1 S.2.2.2.2 inX1 tyX1 tyX1_ok nmX1 S.2.2.2.1 hK hP hD hS 0 rfl rfl 10 (by decide) (S.2.2.2.2 _ wf_X1_had) (fun _ h => h) rfl hin rfl (by decide +kernel) rfl rfl (Nat.le_of_ble_eq_true rfl) dX1_init_87 (fun H locs hP hD hS => ?_)
  have hP : va_P D twCl [(x, .inr (1, [.int 0, .ref q0, .ref q1, .ref q2, .ref q3, .ref q4, .ref q5, .ref q6, .int (1), .ref q7, .ref q8, .null, .null, .null, .null, .int 0, .int 0])), (q0, .inl (cI, 1601, .inl (fun _ => 0))), (q1, .inl (cI, 1601, .inl (fun _ => 0))), (q2, .inl (cI, 1601, .inl (fun _ => 0))), (q3, .inl (cI, 1601, .inl (fun _ => 0))), (q4, .inl (cI, 1601, .inl (fun _ => 0))), (q5, .inl (cI, 1601, .inl (fun _ => 0))), (q6, .inl (cI, 1601, .inl (fun _ => 0))), (q7, .inl (cI, 1600, .inl (fun _ => 0))), (q8, .inl (cI, 6400, .inl (fun _ => 0)))] H := hP
  have hD : va_D A [(x, .inr (1, [.int 0, .ref q0, .ref q1, .ref q2, .ref q3, .ref q4, .ref q5, .ref q6, .int (1), .ref q7, .ref q8, .null, .null, .null, .null, .int 0, .int 0])), (q0, .inl (cI, 1601, .inl (fun _ => 0))), (q1, .inl (cI, 1601, .inl (fun _ => 0))), (q2, .inl (cI, 1601, .inl (fun _ => 0))), (q3, .inl (cI, 1601, .inl (fun _ => 0))), (q4, .inl (cI, 1601, .inl (fun _ => 0))), (q5, .inl (cI, 1601, .inl (fun _ => 0))), (q6, .inl (cI, 1601, .inl (fun _ => 0))), (q7, .inl (cI, 1600, .inl (fun _ => 0))), (q8, .inl (cI, 6400, .inl (fun _ => 0)))] := hD
  refine lv_aload_n S.1 S.2.1 dX1_init_90 rfl (lv_at hl 0 rfl) ?_
  refine lv_iconst (v := nI 4) S.1 S.2.1 dX1_init_91 (by decide) ?_
  refine tw_newa (atype := .int) S wa_int rfl (fun C h => by cases h) hK hP hD hS hA 0 rfl (N := 4) (Nat.le_of_ble_eq_true rfl) (fun cA => rfl) (Nat.le_of_ble_eq_true rfl) (Nat.le_of_ble_eq_true rfl) (Nat.le_of_ble_eq_true rfl) dX1_init_92 (fun q9 H hP hD hS => ?_)
  have hP : va_P D twCl [(x, .inr (1, [.int 0, .ref q0, .ref q1, .ref q2, .ref q3, .ref q4, .ref q5, .ref q6, .int (1), .ref q7, .ref q8, .null, .null, .null, .null, .int 0, .int 0])), (q0, .inl (cI, 1601, .inl (fun _ => 0))), (q1, .inl (cI, 1601, .inl (fun _ => 0))), (q2, .inl (cI, 1601, .inl (fun _ => 0))), (q3, .inl (cI, 1601, .inl (fun _ => 0))), (q4, .inl (cI, 1601, .inl (fun _ => 0))), (q5, .inl (cI, 1601, .inl (fun _ => 0))), (q6, .inl (cI, 1601, .inl (fun _ => 0))), (q7, .inl (cI, 1600, .inl (fun _ => 0))), (q8, .inl (cI, 6400, .inl (fun _ => 0))), (q9, .inl (cI, 4, .inl (fun _ => 0)))] H := hP
  have hD : va_D A [(x, .inr (1, [.int 0, .ref q0, .ref q1, .ref q2, .ref q3, .ref q4, .ref q5, .ref q6, .int (1), .ref q7, .ref q8, .null, .null, .null, .null, .int 0, .int 0])), (q0, .inl (cI, 1601, .inl (fun _ => 0))), (q1, .inl (cI, 1601, .inl (fun _ => 0))), (q2, .inl (cI, 1601, .inl (fun _ => 0))), (q3, .inl (cI, 1601, .inl (fun _ => 0))), (q4, .inl (cI, 1601, .inl (fun _ => 0))), (q5, .inl (cI, 1601, .inl (fun _ => 0))), (q6, .inl (cI, 1601, .inl (fun _ => 0))), (q7, .inl (cI, 1600, .inl (fun _ => 0))), (q8, .inl (cI, 6400, .inl (fun _ => 0))), (q9, .inl (cI, 4, .inl (fun _ => 0)))] := hD
  refine va_putF (D := D) (ci := 1) (v := .ref q9) (ty := .array .int) (C := RX1) (T := TX1) (N := 17) S.1 S.2.1 S.2.2.2.2 inX1 tyX1 tyX1_ok nmX1 S.2.2.2.1 hK hP hD hS 0 rfl rfl 11 (by decide) (S.2.2.2.2 _ wf_X1_made) (fun _ h => h) rfl hin rfl (by decide +kernel) rfl rfl (Nat.le_of_ble_eq_true rfl) dX1_init_94 (fun H locs hP hD hS => ?_)
  have hP : va_P D twCl [(x, .inr (1, [.int 0, .ref q0, .ref q1, .ref q2, .ref q3, .ref q4, .ref q5, .ref q6, .int (1), .ref q7, .ref q8, .ref q9, .null, .null, .null, .int 0, .int 0])), (q0, .inl (cI, 1601, .inl (fun _ => 0))), (q1, .inl (cI, 1601, .inl (fun _ => 0))), (q2, .inl (cI, 1601, .inl (fun _ => 0))), (q3, .inl (cI, 1601, .inl (fun _ => 0))), (q4, .inl (cI, 1601, .inl (fun _ => 0))), (q5, .inl (cI, 1601, .inl (fun _ => 0))), (q6, .inl (cI, 1601, .inl (fun _ => 0))), (q7, .inl (cI, 1600, .inl (fun _ => 0))), (q8, .inl (cI, 6400, .inl (fun _ => 0))), (q9, .inl (cI, 4, .inl (fun _ => 0)))] H := hP
  have hD : va_D A [(x, .inr (1, [.int 0, .ref q0, .ref q1, .ref q2, .ref q3, .ref q4, .ref q5, .ref q6, .int (1), .ref q7, .ref q8, .ref q9, .null, .null, .null, .int 0, .int 0])), (q0, .inl (cI, 1601, .inl (fun _ => 0))), (q1, .inl (cI, 1601, .inl (fun _ => 0))), (q2, .inl (cI, 1601, .inl (fun _ => 0))), (q3, .inl (cI, 1601, .inl (fun _ => 0))), (q4, .inl (cI, 1601, .inl (fun _ => 0))), (q5, .inl (cI, 1601, .inl (fun _ => 0))), (q6, .inl (cI, 1601, .inl (fun _ => 0))), (q7, .inl (cI, 1600, .inl (fun _ => 0))), (q8, .inl (cI, 6400, .inl (fun _ => 0))), (q9, .inl (cI, 4, .inl (fun _ => 0)))] := hD
  refine lv_aload_n S.1 S.2.1 dX1_init_97 rfl (lv_at hl 0 rfl) ?_
  refine lv_bipush (v := nI 16) S.1 S.2.1 dX1_init_98 (by decide) ?_
  refine tw_newa (atype := .int) S wa_int rfl (fun C h => by cases h) hK hP hD hS hA 0 rfl (N := 16) (Nat.le_of_ble_eq_true rfl) (fun cA => rfl) (Nat.le_of_ble_eq_true rfl) (Nat.le_of_ble_eq_true rfl) (Nat.le_of_ble_eq_true rfl) dX1_init_100 (fun q10 H hP hD hS => ?_)
  have hP : va_P D twCl [(x, .inr (1, [.int 0, .ref q0, .ref q1, .ref q2, .ref q3, .ref q4, .ref q5, .ref q6, .int (1), .ref q7, .ref q8, .ref q9, .null, .null, .null, .int 0, .int 0])), (q0, .inl (cI, 1601, .inl (fun _ => 0))), (q1, .inl (cI, 1601, .inl (fun _ => 0))), (q2, .inl (cI, 1601, .inl (fun _ => 0))), (q3, .inl (cI, 1601, .inl (fun _ => 0))), (q4, .inl (cI, 1601, .inl (fun _ => 0))), (q5, .inl (cI, 1601, .inl (fun _ => 0))), (q6, .inl (cI, 1601, .inl (fun _ => 0))), (q7, .inl (cI, 1600, .inl (fun _ => 0))), (q8, .inl (cI, 6400, .inl (fun _ => 0))), (q9, .inl (cI, 4, .inl (fun _ => 0))), (q10, .inl (cI, 16, .inl (fun _ => 0)))] H := hP
  have hD : va_D A [(x, .inr (1, [.int 0, .ref q0, .ref q1, .ref q2, .ref q3, .ref q4, .ref q5, .ref q6, .int (1), .ref q7, .ref q8, .ref q9, .null, .null, .null, .int 0, .int 0])), (q0, .inl (cI, 1601, .inl (fun _ => 0))), (q1, .inl (cI, 1601, .inl (fun _ => 0))), (q2, .inl (cI, 1601, .inl (fun _ => 0))), (q3, .inl (cI, 1601, .inl (fun _ => 0))), (q4, .inl (cI, 1601, .inl (fun _ => 0))), (q5, .inl (cI, 1601, .inl (fun _ => 0))), (q6, .inl (cI, 1601, .inl (fun _ => 0))), (q7, .inl (cI, 1600, .inl (fun _ => 0))), (q8, .inl (cI, 6400, .inl (fun _ => 0))), (q9, .inl (cI, 4, .inl (fun _ => 0))), (q10, .inl (cI, 16, .inl (fun _ => 0)))] := hD
  refine va_putF (D := D) (ci := 1) (v := .ref q10) (ty := .array .int) (C := RX1) (T := TX1) (N := 17) S.1 S.2.1 S.2.2.2.2 inX1 tyX1 tyX1_ok nmX1 S.2.2.2.1 hK hP hD hS 0 rfl rfl 12 (by decide) (S.2.2.2.2 _ wf_X1_has) (fun _ h => h) rfl hin rfl (by decide +kernel) rfl rfl (Nat.le_of_ble_eq_true rfl) dX1_init_102 (fun H locs hP hD hS => ?_)
  have hP : va_P D twCl [(x, .inr (1, [.int 0, .ref q0, .ref q1, .ref q2, .ref q3, .ref q4, .ref q5, .ref q6, .int (1), .ref q7, .ref q8, .ref q9, .ref q10, .null, .null, .int 0, .int 0])), (q0, .inl (cI, 1601, .inl (fun _ => 0))), (q1, .inl (cI, 1601, .inl (fun _ => 0))), (q2, .inl (cI, 1601, .inl (fun _ => 0))), (q3, .inl (cI, 1601, .inl (fun _ => 0))), (q4, .inl (cI, 1601, .inl (fun _ => 0))), (q5, .inl (cI, 1601, .inl (fun _ => 0))), (q6, .inl (cI, 1601, .inl (fun _ => 0))), (q7, .inl (cI, 1600, .inl (fun _ => 0))), (q8, .inl (cI, 6400, .inl (fun _ => 0))), (q9, .inl (cI, 4, .inl (fun _ => 0))), (q10, .inl (cI, 16, .inl (fun _ => 0)))] H := hP
  have hD : va_D A [(x, .inr (1, [.int 0, .ref q0, .ref q1, .ref q2, .ref q3, .ref q4, .ref q5, .ref q6, .int (1), .ref q7, .ref q8, .ref q9, .ref q10, .null, .null, .int 0, .int 0])), (q0, .inl (cI, 1601, .inl (fun _ => 0))), (q1, .inl (cI, 1601, .inl (fun _ => 0))), (q2, .inl (cI, 1601, .inl (fun _ => 0))), (q3, .inl (cI, 1601, .inl (fun _ => 0))), (q4, .inl (cI, 1601, .inl (fun _ => 0))), (q5, .inl (cI, 1601, .inl (fun _ => 0))), (q6, .inl (cI, 1601, .inl (fun _ => 0))), (q7, .inl (cI, 1600, .inl (fun _ => 0))), (q8, .inl (cI, 6400, .inl (fun _ => 0))), (q9, .inl (cI, 4, .inl (fun _ => 0))), (q10, .inl (cI, 16, .inl (fun _ => 0)))] := hD
  refine lv_aload_n S.1 S.2.1 dX1_init_105 rfl (lv_at hl 0 rfl) ?_
  refine lv_sipush (v := nI 1601) S.1 S.2.1 dX1_init_106 (by decide) ?_
  refine tw_newa (atype := .int) S wa_int rfl (fun C h => by cases h) hK hP hD hS hA 0 rfl (N := 1601) (Nat.le_of_ble_eq_true rfl) (fun cA => rfl) (Nat.le_of_ble_eq_true rfl) (Nat.le_of_ble_eq_true rfl) (Nat.le_of_ble_eq_true rfl) dX1_init_109 (fun q11 H hP hD hS => ?_)
  have hP : va_P D twCl [(x, .inr (1, [.int 0, .ref q0, .ref q1, .ref q2, .ref q3, .ref q4, .ref q5, .ref q6, .int (1), .ref q7, .ref q8, .ref q9, .ref q10, .null, .null, .int 0, .int 0])), (q0, .inl (cI, 1601, .inl (fun _ => 0))), (q1, .inl (cI, 1601, .inl (fun _ => 0))), (q2, .inl (cI, 1601, .inl (fun _ => 0))), (q3, .inl (cI, 1601, .inl (fun _ => 0))), (q4, .inl (cI, 1601, .inl (fun _ => 0))), (q5, .inl (cI, 1601, .inl (fun _ => 0))), (q6, .inl (cI, 1601, .inl (fun _ => 0))), (q7, .inl (cI, 1600, .inl (fun _ => 0))), (q8, .inl (cI, 6400, .inl (fun _ => 0))), (q9, .inl (cI, 4, .inl (fun _ => 0))), (q10, .inl (cI, 16, .inl (fun _ => 0))), (q11, .inl (cI, 1601, .inl (fun _ => 0)))] H := hP
  have hD : va_D A [(x, .inr (1, [.int 0, .ref q0, .ref q1, .ref q2, .ref q3, .ref q4, .ref q5, .ref q6, .int (1), .ref q7, .ref q8, .ref q9, .ref q10, .null, .null, .int 0, .int 0])), (q0, .inl (cI, 1601, .inl (fun _ => 0))), (q1, .inl (cI, 1601, .inl (fun _ => 0))), (q2, .inl (cI, 1601, .inl (fun _ => 0))), (q3, .inl (cI, 1601, .inl (fun _ => 0))), (q4, .inl (cI, 1601, .inl (fun _ => 0))), (q5, .inl (cI, 1601, .inl (fun _ => 0))), (q6, .inl (cI, 1601, .inl (fun _ => 0))), (q7, .inl (cI, 1600, .inl (fun _ => 0))), (q8, .inl (cI, 6400, .inl (fun _ => 0))), (q9, .inl (cI, 4, .inl (fun _ => 0))), (q10, .inl (cI, 16, .inl (fun _ => 0))), (q11, .inl (cI, 1601, .inl (fun _ => 0)))] := hD
  refine va_putF (D := D) (ci := 1) (v := .ref q11) (ty := .array .int) (C := RX1) (T := TX1) (N := 17) S.1 S.2.1 S.2.2.2.2 inX1 tyX1 tyX1_ok nmX1 S.2.2.2.1 hK hP hD hS 0 rfl rfl 13 (by decide) (S.2.2.2.2 _ wf_X1_order) (fun _ h => h) rfl hin rfl (by decide +kernel) rfl rfl (Nat.le_of_ble_eq_true rfl) dX1_init_111 (fun H locs hP hD hS => ?_)
  have hP : va_P D twCl [(x, .inr (1, [.int 0, .ref q0, .ref q1, .ref q2, .ref q3, .ref q4, .ref q5, .ref q6, .int (1), .ref q7, .ref q8, .ref q9, .ref q10, .ref q11, .null, .int 0, .int 0])), (q0, .inl (cI, 1601, .inl (fun _ => 0))), (q1, .inl (cI, 1601, .inl (fun _ => 0))), (q2, .inl (cI, 1601, .inl (fun _ => 0))), (q3, .inl (cI, 1601, .inl (fun _ => 0))), (q4, .inl (cI, 1601, .inl (fun _ => 0))), (q5, .inl (cI, 1601, .inl (fun _ => 0))), (q6, .inl (cI, 1601, .inl (fun _ => 0))), (q7, .inl (cI, 1600, .inl (fun _ => 0))), (q8, .inl (cI, 6400, .inl (fun _ => 0))), (q9, .inl (cI, 4, .inl (fun _ => 0))), (q10, .inl (cI, 16, .inl (fun _ => 0))), (q11, .inl (cI, 1601, .inl (fun _ => 0)))] H := hP
  have hD : va_D A [(x, .inr (1, [.int 0, .ref q0, .ref q1, .ref q2, .ref q3, .ref q4, .ref q5, .ref q6, .int (1), .ref q7, .ref q8, .ref q9, .ref q10, .ref q11, .null, .int 0, .int 0])), (q0, .inl (cI, 1601, .inl (fun _ => 0))), (q1, .inl (cI, 1601, .inl (fun _ => 0))), (q2, .inl (cI, 1601, .inl (fun _ => 0))), (q3, .inl (cI, 1601, .inl (fun _ => 0))), (q4, .inl (cI, 1601, .inl (fun _ => 0))), (q5, .inl (cI, 1601, .inl (fun _ => 0))), (q6, .inl (cI, 1601, .inl (fun _ => 0))), (q7, .inl (cI, 1600, .inl (fun _ => 0))), (q8, .inl (cI, 6400, .inl (fun _ => 0))), (q9, .inl (cI, 4, .inl (fun _ => 0))), (q10, .inl (cI, 16, .inl (fun _ => 0))), (q11, .inl (cI, 1601, .inl (fun _ => 0)))] := hD
  refine lv_aload_n S.1 S.2.1 dX1_init_114 rfl (lv_at hl 0 rfl) ?_
  refine lv_sipush (v := nI 1601) S.1 S.2.1 dX1_init_115 (by decide) ?_
  refine tw_newa (atype := .boolean) S wa_boolean rfl (fun C h => by cases h) hK hP hD hS hA 1 rfl (N := 1601) (Nat.le_of_ble_eq_true rfl) (fun cA => rfl) (Nat.le_of_ble_eq_true rfl) (Nat.le_of_ble_eq_true rfl) (Nat.le_of_ble_eq_true rfl) dX1_init_118 (fun q12 H hP hD hS => ?_)
  have hP : va_P D twCl [(x, .inr (1, [.int 0, .ref q0, .ref q1, .ref q2, .ref q3, .ref q4, .ref q5, .ref q6, .int (1), .ref q7, .ref q8, .ref q9, .ref q10, .ref q11, .null, .int 0, .int 0])), (q0, .inl (cI, 1601, .inl (fun _ => 0))), (q1, .inl (cI, 1601, .inl (fun _ => 0))), (q2, .inl (cI, 1601, .inl (fun _ => 0))), (q3, .inl (cI, 1601, .inl (fun _ => 0))), (q4, .inl (cI, 1601, .inl (fun _ => 0))), (q5, .inl (cI, 1601, .inl (fun _ => 0))), (q6, .inl (cI, 1601, .inl (fun _ => 0))), (q7, .inl (cI, 1600, .inl (fun _ => 0))), (q8, .inl (cI, 6400, .inl (fun _ => 0))), (q9, .inl (cI, 4, .inl (fun _ => 0))), (q10, .inl (cI, 16, .inl (fun _ => 0))), (q11, .inl (cI, 1601, .inl (fun _ => 0))), (q12, .inl (cZ, 1601, .inl (fun _ => 0)))] H := hP
  have hD : va_D A [(x, .inr (1, [.int 0, .ref q0, .ref q1, .ref q2, .ref q3, .ref q4, .ref q5, .ref q6, .int (1), .ref q7, .ref q8, .ref q9, .ref q10, .ref q11, .null, .int 0, .int 0])), (q0, .inl (cI, 1601, .inl (fun _ => 0))), (q1, .inl (cI, 1601, .inl (fun _ => 0))), (q2, .inl (cI, 1601, .inl (fun _ => 0))), (q3, .inl (cI, 1601, .inl (fun _ => 0))), (q4, .inl (cI, 1601, .inl (fun _ => 0))), (q5, .inl (cI, 1601, .inl (fun _ => 0))), (q6, .inl (cI, 1601, .inl (fun _ => 0))), (q7, .inl (cI, 1600, .inl (fun _ => 0))), (q8, .inl (cI, 6400, .inl (fun _ => 0))), (q9, .inl (cI, 4, .inl (fun _ => 0))), (q10, .inl (cI, 16, .inl (fun _ => 0))), (q11, .inl (cI, 1601, .inl (fun _ => 0))), (q12, .inl (cZ, 1601, .inl (fun _ => 0)))] := hD
  refine va_putF (D := D) (ci := 1) (v := .ref q12) (ty := .array .boolean) (C := RX1) (T := TX1) (N := 17) S.1 S.2.1 S.2.2.2.2 inX1 tyX1 tyX1_ok nmX1 S.2.2.2.1 hK hP hD hS 0 rfl rfl 14 (by decide) (S.2.2.2.2 _ wf_X1_gone) (fun _ h => h) rfl hin rfl (by decide +kernel) rfl rfl (Nat.le_of_ble_eq_true rfl) dX1_init_120 (fun H locs hP hD hS => ?_)
  have hP : va_P D twCl [(x, .inr (1, [.int 0, .ref q0, .ref q1, .ref q2, .ref q3, .ref q4, .ref q5, .ref q6, .int (1), .ref q7, .ref q8, .ref q9, .ref q10, .ref q11, .ref q12, .int 0, .int 0])), (q0, .inl (cI, 1601, .inl (fun _ => 0))), (q1, .inl (cI, 1601, .inl (fun _ => 0))), (q2, .inl (cI, 1601, .inl (fun _ => 0))), (q3, .inl (cI, 1601, .inl (fun _ => 0))), (q4, .inl (cI, 1601, .inl (fun _ => 0))), (q5, .inl (cI, 1601, .inl (fun _ => 0))), (q6, .inl (cI, 1601, .inl (fun _ => 0))), (q7, .inl (cI, 1600, .inl (fun _ => 0))), (q8, .inl (cI, 6400, .inl (fun _ => 0))), (q9, .inl (cI, 4, .inl (fun _ => 0))), (q10, .inl (cI, 16, .inl (fun _ => 0))), (q11, .inl (cI, 1601, .inl (fun _ => 0))), (q12, .inl (cZ, 1601, .inl (fun _ => 0)))] H := hP
  have hD : va_D A [(x, .inr (1, [.int 0, .ref q0, .ref q1, .ref q2, .ref q3, .ref q4, .ref q5, .ref q6, .int (1), .ref q7, .ref q8, .ref q9, .ref q10, .ref q11, .ref q12, .int 0, .int 0])), (q0, .inl (cI, 1601, .inl (fun _ => 0))), (q1, .inl (cI, 1601, .inl (fun _ => 0))), (q2, .inl (cI, 1601, .inl (fun _ => 0))), (q3, .inl (cI, 1601, .inl (fun _ => 0))), (q4, .inl (cI, 1601, .inl (fun _ => 0))), (q5, .inl (cI, 1601, .inl (fun _ => 0))), (q6, .inl (cI, 1601, .inl (fun _ => 0))), (q7, .inl (cI, 1600, .inl (fun _ => 0))), (q8, .inl (cI, 6400, .inl (fun _ => 0))), (q9, .inl (cI, 4, .inl (fun _ => 0))), (q10, .inl (cI, 16, .inl (fun _ => 0))), (q11, .inl (cI, 1601, .inl (fun _ => 0))), (q12, .inl (cZ, 1601, .inl (fun _ => 0)))] := hD
  refine lv_aload_n S.1 S.2.1 dX1_init_123 rfl (lv_at hl 0 rfl) ?_
  refine lv_iconst (v := -1) S.1 S.2.1 dX1_init_124 (by decide) ?_
  refine va_put (D := D) (ci := 1) (v := .int (-1)) (ty := .int) (C := RX1) (T := TX1) (N := 17) S.1 S.2.1 S.2.2.2.2 inX1 tyX1 tyX1_ok nmX1 S.2.2.2.1 hK hP hD hS 0 rfl rfl 15 (by decide) (S.2.2.2.2 _ wf_X1_orderOf) (fun _ h => h) rfl (by decide +kernel) rfl rfl (Nat.le_of_ble_eq_true rfl) dX1_init_125 (fun H locs hP hD hS => ?_)
  have hP : va_P D twCl [(x, .inr (1, [.int 0, .ref q0, .ref q1, .ref q2, .ref q3, .ref q4, .ref q5, .ref q6, .int (1), .ref q7, .ref q8, .ref q9, .ref q10, .ref q11, .ref q12, .int (-1), .int 0])), (q0, .inl (cI, 1601, .inl (fun _ => 0))), (q1, .inl (cI, 1601, .inl (fun _ => 0))), (q2, .inl (cI, 1601, .inl (fun _ => 0))), (q3, .inl (cI, 1601, .inl (fun _ => 0))), (q4, .inl (cI, 1601, .inl (fun _ => 0))), (q5, .inl (cI, 1601, .inl (fun _ => 0))), (q6, .inl (cI, 1601, .inl (fun _ => 0))), (q7, .inl (cI, 1600, .inl (fun _ => 0))), (q8, .inl (cI, 6400, .inl (fun _ => 0))), (q9, .inl (cI, 4, .inl (fun _ => 0))), (q10, .inl (cI, 16, .inl (fun _ => 0))), (q11, .inl (cI, 1601, .inl (fun _ => 0))), (q12, .inl (cZ, 1601, .inl (fun _ => 0)))] H := hP
  have hD : va_D A [(x, .inr (1, [.int 0, .ref q0, .ref q1, .ref q2, .ref q3, .ref q4, .ref q5, .ref q6, .int (1), .ref q7, .ref q8, .ref q9, .ref q10, .ref q11, .ref q12, .int (-1), .int 0])), (q0, .inl (cI, 1601, .inl (fun _ => 0))), (q1, .inl (cI, 1601, .inl (fun _ => 0))), (q2, .inl (cI, 1601, .inl (fun _ => 0))), (q3, .inl (cI, 1601, .inl (fun _ => 0))), (q4, .inl (cI, 1601, .inl (fun _ => 0))), (q5, .inl (cI, 1601, .inl (fun _ => 0))), (q6, .inl (cI, 1601, .inl (fun _ => 0))), (q7, .inl (cI, 1600, .inl (fun _ => 0))), (q8, .inl (cI, 6400, .inl (fun _ => 0))), (q9, .inl (cI, 4, .inl (fun _ => 0))), (q10, .inl (cI, 16, .inl (fun _ => 0))), (q11, .inl (cI, 1601, .inl (fun _ => 0))), (q12, .inl (cZ, 1601, .inl (fun _ => 0)))] := hD
  have e : [(x, .inr (1, [.int 0, .ref q0, .ref q1, .ref q2, .ref q3, .ref q4, .ref q5, .ref q6, .int (1), .ref q7, .ref q8, .ref q9, .ref q10, .ref q11, .ref q12, .int (-1), .int 0])), (q0, .inl (cI, 1601, .inl (fun _ => 0))), (q1, .inl (cI, 1601, .inl (fun _ => 0))), (q2, .inl (cI, 1601, .inl (fun _ => 0))), (q3, .inl (cI, 1601, .inl (fun _ => 0))), (q4, .inl (cI, 1601, .inl (fun _ => 0))), (q5, .inl (cI, 1601, .inl (fun _ => 0))), (q6, .inl (cI, 1601, .inl (fun _ => 0))), (q7, .inl (cI, 1600, .inl (fun _ => 0))), (q8, .inl (cI, 6400, .inl (fun _ => 0))), (q9, .inl (cI, 4, .inl (fun _ => 0))), (q10, .inl (cI, 16, .inl (fun _ => 0))), (q11, .inl (cI, 1601, .inl (fun _ => 0))), (q12, .inl (cZ, 1601, .inl (fun _ => 0)))] = tw_y cI cZ x (fun k => [q0, q1, q2, q3, q4, q5, q6, q7, q8, q9, q10, q11, q12].getD k 0) tw_t0 := by
    unfold tw_y
    rw [tw_t0w, tw_t0z (k := 0) (by decide), tw_t0z (k := 1) (by decide), tw_t0z (k := 2) (by decide), tw_t0z (k := 3) (by decide), tw_t0z (k := 4) (by decide), tw_t0z (k := 5) (by decide), tw_t0z (k := 6) (by decide), tw_t0z (k := 8) (by decide), tw_t0z (k := 9) (by decide), tw_t0z (k := 10) (by decide), tw_t0z (k := 11) (by decide), tw_t0z (k := 12) (by decide), show nI (tw_t0 13 0) = 0 by decide, show nI (tw_t0 13 1) = 1 by decide, show nI (tw_t0 13 2) - 1 = -1 by decide, show nI (tw_t0 13 3) = 0 by decide]
    rfl
  rw [e] at hP hD
  exact W.vret S.1 S.2.1 hr (fun t ht hW => ⟨⟨_, rfl, trivial, by rw [ht]; exact hP, va_K.moved hW.alike hK, hD⟩, hS.F ht⟩) hS.2.2 dX1_init_128 hlk
end
section
/-! The law's own small methods: what they see, and the class's calls in them. -/
def tw_xo (cI cJ cL : ClassId) (x : Nat) (ad : Nat → Nat) (st : Nat → Nat → Nat) (o : Nat) (fo : Nat → Int64) : va_W := (o, .inl (cL, 1, .inr (.inl fo))) :: tw_x cI cJ x ad st
def tw_OU (D : va_G) (cI cJ cL : ClassId) (x : Nat) (ad : Nat → Nat) (st : Nat → Nat → Nat) (o : Nat) (fo : Nat → Int64) (U : State) : Prop := va_P D twCl (tw_xo cI cJ cL x ad st o fo) U.heap ∧ va_K D twCl [(cI, .int), (cJ, .array .int), (cL, .long)] U ∧ va_D (fun _ => True) (tw_xo cI cJ cL x ad st o fo)
def tw_OT (D : va_G) (cI cJ cL : ClassId) (x : Nat) (ad : Nat → Nat) (o : Nat) (A : Nat → Prop) (u : (Nat → Nat → Nat) × (Nat → Int64)) (t : State) : Prop := va_P D twCl (tw_xo cI cJ cL x ad u.1 o u.2) t.heap ∧ va_K D twCl [(cI, .int), (cJ, .array .int), (cL, .long)] t ∧ va_D A (tw_xo cI cJ cL x ad u.1 o u.2)
theorem tw_OU.blind {D : va_G} {cI cJ cL : ClassId} {x : Nat} {ad : Nat → Nat} {st : Nat → Nat → Nat} {o : Nat} {fo : Nat → Int64} {U : State} {g : JFrame} {mk : MethodId} {a : Array Value} (h : tw_OU D cI cJ cL x ad st o fo U) : tw_OU D cI cJ cL x ad st o fo (U.calling g mk a) := ⟨h.1, va_K.moved (u := U) (U := U.calling g mk a) (Vm.Alike.refl U.vm) h.2.1, h.2.2⟩
/-- none of it is thrown on -/
def tw_XN : String → State → State → Prop := vx_X (fun _ : Unit => False) (fun _ _ _ => True) (fun _ => False)
def tw_wr (OK : Int32 → (Nat → Nat → Nat) → Prop) (px : Nat → Prop) (st : Nat → Nat → Nat) (fo : Nat → Int64) (r : Int32) (u : (Nat → Nat → Nat) × (Nat → Int64)) : Prop :=
  (r = nI 0 ∧ ∃ rr, OK rr u.1 ∧ u.2 0 = rr.toInt64) ∨ ∃ c, r = nI c ∧ (c = 1 ∨ c = 2) ∧ px c ∧ u = (st, fo)
section TWW
variable {p : Program} {l : Launch} {e : Env} {R : Room} {s : State} {m : MethodId} {args : Array Value} {below : List Frame} {meth : Method} {c : Code} {H : Heap} {locs : List Loc} {cells slots : Nat} {Q : State → Prop}
variable {cc bytes : ByteArray} {pc nL maxL n index : Nat} {ls : Array Slot} {rest st0 As : List Value} {D : va_G} {A : Nat → Prop} {x o : Nat} {ad : Nat → Nat} {st : Nat → Nat → Nat} {fo : Nat → Int64} {cI cJ cL : ClassId} {y : MethodName} {ret : Option FieldType} {rm : Room} {px : Nat → Prop}
/-- a call of the class, the law's array beside it -/
theorem tw_lci (S : CallFix p m c cc nL s args tw_wall RL) (hK : va_K D twCl [(cI, .int), (cJ, .array .int), (cL, .long)] s) (hP : va_P D twCl (tw_xo cI cJ cL x ad st o fo) H) (hD : va_D A (tw_xo cI cJ cL x ad st o fo)) (hS : va_S A s.heap H locs) (hA : ∀ q, s.heap.size ≤ q → A q) (Z : tw_Z (fun q => s.heap.size ≤ q) s) (z : va_S (fun q => s.heap.size ≤ q) s.heap H locs) {OK : Int32 → (Nat → Nat → Nat) → Prop}
    (hM : vx_Met l y (Cond.code y bytes maxL ret :: tw_wall) rm (va_Pc (.ref x :: As) (fun U => U.heap.size = H.size ∧ tw_Z (fun q => H.size ≤ q) U ∧ tw_XU D cI cJ x ad st U)) (va_Qi OK (tw_XT D cI cJ x ad (va_A (tw_x cI cJ x ad st) H.size)) (va_A (tw_x cI cJ x ad st) H.size)) (tw_XC px H.size) 4 24 (va_A (tw_x cI cJ x ad st) H.size))
    (g : GoodIn tw_wall (wsV RL index RX0 y (Cond.code y bytes maxL ret :: tw_wall))) (hrc : rm.cells = 4) (hrs : rm.slots = 24) (hd : y.cls = RX0 ∧ y.cls ≠ "java/lang/invoke/MethodHandle" ∧ y.cls ≠ "java/lang/invoke/VarHandle" ∧ (parseMethodDescriptor y.desc).map (fun d => d.parameters.length) = some n) (hR : rm.frames + 1 ≤ R.frames ∧ 8 + (maxL + 11) + rm.locals ≤ R.locals) (hn : As.length = n) (hsize : ls.size = nL) (hst : st0 = As.reverse ++ .ref x :: rest) (hW : (rest.map fun v => v.category).sum ≤ 8) (hdg : decode cc pc = .ok (.invokevirtual index, 3)) (hf : cells + 4 ≤ R.cells ∧ slots + 24 ≤ R.slots)
    (kx : ∀ (u : Nat) (q9 : Addr) (ce : Cell) (H1 : Heap) (locs1 : List Loc), px u → H1[q9]? = some ce → ce.vm = .none → s.vm.findClass (tw_ex u) = some ce.cls → va_P D twCl (tw_xo cI cJ cL x ad st o fo) H1 → va_S A s.heap H1 locs1 → vx_W p l e R s m args below meth c H1 locs1 (cells + 4) (slots + 24) Q (F0 m pc ls rest) q9)
    (kk : ∀ (r : Int32) (u : Nat → Nat → Nat) (H1 : Heap) (locs1 : List Loc), OK r u → va_P D twCl (tw_xo cI cJ cL x ad u o fo) H1 → va_D A (tw_xo cI cJ cL x ad u o fo) → va_S A s.heap H1 locs1 → W p l e R s m args below meth c H1 locs1 (cells + 4) (slots + 24) Q (F0 m (pc + 3) ls (.int r :: rest))) : W p l e R s m args below meth c H locs cells slots Q (F0 m pc ls st0) := by
  have hPc : va_P D twCl (tw_x cI cJ x ad st) H := hP.sub (List.range' 1 25) rfl
  have hDc : va_D A (tw_x cI cJ x ad st) := hD.sub (List.range' 1 25) (by decide) rfl
  have hKc : va_K D twCl [(cI, .int), (cJ, .array .int)] s := hK.sub [0, 1] rfl
  have hF := va_free (wc := tw_x cI cJ x ad st) hD hS hA (List.range' 1 25) rfl
  refine vx_calli (A0 := A) (vx_runV (As := As) (rest := rest) S hM (cwV n S.2.2.2.2 g rfl hrc hrs hd hR) ⟨fun a U g9 mk q => ⟨q.1, q.2.1, q.2.2.1.blind, q.2.2.2.blind⟩, va_recv hKc hPc (ci := 0) (q0 := 0) rfl rfl, fun U hU hW => ⟨rfl, by rw [hU], Z.at z hU hW (fun q h => Nat.le_trans z.1 h), by rw [hU]; exact hPc, va_K.moved hW.alike hKc, hDc.weaken (fun _ _ _ _ => trivial)⟩⟩ rfl hn hsize hst (lv_room hW) hdg hf) hS (fun q _ h => hF q h) hF (fun q h1 h2 => absurd h1 (Nat.not_lt.mpr h2)) (fun E ce q9 u t H1 l1 h1 hvm hp hE hz1 hk1 hS1 hce hcv hcl => ?_) (fun r u t H1 l1 h1 hvm hp hB hz1 hk1 hS1 => ?_)
  · rw [hE] at hcl
    exact kx u q9 ce H1 l1 hp hce hcv hcl (hP.kept (fun k q hq => hk1 q.1 ((hP k q hq).lt) (Nat.not_le.mpr ((hP k q hq).lt)))) hS1
  · obtain ⟨b1, b2, b3⟩ := hB
    rw [h1] at b1
    obtain ⟨j1, j2⟩ := va_join (wr := [(o, .inl (cL, 1, .inr (.inl fo)))]) (w1 := tw_x cI cJ x ad u) hP hD (List.range' 1 25) [0] rfl rfl (by decide) (by decide) hk1 hF b1 b3
    exact kk r u H1 l1 hp j1 j2 hS1
theorem tw_lcv (S : CallFix p m c cc nL s args tw_wall RL) (w : TWX D cI cJ x ad st A s.heap H locs s) (hA : ∀ q, s.heap.size ≤ q → A q) (Z : tw_Z (fun q => s.heap.size ≤ q) s) (z : va_S (fun q => s.heap.size ≤ q) s.heap H locs) {OK : (Nat → Nat → Nat) → Prop}
    (hM : vx_Met l y (Cond.code y bytes maxL ret :: tw_wall) rm (va_Pc (.ref x :: As) (fun U => U.heap.size = H.size ∧ tw_Z (fun q => H.size ≤ q) U ∧ tw_XU D cI cJ x ad st U)) (va_Qv OK (tw_XT D cI cJ x ad (va_A (tw_x cI cJ x ad st) H.size)) (va_A (tw_x cI cJ x ad st) H.size)) (tw_XC px H.size) 4 24 (va_A (tw_x cI cJ x ad st) H.size))
    (g : GoodIn tw_wall (wsV RL index RX0 y (Cond.code y bytes maxL ret :: tw_wall))) (hrc : rm.cells = 4) (hrs : rm.slots = 24) (hd : y.cls = RX0 ∧ y.cls ≠ "java/lang/invoke/MethodHandle" ∧ y.cls ≠ "java/lang/invoke/VarHandle" ∧ (parseMethodDescriptor y.desc).map (fun d => d.parameters.length) = some n) (hR : rm.frames + 1 ≤ R.frames ∧ 8 + (maxL + 11) + rm.locals ≤ R.locals) (hn : As.length = n) (hsize : ls.size = nL) (hst : st0 = As.reverse ++ .ref x :: rest) (hW : (rest.map fun v => v.category).sum ≤ 8) (hdg : decode cc pc = .ok (.invokevirtual index, 3)) (hf : cells + 4 ≤ R.cells ∧ slots + 24 ≤ R.slots)
    (kx : ∀ (u : Nat) (q9 : Addr) (ce : Cell) (H1 : Heap) (locs1 : List Loc), px u → H1[q9]? = some ce → ce.vm = .none → s.vm.findClass (tw_ex u) = some ce.cls → TWX D cI cJ x ad st A s.heap H1 locs1 s → vx_W p l e R s m args below meth c H1 locs1 (cells + 4) (slots + 24) Q (F0 m pc ls rest) q9)
    (kk : ∀ (u : Nat → Nat → Nat) (H1 : Heap) (locs1 : List Loc), OK u → TWX D cI cJ x ad u A s.heap H1 locs1 s → W p l e R s m args below meth c H1 locs1 (cells + 4) (slots + 24) Q (F0 m (pc + 3) ls rest)) : W p l e R s m args below meth c H locs cells slots Q (F0 m pc ls st0) := by
  have hF : ∀ q, va_A (tw_x cI cJ x ad st) H.size q → A q := fun q h => by
    rcases h with ⟨k, e9, h⟩ | h
    · exact w.2.2.1.2 k _ h
    · exact hA q (Nat.le_trans w.2.2.2.1 h)
  refine vx_callv (A0 := A) (vx_runV (As := As) (rest := rest) S hM (cwV n S.2.2.2.2 g rfl hrc hrs hd hR) ⟨fun a U g9 mk q => ⟨q.1, q.2.1, q.2.2.1.blind, q.2.2.2.blind⟩, va_recv w.1 w.2.1 (ci := 0) (q0 := 0) rfl rfl, fun U hU hW => ⟨rfl, by rw [hU], Z.at z hU hW (fun q h => Nat.le_trans z.1 h), w.U hU hW⟩⟩ rfl hn hsize hst (lv_room hW) hdg hf) w.2.2.2 (fun q _ h => hF q h) hF (fun q h1 h2 => absurd h1 (Nat.not_lt.mpr h2)) (fun E ce q9 u t H1 l1 h1 hvm hp hE hz1 hk1 hS1 hce hcv hcl => ?_) (fun u t H1 l1 h1 hvm hp hB hz1 hk1 hS1 => ?_)
  · rw [hE] at hcl
    exact kx u q9 ce H1 l1 hp hce hcv hcl (w.kept (fun q hq => hk1 q hq (Nat.not_le.mpr hq)) hS1)
  · obtain ⟨b1, b2, b3⟩ := hB
    exact kk u H1 l1 hp ⟨w.1, by rw [← h1]; exact b1, b3.weaken (fun _ _ _ h => hF _ h), hS1⟩
end TWW
end
section
set_option maxHeartbeats 4000000 in
set_option maxRecDepth 100000 in
/-- the law's insert -/
theorem kL_insert (l : Launch) (D : va_G) (cI cJ cL : ClassId) (x : Nat) (ad : Nat → Nat) (st : Nat → Nat → Nat) (o : Nat) (fo : Nat → Int64) (sz : Nat) (hlt : l.stackTraces = false) {v t b : Int32} {md : Nat → Nat} (hci : tw_ci md st) (hcc : ∀ c, c < 4 → st (24 + c) c = md c) (hnc : st 9 0 ≤ 512) (hn4 : ∀ j, st 4 j < 2147483648) : vx_Met l yL_insert wsL_insert ({ frames := 10, cells := 4, slots := 24, locals := 180 }) (va_Pc [.ref x, .int v, .int t, .int b, .ref o] (fun U => U.heap.size = sz ∧ tw_Z (fun q => sz ≤ q) U ∧ va_Nc "java/lang/IllegalStateException" "java/lang/IllegalArgumentException" U ∧ tw_OU D cI cJ cL x ad st o fo U)) (va_Qi (tw_wr (fun rr u => tw_okIns st v t b rr u) (tw_pxIns st v t b) st fo) (tw_OT D cI cJ cL x ad o (va_A (tw_xo cI cJ cL x ad st o fo) sz)) (va_A (tw_xo cI cJ cL x ad st o fo) sz)) tw_XN 4 24 (va_A (tw_xo cI cJ cL x ad st o fo) sz) := by
  refine vx_ofWH (cc := cL_insert) (maxL := 6) (ret := some .int) (hh := [(0, 12, 15, 13), (0, 12, 19, 15)]) (by decide) rfl ?_
  intro p e s m args below meth cd s₁ B hml hv
  obtain ⟨rfl, hsz, Z, hnc9, hU⟩ := hv
  subst hsz
  have S : CallFix p m cd cL_insert 6 s ([.ref x, .int v, .int t, .int b, .ref o] : List Value).toArray tw_wall RL := ⟨B.exec, B.bytes, hml, findClass_of_methodNamed B.named, fun w h => atoms_spec (ws := wsL_insert) B.pre w (List.mem_cons_of_mem _ h)⟩
  have htab : cd.exceptionTable.toList = tableOf [(0, 12, 15, 13), (0, 12, 19, 15)] := vx_table (x := yL_insert) B (atoms_spec (ws := wsL_insert) B.pre _ List.mem_cons_self)
  have hr := B.returns
  have hlk := B.notSynchronized
  have z : va_S (fun q => s.heap.size ≤ q) s.heap s.heap [] := va_S.rf
  obtain ⟨hP, hK, hD0⟩ := hU
  have hD := hD0.self (sz := s.heap.size)
  have hA : ∀ q : Nat, s.heap.size ≤ q → va_A (tw_xo cI cJ cL x ad st o fo) s.heap.size q := fun q h => Or.inr h
  generalize va_A (tw_xo cI cJ cL x ad st o fo) s.heap.size = A at hD hA ⊢
  have hS : va_S A s.heap s.heap [] := va_S.rf
  have hl := lv_entry ([.ref x, .int v, .int t, .int b, .ref o]) (n := 6) (Nat.le_of_ble_eq_true rfl)
  rw [lg_entry_eq]
  generalize (lg_sl ([.ref x, .int v, .int t, .int b, .ref o]) ++ List.replicate (6 - (lg_sl ([.ref x, .int v, .int t, .int b, .ref o])).length) Slot.unset).toArray = ls at hl ⊢
  have hl : lv_has ls 6 [(0, .ref x), (1, .int v), (2, .int t), (3, .int b), (4, .ref o)] := hl
  refine lv_aload S.1 S.2.1 dL_insert_0 (lv_at hl 4 rfl) ?_
  refine lv_iconst (v := nI 0) S.1 S.2.1 dL_insert_2 (by decide) ?_
  refine lv_aload_n S.1 S.2.1 dL_insert_3 rfl (lv_at hl 0 rfl) ?_
  refine lv_iload_n S.1 S.2.1 dL_insert_4 rfl (lv_at hl 1 rfl) ?_
  refine lv_iload_n S.1 S.2.1 dL_insert_5 rfl (lv_at hl 2 rfl) ?_
  refine lv_iload_n S.1 S.2.1 dL_insert_6 rfl (lv_at hl 3 rfl) ?_
  refine tw_lci (n := 3) S hK hP hD hS hA Z z (kX0_insert l D cI cJ x ad st _ hlt hci hcc hnc hn4) (tw_gV wl_L_7 wn_X0_insert ws_X0_insert wi_X0 wy_X0_insert) rfl rfl (by decide +kernel) ⟨Nat.le_of_ble_eq_true rfl, Nat.le_of_ble_eq_true rfl⟩ rfl hl.1 rfl (Nat.le_of_ble_eq_true rfl) dL_insert_7 ⟨Nat.le_of_ble_eq_true rfl, Nat.le_of_ble_eq_true rfl⟩ (fun u q9 ce H locs hpx hce hcv hcl hP hS => ?_) (fun rr u H locs hok hP hD hS => ?_)
  · have hu12 : u = 1 ∨ u = 2 := hpx.elim (fun g => Or.inl g.1) (fun g => Or.inr g.1)
    sorry
  · refine lv_i2l (v := rr.toInt64) S.1 S.2.1 dL_insert_10 rfl ?_
    refine va_last S.1 S.2.1 hK hP hD hS 0 2 rfl rfl (vp_in_nI (n := 0) (N := 1) (by decide) (by decide)) dL_insert_11 (fun H locs hP hD hS => ?_)
    have hP : va_P D twCl (tw_xo cI cJ cL x ad u o (vp_updL fo (nI 0).toNatClampNeg rr.toInt64)) H := hP
    have hD : va_D A (tw_xo cI cJ cL x ad u o (vp_updL fo (nI 0).toNatClampNeg rr.toInt64)) := hD
    refine lv_goto (tgt := 23) S.1 S.2.1 dL_insert_12 (by decide) ?_
    refine lv_iconst (v := nI 0) S.1 S.2.1 dL_insert_23 (by decide) ?_
    refine vx_ret ?_
    exact W.iret S.1 S.2.1 hr (fun t ht hW => ⟨⟨_, (u, vp_updL fo (nI 0).toNatClampNeg rr.toInt64), rfl, Or.inl ⟨rfl, rr, hok, by show vp_updL fo (nI 0).toNatClampNeg rr.toInt64 0 = rr.toInt64; rw [nI_clamp (by decide)]; exact pk_uLs⟩, by rw [ht]; exact hP, va_K.moved hW.alike hK, hD⟩, hS.F ht⟩) hS.2.2 dL_insert_24 hlk
set_option maxHeartbeats 4000000 in
set_option maxRecDepth 100000 in
/-- the law's remove -/
theorem kL_remove (l : Launch) (D : va_G) (cI cJ cL : ClassId) (x : Nat) (ad : Nat → Nat) (st : Nat → Nat → Nat) (o : Nat) (fo : Nat → Int64) (sz : Nat) (hlt : l.stackTraces = false) {v t : Int32} {md : Nat → Nat} (hci : tw_ci md st) (hcc : ∀ c, c < 4 → st (24 + c) c = md c) (hnc : st 9 0 ≤ 512) (hn4 : ∀ j, st 4 j < 2147483648) : vx_Met l yL_remove wsL_remove ({ frames := 10, cells := 4, slots := 24, locals := 180 }) (va_Pc [.ref x, .int v, .int t, .ref o] (fun U => U.heap.size = sz ∧ tw_Z (fun q => sz ≤ q) U ∧ va_Nc "java/lang/IllegalStateException" "java/lang/IllegalArgumentException" U ∧ tw_OU D cI cJ cL x ad st o fo U)) (va_Qi (tw_wr (fun rr u => tw_okRem st v t rr u) (tw_pxRem st v t) st fo) (tw_OT D cI cJ cL x ad o (va_A (tw_xo cI cJ cL x ad st o fo) sz)) (va_A (tw_xo cI cJ cL x ad st o fo) sz)) tw_XN 4 24 (va_A (tw_xo cI cJ cL x ad st o fo) sz) := by
  refine vx_ofWH (cc := cL_remove) (maxL := 5) (ret := some .int) (hh := [(0, 10, 13, 13), (0, 10, 17, 15)]) (by decide) rfl ?_
  intro p e s m args below meth cd s₁ B hml hv
  obtain ⟨rfl, hsz, Z, hnc9, hU⟩ := hv
  subst hsz
  have S : CallFix p m cd cL_remove 5 s ([.ref x, .int v, .int t, .ref o] : List Value).toArray tw_wall RL := ⟨B.exec, B.bytes, hml, findClass_of_methodNamed B.named, fun w h => atoms_spec (ws := wsL_remove) B.pre w (List.mem_cons_of_mem _ h)⟩
  have htab : cd.exceptionTable.toList = tableOf [(0, 10, 13, 13), (0, 10, 17, 15)] := vx_table (x := yL_remove) B (atoms_spec (ws := wsL_remove) B.pre _ List.mem_cons_self)
  have hr := B.returns
  have hlk := B.notSynchronized
  have z : va_S (fun q => s.heap.size ≤ q) s.heap s.heap [] := va_S.rf
  obtain ⟨hP, hK, hD0⟩ := hU
  have hD := hD0.self (sz := s.heap.size)
  have hA : ∀ q : Nat, s.heap.size ≤ q → va_A (tw_xo cI cJ cL x ad st o fo) s.heap.size q := fun q h => Or.inr h
  generalize va_A (tw_xo cI cJ cL x ad st o fo) s.heap.size = A at hD hA ⊢
  have hS : va_S A s.heap s.heap [] := va_S.rf
  have hl := lv_entry ([.ref x, .int v, .int t, .ref o]) (n := 5) (Nat.le_of_ble_eq_true rfl)
  rw [lg_entry_eq]
  generalize (lg_sl ([.ref x, .int v, .int t, .ref o]) ++ List.replicate (5 - (lg_sl ([.ref x, .int v, .int t, .ref o])).length) Slot.unset).toArray = ls at hl ⊢
  have hl : lv_has ls 5 [(0, .ref x), (1, .int v), (2, .int t), (3, .ref o)] := hl
  refine lv_aload_n S.1 S.2.1 dL_remove_0 rfl (lv_at hl 3 rfl) ?_
  refine lv_iconst (v := nI 0) S.1 S.2.1 dL_remove_1 (by decide) ?_
  refine lv_aload_n S.1 S.2.1 dL_remove_2 rfl (lv_at hl 0 rfl) ?_
  refine lv_iload_n S.1 S.2.1 dL_remove_3 rfl (lv_at hl 1 rfl) ?_
  refine lv_iload_n S.1 S.2.1 dL_remove_4 rfl (lv_at hl 2 rfl) ?_
  refine tw_lci (n := 2) S hK hP hD hS hA Z z (kX0_remove l D cI cJ x ad st _ hlt hci hcc hnc hn4) (tw_gV wl_L_17 wn_X0_remove ws_X0_remove wi_X0 wy_X0_remove) rfl rfl (by decide +kernel) ⟨Nat.le_of_ble_eq_true rfl, Nat.le_of_ble_eq_true rfl⟩ rfl hl.1 rfl (Nat.le_of_ble_eq_true rfl) dL_remove_5 ⟨Nat.le_of_ble_eq_true rfl, Nat.le_of_ble_eq_true rfl⟩ (fun u q9 ce H locs hpx hce hcv hcl hP hS => ?_) (fun rr u H locs hok hP hD hS => ?_)
  · have hu12 : u = 1 ∨ u = 2 := hpx.elim (fun g => Or.inl g.1) (fun g => Or.inr g.1)
    sorry
  · refine lv_i2l (v := rr.toInt64) S.1 S.2.1 dL_remove_8 rfl ?_
    refine va_last S.1 S.2.1 hK hP hD hS 0 2 rfl rfl (vp_in_nI (n := 0) (N := 1) (by decide) (by decide)) dL_remove_9 (fun H locs hP hD hS => ?_)
    have hP : va_P D twCl (tw_xo cI cJ cL x ad u o (vp_updL fo (nI 0).toNatClampNeg rr.toInt64)) H := hP
    have hD : va_D A (tw_xo cI cJ cL x ad u o (vp_updL fo (nI 0).toNatClampNeg rr.toInt64)) := hD
    refine lv_goto (tgt := 21) S.1 S.2.1 dL_remove_10 (by decide) ?_
    refine lv_iconst (v := nI 0) S.1 S.2.1 dL_remove_21 (by decide) ?_
    refine vx_ret ?_
    exact W.iret S.1 S.2.1 hr (fun t ht hW => ⟨⟨_, (u, vp_updL fo (nI 0).toNatClampNeg rr.toInt64), rfl, Or.inl ⟨rfl, rr, hok, by show vp_updL fo (nI 0).toNatClampNeg rr.toInt64 0 = rr.toInt64; rw [nI_clamp (by decide)]; exact pk_uLs⟩, by rw [ht]; exact hP, va_K.moved hW.alike hK, hD⟩, hS.F ht⟩) hS.2.2 dL_remove_22 hlk
set_option maxHeartbeats 4000000 in
set_option maxRecDepth 100000 in
/-- the law's merge -/
theorem kL_merge (l : Launch) (D : va_G) (cI cJ cL : ClassId) (x : Nat) (ad : Nat → Nat) (st : Nat → Nat → Nat) (o : Nat) (fo : Nat → Int64) (sz : Nat) (hlt : l.stackTraces = false) {v t : Int32} {md : Nat → Nat} (hci : tw_ci md st) (hcc : ∀ c, c < 4 → st (24 + c) c = md c) (hnc : st 9 0 ≤ 512) (hn4 : ∀ j, st 4 j < 2147483648) : vx_Met l yL_merge wsL_merge ({ frames := 10, cells := 4, slots := 24, locals := 180 }) (va_Pc [.ref x, .int v, .int t, .ref o] (fun U => U.heap.size = sz ∧ tw_Z (fun q => sz ≤ q) U ∧ va_Nc "java/lang/IllegalStateException" "java/lang/IllegalArgumentException" U ∧ tw_OU D cI cJ cL x ad st o fo U)) (va_Qi (tw_wr (fun rr u => ∃ a b k, a < 4 ∧ v = nI a ∧ b < 4 ∧ t = nI b ∧ rr = nI k ∧ tw_mrg md st u a b (st 9 0) k) (fun u => u = 1 ∧ (tw_nc v ∨ tw_nc t)) st fo) (tw_OT D cI cJ cL x ad o (va_A (tw_xo cI cJ cL x ad st o fo) sz)) (va_A (tw_xo cI cJ cL x ad st o fo) sz)) tw_XN 4 24 (va_A (tw_xo cI cJ cL x ad st o fo) sz) := by
  refine vx_ofWH (cc := cL_merge) (maxL := 5) (ret := some .int) (hh := [(0, 10, 13, 13)]) (by decide) rfl ?_
  intro p e s m args below meth cd s₁ B hml hv
  obtain ⟨rfl, hsz, Z, hnc9, hU⟩ := hv
  subst hsz
  have S : CallFix p m cd cL_merge 5 s ([.ref x, .int v, .int t, .ref o] : List Value).toArray tw_wall RL := ⟨B.exec, B.bytes, hml, findClass_of_methodNamed B.named, fun w h => atoms_spec (ws := wsL_merge) B.pre w (List.mem_cons_of_mem _ h)⟩
  have htab : cd.exceptionTable.toList = tableOf [(0, 10, 13, 13)] := vx_table (x := yL_merge) B (atoms_spec (ws := wsL_merge) B.pre _ List.mem_cons_self)
  have hr := B.returns
  have hlk := B.notSynchronized
  have z : va_S (fun q => s.heap.size ≤ q) s.heap s.heap [] := va_S.rf
  obtain ⟨hP, hK, hD0⟩ := hU
  have hD := hD0.self (sz := s.heap.size)
  have hA : ∀ q : Nat, s.heap.size ≤ q → va_A (tw_xo cI cJ cL x ad st o fo) s.heap.size q := fun q h => Or.inr h
  generalize va_A (tw_xo cI cJ cL x ad st o fo) s.heap.size = A at hD hA ⊢
  have hS : va_S A s.heap s.heap [] := va_S.rf
  have hl := lv_entry ([.ref x, .int v, .int t, .ref o]) (n := 5) (Nat.le_of_ble_eq_true rfl)
  rw [lg_entry_eq]
  generalize (lg_sl ([.ref x, .int v, .int t, .ref o]) ++ List.replicate (5 - (lg_sl ([.ref x, .int v, .int t, .ref o])).length) Slot.unset).toArray = ls at hl ⊢
  have hl : lv_has ls 5 [(0, .ref x), (1, .int v), (2, .int t), (3, .ref o)] := hl
  refine lv_aload_n S.1 S.2.1 dL_merge_0 rfl (lv_at hl 3 rfl) ?_
  refine lv_iconst (v := nI 0) S.1 S.2.1 dL_merge_1 (by decide) ?_
  refine lv_aload_n S.1 S.2.1 dL_merge_2 rfl (lv_at hl 0 rfl) ?_
  refine lv_iload_n S.1 S.2.1 dL_merge_3 rfl (lv_at hl 1 rfl) ?_
  refine lv_iload_n S.1 S.2.1 dL_merge_4 rfl (lv_at hl 2 rfl) ?_
  refine tw_lci (n := 2) S hK hP hD hS hA Z z (kX0_merge l D cI cJ x ad st _ hlt hci hcc hnc hn4) (tw_gV wl_L_25 wn_X0_merge ws_X0_merge wi_X0 wy_X0_merge) rfl rfl (by decide +kernel) ⟨Nat.le_of_ble_eq_true rfl, Nat.le_of_ble_eq_true rfl⟩ rfl hl.1 rfl (Nat.le_of_ble_eq_true rfl) dL_merge_5 ⟨Nat.le_of_ble_eq_true rfl, Nat.le_of_ble_eq_true rfl⟩ (fun u q9 ce H locs hpx hce hcv hcl hP hS => ?_) (fun rr u H locs hok hP hD hS => ?_)
  · have hu12 : u = 1 ∨ u = 2 := Or.inl hpx.1
    sorry
  · refine lv_i2l (v := rr.toInt64) S.1 S.2.1 dL_merge_8 rfl ?_
    refine va_last S.1 S.2.1 hK hP hD hS 0 2 rfl rfl (vp_in_nI (n := 0) (N := 1) (by decide) (by decide)) dL_merge_9 (fun H locs hP hD hS => ?_)
    have hP : va_P D twCl (tw_xo cI cJ cL x ad u o (vp_updL fo (nI 0).toNatClampNeg rr.toInt64)) H := hP
    have hD : va_D A (tw_xo cI cJ cL x ad u o (vp_updL fo (nI 0).toNatClampNeg rr.toInt64)) := hD
    refine lv_goto (tgt := 17) S.1 S.2.1 dL_merge_10 (by decide) ?_
    refine lv_iconst (v := nI 0) S.1 S.2.1 dL_merge_17 (by decide) ?_
    refine vx_ret ?_
    exact W.iret S.1 S.2.1 hr (fun t ht hW => ⟨⟨_, (u, vp_updL fo (nI 0).toNatClampNeg rr.toInt64), rfl, Or.inl ⟨rfl, rr, hok, by show vp_updL fo (nI 0).toNatClampNeg rr.toInt64 0 = rr.toInt64; rw [nI_clamp (by decide)]; exact pk_uLs⟩, by rw [ht]; exact hP, va_K.moved hW.alike hK, hD⟩, hS.F ht⟩) hS.2.2 dL_merge_18 hlk
set_option maxHeartbeats 4000000 in
set_option maxRecDepth 100000 in
/-- the law's length -/
theorem kL_length (l : Launch) (D : va_G) (cI cJ cL : ClassId) (x : Nat) (ad : Nat → Nat) (st : Nat → Nat → Nat) (o : Nat) (fo : Nat → Int64) (sz : Nat) (hlt : l.stackTraces = false) {v : Int32} {md : Nat → Nat} (hci : tw_ci md st) (hcc : ∀ c, c < 4 → st (24 + c) c = md c) (hnc : st 9 0 ≤ 512) (hn4 : ∀ j, st 4 j < 2147483648) : vx_Met l yL_length wsL_length ({ frames := 10, cells := 4, slots := 24, locals := 180 }) (va_Pc [.ref x, .int v, .ref o] (fun U => U.heap.size = sz ∧ tw_Z (fun q => sz ≤ q) U ∧ va_Nc "java/lang/IllegalStateException" "java/lang/IllegalArgumentException" U ∧ tw_OU D cI cJ cL x ad st o fo U)) (va_Qi (tw_wr (fun rr u => ∃ a, a < 4 ∧ v = nI a ∧ rr = nI (st 8 a) ∧ u = st) (fun u => u = 1 ∧ tw_nc v) st fo) (tw_OT D cI cJ cL x ad o (va_A (tw_xo cI cJ cL x ad st o fo) sz)) (va_A (tw_xo cI cJ cL x ad st o fo) sz)) tw_XN 4 24 (va_A (tw_xo cI cJ cL x ad st o fo) sz) := by
  refine vx_ofWH (cc := cL_length) (maxL := 4) (ret := some .int) (hh := [(0, 9, 12, 13)]) (by decide) rfl ?_
  intro p e s m args below meth cd s₁ B hml hv
  obtain ⟨rfl, hsz, Z, hnc9, hU⟩ := hv
  subst hsz
  have S : CallFix p m cd cL_length 4 s ([.ref x, .int v, .ref o] : List Value).toArray tw_wall RL := ⟨B.exec, B.bytes, hml, findClass_of_methodNamed B.named, fun w h => atoms_spec (ws := wsL_length) B.pre w (List.mem_cons_of_mem _ h)⟩
  have htab : cd.exceptionTable.toList = tableOf [(0, 9, 12, 13)] := vx_table (x := yL_length) B (atoms_spec (ws := wsL_length) B.pre _ List.mem_cons_self)
  have hr := B.returns
  have hlk := B.notSynchronized
  have z : va_S (fun q => s.heap.size ≤ q) s.heap s.heap [] := va_S.rf
  obtain ⟨hP, hK, hD0⟩ := hU
  have hD := hD0.self (sz := s.heap.size)
  have hA : ∀ q : Nat, s.heap.size ≤ q → va_A (tw_xo cI cJ cL x ad st o fo) s.heap.size q := fun q h => Or.inr h
  generalize va_A (tw_xo cI cJ cL x ad st o fo) s.heap.size = A at hD hA ⊢
  have hS : va_S A s.heap s.heap [] := va_S.rf
  have hl := lv_entry ([.ref x, .int v, .ref o]) (n := 4) (Nat.le_of_ble_eq_true rfl)
  rw [lg_entry_eq]
  generalize (lg_sl ([.ref x, .int v, .ref o]) ++ List.replicate (4 - (lg_sl ([.ref x, .int v, .ref o])).length) Slot.unset).toArray = ls at hl ⊢
  have hl : lv_has ls 4 [(0, .ref x), (1, .int v), (2, .ref o)] := hl
  refine lv_aload_n S.1 S.2.1 dL_length_0 rfl (lv_at hl 2 rfl) ?_
  refine lv_iconst (v := nI 0) S.1 S.2.1 dL_length_1 (by decide) ?_
  refine lv_aload_n S.1 S.2.1 dL_length_2 rfl (lv_at hl 0 rfl) ?_
  refine lv_iload_n S.1 S.2.1 dL_length_3 rfl (lv_at hl 1 rfl) ?_
  refine tw_lci (n := 1) S hK hP hD hS hA Z z (kX0_length l D cI cJ x ad st _ hlt hci hcc hnc hn4) (tw_gV wl_L_28 wn_X0_length ws_X0_length wi_X0 wy_X0_length) rfl rfl (by decide +kernel) ⟨Nat.le_of_ble_eq_true rfl, Nat.le_of_ble_eq_true rfl⟩ rfl hl.1 rfl (Nat.le_of_ble_eq_true rfl) dL_length_4 ⟨Nat.le_of_ble_eq_true rfl, Nat.le_of_ble_eq_true rfl⟩ (fun u q9 ce H locs hpx hce hcv hcl hP hS => ?_) (fun rr u H locs hok hP hD hS => ?_)
  · have hu12 : u = 1 ∨ u = 2 := Or.inl hpx.1
    sorry
  · refine lv_i2l (v := rr.toInt64) S.1 S.2.1 dL_length_7 rfl ?_
    refine va_last S.1 S.2.1 hK hP hD hS 0 2 rfl rfl (vp_in_nI (n := 0) (N := 1) (by decide) (by decide)) dL_length_8 (fun H locs hP hD hS => ?_)
    have hP : va_P D twCl (tw_xo cI cJ cL x ad u o (vp_updL fo (nI 0).toNatClampNeg rr.toInt64)) H := hP
    have hD : va_D A (tw_xo cI cJ cL x ad u o (vp_updL fo (nI 0).toNatClampNeg rr.toInt64)) := hD
    refine lv_goto (tgt := 15) S.1 S.2.1 dL_length_9 (by decide) ?_
    refine lv_iconst (v := nI 0) S.1 S.2.1 dL_length_15 (by decide) ?_
    refine vx_ret ?_
    exact W.iret S.1 S.2.1 hr (fun t ht hW => ⟨⟨_, (u, vp_updL fo (nI 0).toNatClampNeg rr.toInt64), rfl, Or.inl ⟨rfl, rr, hok, by show vp_updL fo (nI 0).toNatClampNeg rr.toInt64 0 = rr.toInt64; rw [nI_clamp (by decide)]; exact pk_uLs⟩, by rw [ht]; exact hP, va_K.moved hW.alike hK, hD⟩, hS.F ht⟩) hS.2.2 dL_length_16 hlk
set_option maxHeartbeats 4000000 in
set_option maxRecDepth 100000 in
/-- the law's letter -/
theorem kL_letter (l : Launch) (D : va_G) (cI cJ cL : ClassId) (x : Nat) (ad : Nat → Nat) (st : Nat → Nat → Nat) (o : Nat) (fo : Nat → Int64) (sz : Nat) (hlt : l.stackTraces = false) {v t : Int32} {md : Nat → Nat} (hci : tw_ci md st) (hcc : ∀ c, c < 4 → st (24 + c) c = md c) (hnc : st 9 0 ≤ 512) (hn4 : ∀ j, st 4 j < 2147483648) : vx_Met l yL_letter wsL_letter ({ frames := 10, cells := 4, slots := 24, locals := 180 }) (va_Pc [.ref x, .int v, .int t, .ref o] (fun U => U.heap.size = sz ∧ tw_Z (fun q => sz ≤ q) U ∧ va_Nc "java/lang/IllegalStateException" "java/lang/IllegalArgumentException" U ∧ tw_OU D cI cJ cL x ad st o fo U)) (va_Qi (tw_wr (fun rr u => ∃ a, a < 4 ∧ v = nI a ∧ ¬ t < 0 ∧ tw_pl st a t rr (fun p => st 3 (st 6 p)) ∧ u = st) (fun u => u = 1 ∧ (tw_nc v ∨ t < 0)) st fo) (tw_OT D cI cJ cL x ad o (va_A (tw_xo cI cJ cL x ad st o fo) sz)) (va_A (tw_xo cI cJ cL x ad st o fo) sz)) tw_XN 4 24 (va_A (tw_xo cI cJ cL x ad st o fo) sz) := by
  refine vx_ofWH (cc := cL_letter) (maxL := 5) (ret := some .int) (hh := [(0, 10, 13, 13)]) (by decide) rfl ?_
  intro p e s m args below meth cd s₁ B hml hv
  obtain ⟨rfl, hsz, Z, hnc9, hU⟩ := hv
  subst hsz
  have S : CallFix p m cd cL_letter 5 s ([.ref x, .int v, .int t, .ref o] : List Value).toArray tw_wall RL := ⟨B.exec, B.bytes, hml, findClass_of_methodNamed B.named, fun w h => atoms_spec (ws := wsL_letter) B.pre w (List.mem_cons_of_mem _ h)⟩
  have htab : cd.exceptionTable.toList = tableOf [(0, 10, 13, 13)] := vx_table (x := yL_letter) B (atoms_spec (ws := wsL_letter) B.pre _ List.mem_cons_self)
  have hr := B.returns
  have hlk := B.notSynchronized
  have z : va_S (fun q => s.heap.size ≤ q) s.heap s.heap [] := va_S.rf
  obtain ⟨hP, hK, hD0⟩ := hU
  have hD := hD0.self (sz := s.heap.size)
  have hA : ∀ q : Nat, s.heap.size ≤ q → va_A (tw_xo cI cJ cL x ad st o fo) s.heap.size q := fun q h => Or.inr h
  generalize va_A (tw_xo cI cJ cL x ad st o fo) s.heap.size = A at hD hA ⊢
  have hS : va_S A s.heap s.heap [] := va_S.rf
  have hl := lv_entry ([.ref x, .int v, .int t, .ref o]) (n := 5) (Nat.le_of_ble_eq_true rfl)
  rw [lg_entry_eq]
  generalize (lg_sl ([.ref x, .int v, .int t, .ref o]) ++ List.replicate (5 - (lg_sl ([.ref x, .int v, .int t, .ref o])).length) Slot.unset).toArray = ls at hl ⊢
  have hl : lv_has ls 5 [(0, .ref x), (1, .int v), (2, .int t), (3, .ref o)] := hl
  refine lv_aload_n S.1 S.2.1 dL_letter_0 rfl (lv_at hl 3 rfl) ?_
  refine lv_iconst (v := nI 0) S.1 S.2.1 dL_letter_1 (by decide) ?_
  refine lv_aload_n S.1 S.2.1 dL_letter_2 rfl (lv_at hl 0 rfl) ?_
  refine lv_iload_n S.1 S.2.1 dL_letter_3 rfl (lv_at hl 1 rfl) ?_
  refine lv_iload_n S.1 S.2.1 dL_letter_4 rfl (lv_at hl 2 rfl) ?_
  refine tw_lci (n := 2) S hK hP hD hS hA Z z (kX0_letter l D cI cJ x ad st _ hlt hci hcc hnc hn4) (tw_gV wl_L_32 wn_X0_letter ws_X0_letter wi_X0 wy_X0_letter) rfl rfl (by decide +kernel) ⟨Nat.le_of_ble_eq_true rfl, Nat.le_of_ble_eq_true rfl⟩ rfl hl.1 rfl (Nat.le_of_ble_eq_true rfl) dL_letter_5 ⟨Nat.le_of_ble_eq_true rfl, Nat.le_of_ble_eq_true rfl⟩ (fun u q9 ce H locs hpx hce hcv hcl hP hS => ?_) (fun rr u H locs hok hP hD hS => ?_)
  · have hu12 : u = 1 ∨ u = 2 := Or.inl hpx.1
    sorry
  · refine lv_i2l (v := rr.toInt64) S.1 S.2.1 dL_letter_8 rfl ?_
    refine va_last S.1 S.2.1 hK hP hD hS 0 2 rfl rfl (vp_in_nI (n := 0) (N := 1) (by decide) (by decide)) dL_letter_9 (fun H locs hP hD hS => ?_)
    have hP : va_P D twCl (tw_xo cI cJ cL x ad u o (vp_updL fo (nI 0).toNatClampNeg rr.toInt64)) H := hP
    have hD : va_D A (tw_xo cI cJ cL x ad u o (vp_updL fo (nI 0).toNatClampNeg rr.toInt64)) := hD
    refine lv_goto (tgt := 17) S.1 S.2.1 dL_letter_10 (by decide) ?_
    refine lv_iconst (v := nI 0) S.1 S.2.1 dL_letter_17 (by decide) ?_
    refine vx_ret ?_
    exact W.iret S.1 S.2.1 hr (fun t ht hW => ⟨⟨_, (u, vp_updL fo (nI 0).toNatClampNeg rr.toInt64), rfl, Or.inl ⟨rfl, rr, hok, by show vp_updL fo (nI 0).toNatClampNeg rr.toInt64 0 = rr.toInt64; rw [nI_clamp (by decide)]; exact pk_uLs⟩, by rw [ht]; exact hP, va_K.moved hW.alike hK, hD⟩, hS.F ht⟩) hS.2.2 dL_letter_18 hlk
set_option maxHeartbeats 4000000 in
set_option maxRecDepth 100000 in
/-- the law's name -/
theorem kL_name (l : Launch) (D : va_G) (cI cJ cL : ClassId) (x : Nat) (ad : Nat → Nat) (st : Nat → Nat → Nat) (o : Nat) (fo : Nat → Int64) (sz : Nat) (hlt : l.stackTraces = false) {v t : Int32} {md : Nat → Nat} (hci : tw_ci md st) (hcc : ∀ c, c < 4 → st (24 + c) c = md c) (hnc : st 9 0 ≤ 512) (hn4 : ∀ j, st 4 j < 2147483648) : vx_Met l yL_name wsL_name ({ frames := 10, cells := 4, slots := 24, locals := 180 }) (va_Pc [.ref x, .int v, .int t, .ref o] (fun U => U.heap.size = sz ∧ tw_Z (fun q => sz ≤ q) U ∧ va_Nc "java/lang/IllegalStateException" "java/lang/IllegalArgumentException" U ∧ tw_OU D cI cJ cL x ad st o fo U)) (va_Qi (tw_wr (fun rr u => ∃ a, a < 4 ∧ v = nI a ∧ ¬ t < 0 ∧ tw_pl st a t rr (fun p => st 4 (st 6 p)) ∧ u = st) (fun u => u = 1 ∧ (tw_nc v ∨ t < 0)) st fo) (tw_OT D cI cJ cL x ad o (va_A (tw_xo cI cJ cL x ad st o fo) sz)) (va_A (tw_xo cI cJ cL x ad st o fo) sz)) tw_XN 4 24 (va_A (tw_xo cI cJ cL x ad st o fo) sz) := by
  refine vx_ofWH (cc := cL_name) (maxL := 5) (ret := some .int) (hh := [(0, 10, 13, 13)]) (by decide) rfl ?_
  intro p e s m args below meth cd s₁ B hml hv
  obtain ⟨rfl, hsz, Z, hnc9, hU⟩ := hv
  subst hsz
  have S : CallFix p m cd cL_name 5 s ([.ref x, .int v, .int t, .ref o] : List Value).toArray tw_wall RL := ⟨B.exec, B.bytes, hml, findClass_of_methodNamed B.named, fun w h => atoms_spec (ws := wsL_name) B.pre w (List.mem_cons_of_mem _ h)⟩
  have htab : cd.exceptionTable.toList = tableOf [(0, 10, 13, 13)] := vx_table (x := yL_name) B (atoms_spec (ws := wsL_name) B.pre _ List.mem_cons_self)
  have hr := B.returns
  have hlk := B.notSynchronized
  have z : va_S (fun q => s.heap.size ≤ q) s.heap s.heap [] := va_S.rf
  obtain ⟨hP, hK, hD0⟩ := hU
  have hD := hD0.self (sz := s.heap.size)
  have hA : ∀ q : Nat, s.heap.size ≤ q → va_A (tw_xo cI cJ cL x ad st o fo) s.heap.size q := fun q h => Or.inr h
  generalize va_A (tw_xo cI cJ cL x ad st o fo) s.heap.size = A at hD hA ⊢
  have hS : va_S A s.heap s.heap [] := va_S.rf
  have hl := lv_entry ([.ref x, .int v, .int t, .ref o]) (n := 5) (Nat.le_of_ble_eq_true rfl)
  rw [lg_entry_eq]
  generalize (lg_sl ([.ref x, .int v, .int t, .ref o]) ++ List.replicate (5 - (lg_sl ([.ref x, .int v, .int t, .ref o])).length) Slot.unset).toArray = ls at hl ⊢
  have hl : lv_has ls 5 [(0, .ref x), (1, .int v), (2, .int t), (3, .ref o)] := hl
  refine lv_aload_n S.1 S.2.1 dL_name_0 rfl (lv_at hl 3 rfl) ?_
  refine lv_iconst (v := nI 0) S.1 S.2.1 dL_name_1 (by decide) ?_
  refine lv_aload_n S.1 S.2.1 dL_name_2 rfl (lv_at hl 0 rfl) ?_
  refine lv_iload_n S.1 S.2.1 dL_name_3 rfl (lv_at hl 1 rfl) ?_
  refine lv_iload_n S.1 S.2.1 dL_name_4 rfl (lv_at hl 2 rfl) ?_
  refine tw_lci (n := 2) S hK hP hD hS hA Z z (kX0_name l D cI cJ x ad st _ hlt hci hcc hnc hn4) (tw_gV wl_L_35 wn_X0_name ws_X0_name wi_X0 wy_X0_name) rfl rfl (by decide +kernel) ⟨Nat.le_of_ble_eq_true rfl, Nat.le_of_ble_eq_true rfl⟩ rfl hl.1 rfl (Nat.le_of_ble_eq_true rfl) dL_name_5 ⟨Nat.le_of_ble_eq_true rfl, Nat.le_of_ble_eq_true rfl⟩ (fun u q9 ce H locs hpx hce hcv hcl hP hS => ?_) (fun rr u H locs hok hP hD hS => ?_)
  · have hu12 : u = 1 ∨ u = 2 := Or.inl hpx.1
    sorry
  · refine lv_i2l (v := rr.toInt64) S.1 S.2.1 dL_name_8 rfl ?_
    refine va_last S.1 S.2.1 hK hP hD hS 0 2 rfl rfl (vp_in_nI (n := 0) (N := 1) (by decide) (by decide)) dL_name_9 (fun H locs hP hD hS => ?_)
    have hP : va_P D twCl (tw_xo cI cJ cL x ad u o (vp_updL fo (nI 0).toNatClampNeg rr.toInt64)) H := hP
    have hD : va_D A (tw_xo cI cJ cL x ad u o (vp_updL fo (nI 0).toNatClampNeg rr.toInt64)) := hD
    refine lv_goto (tgt := 17) S.1 S.2.1 dL_name_10 (by decide) ?_
    refine lv_iconst (v := nI 0) S.1 S.2.1 dL_name_17 (by decide) ?_
    refine vx_ret ?_
    exact W.iret S.1 S.2.1 hr (fun t ht hW => ⟨⟨_, (u, vp_updL fo (nI 0).toNatClampNeg rr.toInt64), rfl, Or.inl ⟨rfl, rr, hok, by show vp_updL fo (nI 0).toNatClampNeg rr.toInt64 0 = rr.toInt64; rw [nI_clamp (by decide)]; exact pk_uLs⟩, by rw [ht]; exact hP, va_K.moved hW.alike hK, hD⟩, hS.F ht⟩) hS.2.2 dL_name_18 hlk
set_option maxHeartbeats 4000000 in
set_option maxRecDepth 100000 in
/-- the law's has -/
theorem kL_has (l : Launch) (D : va_G) (cI cJ cL : ClassId) (x : Nat) (ad : Nat → Nat) (st : Nat → Nat → Nat) (o : Nat) (fo : Nat → Int64) (sz : Nat) (hlt : l.stackTraces = false) {v t : Int32} {md : Nat → Nat} (hci : tw_ci md st) (hcc : ∀ c, c < 4 → st (24 + c) c = md c) (hnc : st 9 0 ≤ 512) (hn4 : ∀ j, st 4 j < 2147483648) : vx_Met l yL_has wsL_has ({ frames := 10, cells := 4, slots := 24, locals := 180 }) (va_Pc [.ref x, .int v, .int t, .ref o] (fun U => U.heap.size = sz ∧ tw_Z (fun q => sz ≤ q) U ∧ va_Nc "java/lang/IllegalStateException" "java/lang/IllegalArgumentException" U ∧ tw_OU D cI cJ cL x ad st o fo U)) (va_Qi (tw_wr (fun rr u => ∃ a b, a < 4 ∧ v = nI a ∧ b < 4 ∧ t = nI b ∧ rr = nI (st (24 + a) b) ∧ u = st) (fun u => u = 1 ∧ (tw_nc v ∨ tw_nc t)) st fo) (tw_OT D cI cJ cL x ad o (va_A (tw_xo cI cJ cL x ad st o fo) sz)) (va_A (tw_xo cI cJ cL x ad st o fo) sz)) tw_XN 4 24 (va_A (tw_xo cI cJ cL x ad st o fo) sz) := by
  refine vx_ofWH (cc := cL_has) (maxL := 5) (ret := some .int) (hh := [(0, 10, 13, 13)]) (by decide) rfl ?_
  intro p e s m args below meth cd s₁ B hml hv
  obtain ⟨rfl, hsz, Z, hnc9, hU⟩ := hv
  subst hsz
  have S : CallFix p m cd cL_has 5 s ([.ref x, .int v, .int t, .ref o] : List Value).toArray tw_wall RL := ⟨B.exec, B.bytes, hml, findClass_of_methodNamed B.named, fun w h => atoms_spec (ws := wsL_has) B.pre w (List.mem_cons_of_mem _ h)⟩
  have htab : cd.exceptionTable.toList = tableOf [(0, 10, 13, 13)] := vx_table (x := yL_has) B (atoms_spec (ws := wsL_has) B.pre _ List.mem_cons_self)
  have hr := B.returns
  have hlk := B.notSynchronized
  have z : va_S (fun q => s.heap.size ≤ q) s.heap s.heap [] := va_S.rf
  obtain ⟨hP, hK, hD0⟩ := hU
  have hD := hD0.self (sz := s.heap.size)
  have hA : ∀ q : Nat, s.heap.size ≤ q → va_A (tw_xo cI cJ cL x ad st o fo) s.heap.size q := fun q h => Or.inr h
  generalize va_A (tw_xo cI cJ cL x ad st o fo) s.heap.size = A at hD hA ⊢
  have hS : va_S A s.heap s.heap [] := va_S.rf
  have hl := lv_entry ([.ref x, .int v, .int t, .ref o]) (n := 5) (Nat.le_of_ble_eq_true rfl)
  rw [lg_entry_eq]
  generalize (lg_sl ([.ref x, .int v, .int t, .ref o]) ++ List.replicate (5 - (lg_sl ([.ref x, .int v, .int t, .ref o])).length) Slot.unset).toArray = ls at hl ⊢
  have hl : lv_has ls 5 [(0, .ref x), (1, .int v), (2, .int t), (3, .ref o)] := hl
  refine lv_aload_n S.1 S.2.1 dL_has_0 rfl (lv_at hl 3 rfl) ?_
  refine lv_iconst (v := nI 0) S.1 S.2.1 dL_has_1 (by decide) ?_
  refine lv_aload_n S.1 S.2.1 dL_has_2 rfl (lv_at hl 0 rfl) ?_
  refine lv_iload_n S.1 S.2.1 dL_has_3 rfl (lv_at hl 1 rfl) ?_
  refine lv_iload_n S.1 S.2.1 dL_has_4 rfl (lv_at hl 2 rfl) ?_
  refine tw_lci (n := 2) S hK hP hD hS hA Z z (kX0_has l D cI cJ x ad st _ hlt hci hcc hnc hn4) (tw_gV wl_L_38 wn_X0_has ws_X0_has wi_X0 wy_X0_has) rfl rfl (by decide +kernel) ⟨Nat.le_of_ble_eq_true rfl, Nat.le_of_ble_eq_true rfl⟩ rfl hl.1 rfl (Nat.le_of_ble_eq_true rfl) dL_has_5 ⟨Nat.le_of_ble_eq_true rfl, Nat.le_of_ble_eq_true rfl⟩ (fun u q9 ce H locs hpx hce hcv hcl hP hS => ?_) (fun rr u H locs hok hP hD hS => ?_)
  · have hu12 : u = 1 ∨ u = 2 := Or.inl hpx.1
    sorry
  · refine lv_i2l (v := rr.toInt64) S.1 S.2.1 dL_has_8 rfl ?_
    refine va_last S.1 S.2.1 hK hP hD hS 0 2 rfl rfl (vp_in_nI (n := 0) (N := 1) (by decide) (by decide)) dL_has_9 (fun H locs hP hD hS => ?_)
    have hP : va_P D twCl (tw_xo cI cJ cL x ad u o (vp_updL fo (nI 0).toNatClampNeg rr.toInt64)) H := hP
    have hD : va_D A (tw_xo cI cJ cL x ad u o (vp_updL fo (nI 0).toNatClampNeg rr.toInt64)) := hD
    refine lv_goto (tgt := 17) S.1 S.2.1 dL_has_10 (by decide) ?_
    refine lv_iconst (v := nI 0) S.1 S.2.1 dL_has_17 (by decide) ?_
    refine vx_ret ?_
    exact W.iret S.1 S.2.1 hr (fun t ht hW => ⟨⟨_, (u, vp_updL fo (nI 0).toNatClampNeg rr.toInt64), rfl, Or.inl ⟨rfl, rr, hok, by show vp_updL fo (nI 0).toNatClampNeg rr.toInt64 0 = rr.toInt64; rw [nI_clamp (by decide)]; exact pk_uLs⟩, by rw [ht]; exact hP, va_K.moved hW.alike hK, hD⟩, hS.F ht⟩) hS.2.2 dL_has_18 hlk
set_option maxHeartbeats 4000000 in
set_option maxRecDepth 100000 in
/-- the law's bring -/
theorem kL_bring (l : Launch) (D : va_G) (cI cJ : ClassId) (x : Nat) (ad : Nat → Nat) (st : Nat → Nat → Nat) (sz : Nat) (hlt : l.stackTraces = false) {v t b : Int32} {md : Nat → Nat} (hci : tw_ci md st) (hcc : ∀ c, c < 4 → st (24 + c) c = md c) (hnc : st 9 0 ≤ 512) (hn4 : ∀ j, st 4 j < 2147483648) : vx_Met l yL_bring wsL_bring ({ frames := 10, cells := 4, slots := 24, locals := 180 }) (va_Pc [.ref x, .int v, .int t, .int b] (fun U => U.heap.size = sz ∧ tw_Z (fun q => sz ≤ q) U ∧ va_Nc "java/lang/IllegalStateException" "java/lang/IllegalArgumentException" U ∧ tw_XU D cI cJ x ad st U)) (va_Qi (fun r u => (r = nI 0 ∧ tw_okBr st v t b u) ∨ ∃ c, r = nI c ∧ (c = 1 ∨ c = 2) ∧ tw_pxBr st v t b c ∧ u = st) (tw_XT D cI cJ x ad (va_A (tw_x cI cJ x ad st) sz)) (va_A (tw_x cI cJ x ad st) sz)) tw_XN 4 24 (va_A (tw_x cI cJ x ad st) sz) := by
  refine vx_ofWH (cc := cL_bring) (maxL := 5) (ret := some .int) (hh := [(0, 7, 10, 13), (0, 7, 14, 15)]) (by decide) rfl ?_
  intro p e s m args below meth cd s₁ B hml hv
  obtain ⟨rfl, hsz, Z, hnc9, hU⟩ := hv
  subst hsz
  have S : CallFix p m cd cL_bring 5 s ([.ref x, .int v, .int t, .int b] : List Value).toArray tw_wall RL := ⟨B.exec, B.bytes, hml, findClass_of_methodNamed B.named, fun w h => atoms_spec (ws := wsL_bring) B.pre w (List.mem_cons_of_mem _ h)⟩
  have htab : cd.exceptionTable.toList = tableOf [(0, 7, 10, 13), (0, 7, 14, 15)] := vx_table (x := yL_bring) B (atoms_spec (ws := wsL_bring) B.pre _ List.mem_cons_self)
  have hr := B.returns
  have hlk := B.notSynchronized
  have z : va_S (fun q => s.heap.size ≤ q) s.heap s.heap [] := va_S.rf
  have w := tw_X0 hU
  have hA : ∀ q : Nat, s.heap.size ≤ q → va_A (tw_x cI cJ x ad st) s.heap.size q := fun q h => Or.inr h
  generalize va_A (tw_x cI cJ x ad st) s.heap.size = A at w hA ⊢
  have hl := lv_entry ([.ref x, .int v, .int t, .int b]) (n := 5) (Nat.le_of_ble_eq_true rfl)
  rw [lg_entry_eq]
  generalize (lg_sl ([.ref x, .int v, .int t, .int b]) ++ List.replicate (5 - (lg_sl ([.ref x, .int v, .int t, .int b])).length) Slot.unset).toArray = ls at hl ⊢
  have hl : lv_has ls 5 [(0, .ref x), (1, .int v), (2, .int t), (3, .int b)] := hl
  refine lv_aload_n S.1 S.2.1 dL_bring_0 rfl (lv_at hl 0 rfl) ?_
  refine lv_iload_n S.1 S.2.1 dL_bring_1 rfl (lv_at hl 1 rfl) ?_
  refine lv_iload_n S.1 S.2.1 dL_bring_2 rfl (lv_at hl 2 rfl) ?_
  refine lv_iload_n S.1 S.2.1 dL_bring_3 rfl (lv_at hl 3 rfl) ?_
  refine tw_lcv (n := 3) S w hA Z z (kX0_bring l D cI cJ x ad st _ hlt hci hcc hnc hn4) (tw_gV wl_L_21 wn_X0_bring ws_X0_bring wi_X0 wy_X0_bring) rfl rfl (by decide +kernel) ⟨Nat.le_of_ble_eq_true rfl, Nat.le_of_ble_eq_true rfl⟩ rfl hl.1 rfl (Nat.le_of_ble_eq_true rfl) dL_bring_4 ⟨Nat.le_of_ble_eq_true rfl, Nat.le_of_ble_eq_true rfl⟩ (fun u q9 ce H locs hpx hce hcv hcl w => ?_) (fun u H locs hok w => ?_)
  · have hu12 : u = 1 ∨ u = 2 := hpx.elim (fun g => Or.inl g.1) (fun g => Or.inr g.1)
    sorry
  · refine lv_goto (tgt := 18) S.1 S.2.1 dL_bring_7 (by decide) ?_
    refine lv_iconst (v := nI 0) S.1 S.2.1 dL_bring_18 (by decide) ?_
    refine vx_ret ?_
    exact W.iret S.1 S.2.1 hr (fun t ht hW => ⟨⟨_, u, rfl, Or.inl ⟨rfl, hok⟩, by rw [ht]; exact w.2.1, va_K.moved hW.alike w.1, w.2.2.1⟩, w.2.2.2.F ht⟩) w.2.2.2.2.2 dL_bring_19 hlk
end
section
/-! The law's comparisons, call by call: what the class did and what the reference did agree. -/
def tw_inv (j : Nat) (s t : Nat → Nat → Nat) : Prop := ∃ md g T, tw_rel md s t g T ∧ tw_cache s t T ∧ s 9 0 ≤ j ∧ (∀ y, s 4 y < 2147483648) ∧ (∀ y, t 0 y < 1000000) ∧ (∀ y, t 8 y < 2147483648) ∧ ∀ y, t 10 y < 2147483648
def tw_agr (r r' : Int32) (l0 : Int64) (c : Nat) : Prop := nI c = r ∧ (r = nI 0 → l0 = r'.toInt64)
theorem tw_nnc {a : Nat} (h : a < 4) : ¬ tw_nc (nI a) := fun q => q.elim (fun g => nI_pos (by omega) g) (fun g => by have := (tw_lt (a := 3) (b := a) (by omega) (by omega)).mp g; omega)
theorem tw_a4 {a b : Nat} (ha : a < 4) (hb : b < 4) (h : nI a = nI b) : a = b := (tw_eq (by omega) (by omega)).mp h
theorem tw_n10 : ¬ nI 1 = nI 0 := by decide
theorem tw_n20 : ¬ nI 2 = nI 0 := by decide
section TWI
variable {j : Nat} {s t : Nat → Nat → Nat} {md g T : Nat → Nat}
theorem tw_inv_thr {c : Nat} (h : tw_rel md s t g T) (hc : tw_cache s t T) (hn : s 9 0 ≤ j) (b4 : ∀ y, s 4 y < 2147483648) (b0 : ∀ y, t 0 y < 1000000) (b8 : ∀ y, t 8 y < 2147483648) (b10 : ∀ y, t 10 y < 2147483648) : tw_inv (j + 1) s (tw_up t 13 0 c) :=
  ⟨md, g, T, (tw_rel_thr h hc).1, (tw_rel_thr (c := c) h hc).2, by omega, b4, b0, b8, b10⟩
theorem tw_inv_lkr {a c : Nat} {u : Nat → Nat → Nat} (h : tw_rel md s t g T) (ha : a < 4) (hu : tw_lkr t u a T (tw_f s a) c) (hn : s 9 0 ≤ j) (b4 : ∀ y, s 4 y < 2147483648) (b0 : ∀ y, t 0 y < 1000000) (b8 : ∀ y, t 8 y < 2147483648) (b10 : ∀ y, t 10 y < 2147483648) : tw_inv (j + 1) s u := by
  have e : ∀ k y, k < 11 → u k y = t k y := fun k y hk => hu.2.2.2.2 k y (by omega) (by omega) (by omega)
  exact ⟨md, g, T, (tw_rel_lkr h ha hu).1, (tw_rel_lkr h ha hu).2, by omega, b4, fun y => by rw [e 0 y (by omega)]; exact b0 y, fun y => by rw [e 8 y (by omega)]; exact b8 y, fun y => by rw [e 10 y (by omega)]; exact b10 y⟩
theorem tw_law_length {v r r' : Int32} {fo : Nat → Int64} {u : (Nat → Nat → Nat) × (Nat → Int64)} {u' : Nat → Nat → Nat} (h : tw_rel md s t g T) (hc : tw_cache s t T) (hn : s 9 0 ≤ j) (hj : j < 512) (b4 : ∀ y, s 4 y < 2147483648) (b0 : ∀ y, t 0 y < 1000000) (b8 : ∀ y, t 8 y < 2147483648) (b10 : ∀ y, t 10 y < 2147483648)
    (h1 : tw_wr (fun rr u => ∃ a, a < 4 ∧ v = nI a ∧ rr = nI (s 8 a) ∧ u = s) (fun u => u = 1 ∧ tw_nc v) s fo r u) (h2 : (tw_nc v ∧ u' = tw_up t 13 0 1) ∨ ∃ a, a < 4 ∧ v = nI a ∧ r' = nI (tw_cn (tw_f s a) (t 13 1 - 1)) ∧ tw_lkr t u' a T (tw_f s a) 0) : tw_agr r r' (u.2 0) (u' 13 0) ∧ tw_inv (j + 1) u.1 u' := by
  have e1 := h.2.2.1.1
  rcases h1 with ⟨rfl, rr, ⟨a, ha, rfl, rfl, hu⟩, ho⟩ | ⟨c, rfl, hc12, ⟨rfl, hnc⟩, rfl⟩
  · rcases h2 with ⟨q, -⟩ | ⟨a', ha', e, rfl, hl⟩
    · exact absurd q (tw_nnc ha)
    · have := tw_a4 ha ha' e
      subst this
      rw [hu]
      refine ⟨⟨by rw [hl.1], fun _ => ?_⟩, tw_inv_lkr h ha hl hn b4 b0 b8 b10⟩
      rw [ho, e1, show s 9 1 + 1 - 1 = s 9 1 by omega, h.1.2.2.1.2.2 a ha]
      rfl
  · rcases h2 with ⟨-, rfl⟩ | ⟨a', ha', rfl, -⟩
    · exact ⟨⟨by rw [tw_up_e], fun q => absurd q tw_n10⟩, tw_inv_thr h hc hn b4 b0 b8 b10⟩
    · exact absurd hnc (tw_nnc ha')
theorem tw_law_pl {v i r r' : Int32} {fo : Nat → Int64} {u : (Nat → Nat → Nat) × (Nat → Int64)} {u' : Nat → Nat → Nat} {g1 g2 : Nat → Nat} (h : tw_rel md s t g T) (hc : tw_cache s t T) (hn : s 9 0 ≤ j) (hj : j < 512) (b4 : ∀ y, s 4 y < 2147483648) (b0 : ∀ y, t 0 y < 1000000) (b8 : ∀ y, t 8 y < 2147483648) (b10 : ∀ y, t 10 y < 2147483648) (he : ∀ p, p < s 9 1 → g1 p = g2 p)
    (h1 : tw_wr (fun rr u => ∃ a, a < 4 ∧ v = nI a ∧ ¬ i < 0 ∧ tw_pl s a i rr g1 ∧ u = s) (fun u => u = 1 ∧ (tw_nc v ∨ i < 0)) s fo r u) (h2 : ((tw_nc v ∨ i < 0) ∧ u' = tw_up t 13 0 1) ∨ ∃ a, a < 4 ∧ v = nI a ∧ ¬ i < 0 ∧ tw_lkr t u' a T (tw_f s a) 0 ∧ tw_plM (t 13 1) (tw_f s a) i r' g2) : tw_agr r r' (u.2 0) (u' 13 0) ∧ tw_inv (j + 1) u.1 u' := by
  have e1 := h.2.2.1.1
  have hb := (tw_bd_of h.1 (by omega)).1
  rcases h1 with ⟨rfl, rr, ⟨a, ha, rfl, hi, hp, hu⟩, ho⟩ | ⟨c, rfl, hc12, ⟨rfl, hnc⟩, rfl⟩
  · rcases h2 with ⟨q, -⟩ | ⟨a', ha', e, -, hl, hp'⟩
    · exact absurd q (fun q => q.elim (tw_nnc ha) hi)
    · have := tw_a4 ha ha' e
      subst this
      rw [hu]
      refine ⟨⟨by rw [hl.1], fun _ => ?_⟩, tw_inv_lkr h ha hl hn b4 b0 b8 b10⟩
      rw [ho, tw_pl_eq e1 hb hp hp' he]
  · rcases h2 with ⟨-, rfl⟩ | ⟨a', ha', rfl, hi', -⟩
    · exact ⟨⟨by rw [tw_up_e], fun q => absurd q tw_n10⟩, tw_inv_thr h hc hn b4 b0 b8 b10⟩
    · exact absurd hnc (fun q => q.elim (tw_nnc ha') hi')
theorem tw_law_has {v i r r' : Int32} {fo : Nat → Int64} {u : (Nat → Nat → Nat) × (Nat → Int64)} {u' : Nat → Nat → Nat} (h : tw_rel md s t g T) (hc : tw_cache s t T) (hn : s 9 0 ≤ j) (b4 : ∀ y, s 4 y < 2147483648) (b0 : ∀ y, t 0 y < 1000000) (b8 : ∀ y, t 8 y < 2147483648) (b10 : ∀ y, t 10 y < 2147483648)
    (h1 : tw_wr (fun rr u => ∃ a b, a < 4 ∧ v = nI a ∧ b < 4 ∧ i = nI b ∧ rr = nI (s (24 + a) b) ∧ u = s) (fun u => u = 1 ∧ (tw_nc v ∨ tw_nc i)) s fo r u) (h2 : ((tw_nc v ∨ tw_nc i) ∧ u' = tw_up t 13 0 1) ∨ ∃ a b, a < 4 ∧ v = nI a ∧ b < 4 ∧ i = nI b ∧ r' = nI (t 10 (4 * a + b)) ∧ u' = tw_up t 13 0 0) : tw_agr r r' (u.2 0) (u' 13 0) ∧ tw_inv (j + 1) u.1 u' := by
  rcases h1 with ⟨rfl, rr, ⟨a, b, ha, rfl, hb, rfl, rfl, hu⟩, ho⟩ | ⟨c, rfl, hc12, ⟨rfl, hnc⟩, rfl⟩
  · rcases h2 with ⟨q, -⟩ | ⟨a', b', ha', e, hb', e2, rfl, rfl⟩
    · exact absurd q (fun q => q.elim (tw_nnc ha) (tw_nnc hb))
    · have := tw_a4 ha ha' e
      subst this
      have := tw_a4 hb hb' e2
      subst this
      rw [hu]
      refine ⟨⟨by rw [tw_up_e], fun _ => ?_⟩, tw_inv_thr h hc hn b4 b0 b8 b10⟩
      rw [ho, h.2.1.2.1 a b ha hb]
  · rcases h2 with ⟨-, rfl⟩ | ⟨a', b', ha', rfl, hb', rfl, -⟩
    · exact ⟨⟨by rw [tw_up_e], fun q => absurd q tw_n10⟩, tw_inv_thr h hc hn b4 b0 b8 b10⟩
    · exact absurd hnc (fun q => q.elim (tw_nnc ha') (tw_nnc hb'))
theorem tw_law_merge {v i r r' : Int32} {fo : Nat → Int64} {u : (Nat → Nat → Nat) × (Nat → Int64)} {u' : Nat → Nat → Nat} (h : tw_rel md s t g T) (hc : tw_cache s t T) (hn : s 9 0 ≤ j) (hj : j < 512) (b4 : ∀ y, s 4 y < 2147483648) (b0 : ∀ y, t 0 y < 1000000) (b8 : ∀ y, t 8 y < 2147483648) (b10 : ∀ y, t 10 y < 2147483648)
    (h1 : tw_wr (fun rr u => ∃ a b k, a < 4 ∧ v = nI a ∧ b < 4 ∧ i = nI b ∧ rr = nI k ∧ tw_mrg md s u a b (s 9 0) k) (fun u => u = 1 ∧ (tw_nc v ∨ tw_nc i)) s fo r u) (h2 : ((tw_nc v ∨ tw_nc i) ∧ u' = tw_up t 13 0 1) ∨ ∃ a b k, a < 4 ∧ v = nI a ∧ b < 4 ∧ i = nI b ∧ r' = nI k ∧ ∃ sm, tw_mm t sm a b 4 k ∧ u' = tw_up sm 13 2 0) : tw_agr r r' (u.2 0) (u' 13 0) ∧ tw_inv (j + 1) u.1 u' := by
  rcases h1 with ⟨rfl, rr, ⟨a, b, k, ha, rfl, hb, rfl, rfl, hm⟩, ho⟩ | ⟨c, rfl, hc12, ⟨rfl, hnc⟩, rfl⟩
  · rcases h2 with ⟨q, -⟩ | ⟨a', b', k', ha', e, hb', e2, rfl, sm, hm', hu'⟩
    · exact absurd q (fun q => q.elim (tw_nnc ha) (tw_nnc hb))
    · have := tw_a4 ha ha' e
      subst this
      have := tw_a4 hb hb' e2
      subst this
      obtain ⟨x1, x2, x3⟩ := tw_rel_mg h ha hb hm hm' hu'
      have k1 := h.1.2.1.1
      have e10 := x2.2.1.2.1
      have hs : ∀ k y, k ≠ 10 → (k ≠ 13 ∨ (y ≠ 2 ∧ y ≠ 0)) → u' k y = t k y := fun k y h1 h2 => by
        rw [hu']
        have z1 : tw_up sm 13 2 0 k y = sm k y := by
          by_cases g : k = 13
          · exact tw_up_i (by omega)
          · exact tw_up_k g
        rw [z1, hm'.2.2.1 k y h1]
        by_cases g : k = 13
        · exact tw_up_i (by omega)
        · exact tw_up_k g
      refine ⟨⟨?_, fun _ => by rw [ho, x1]⟩, md, g, T, x2, x3, ?_, fun y => ?_, fun y => by rw [hs 0 y (by omega) (by omega)]; exact b0 y, fun y => by rw [hs 8 y (by omega) (by omega)]; exact b8 y, fun y => ?_⟩
      · rw [hu', tw_up_i (by omega), hm'.2.2.1 13 0 (by omega), tw_up_e]
      · rw [hm.2.1 9 0 (by omega)]; omega
      · rw [hm.2.1 4 y (by omega)]; exact b4 y
      · by_cases g : ∃ q, q < 4 ∧ y = 4 * b + q
        · obtain ⟨q, q1, rfl⟩ := g
          have := (tw_bd_of x2.1 (by rw [hm.2.1 9 0 (by omega)]; omega : u.1 9 0 ≤ 512)).2.2.2.1 b q hb q1
          rw [e10 b q hb q1]
          omega
        · rw [hu', tw_up_k (by omega), hm'.2.1 y (fun q q1 q2 => g ⟨q, q1, q2⟩)]
          exact b10 y
  · rcases h2 with ⟨-, rfl⟩ | ⟨a', b', k', ha', rfl, hb', rfl, -⟩
    · exact ⟨⟨by rw [tw_up_e], fun q => absurd q tw_n10⟩, tw_inv_thr h hc hn b4 b0 b8 b10⟩
    · exact absurd hnc (fun q => q.elim (tw_nnc ha') (tw_nnc hb'))
theorem tw_law_bring {v i w r : Int32} {u u' : Nat → Nat → Nat} (h : tw_rel md s t g T) (hc : tw_cache s t T) (hn : s 9 0 ≤ j) (hj : j < 512) (b4 : ∀ y, s 4 y < 2147483648) (b0 : ∀ y, t 0 y < 1000000) (b8 : ∀ y, t 8 y < 2147483648) (b10 : ∀ y, t 10 y < 2147483648)
    (h1 : (r = nI 0 ∧ tw_okBr s v i w u) ∨ ∃ c, r = nI c ∧ (c = 1 ∨ c = 2) ∧ tw_pxBr s v i w c ∧ u = s)
    (h2 : ((tw_nc v ∨ tw_nc w ∨ v = w ∨ ∃ a, a < 4 ∧ v = nI a ∧ (i < 0 ∨ nI (t 9 a) ≤ i)) ∧ u' = tw_up t 13 0 1) ∨ ∃ a c k, a < 4 ∧ v = nI a ∧ c < 4 ∧ w = nI c ∧ a ≠ c ∧ k < t 9 a ∧ i = nI k ∧ ((k < t 10 (4 * c + a) ∧ u' = tw_up t 13 0 0) ∨ (¬ k < t 10 (4 * c + a) ∧ ((¬ (∀ m, m < 4 → t 8 ((400 * a + k) * 4 + m) ≤ t 10 (4 * c + m)) ∧ u' = tw_up t 13 0 2) ∨ ((∀ m, m < 4 → t 8 ((400 * a + k) * 4 + m) ≤ t 10 (4 * c + m)) ∧ u' = tw_up (tw_up (tw_up t 13 0 0) 10 (4 * c + a) (k + 1)) 13 2 0))))) : nI (u' 13 0) = r ∧ tw_inv (j + 1) u u' := by
  obtain ⟨bd1, bd2, bd3, bd4, -⟩ := tw_bd_of h.1 (show s 9 0 ≤ 512 by omega)
  have r1 := h.2.1.1
  have r3 := h.2.1.2.2.1
  have hm4 : ∀ a, a < 4 → md a ≤ 400 := h.1.1.2.2.1
  -- numbers that both sides call good
  have good : ∀ {a c k a' c' k' : Nat}, a < 4 → c < 4 → k < md a → a' < 4 → c' < 4 → k' < t 9 a' → nI a = nI a' → nI c = nI c' → nI k = nI k' → a = a' ∧ c = c' ∧ k = k' := fun ha hc hk ha' hc' hk' e1 e2 e3 => by
    have q1 := tw_a4 ha ha' e1
    have q2 := tw_a4 hc hc' e2
    subst q1
    have := hm4 _ ha
    rw [r3 _ ha] at hk'
    exact ⟨rfl, q2, (tw_eq (by omega) (by omega)).mp e3⟩
  have notbad : ∀ {a c k : Nat}, a < 4 → c < 4 → a ≠ c → k < md a → ¬ (tw_nc (nI a) ∨ tw_nc (nI c) ∨ nI a = nI c ∨ ∃ a', a' < 4 ∧ nI a = nI a' ∧ (nI k < 0 ∨ nI (t 9 a') ≤ nI k)) := fun ha hc hac hk q => by
    have := hm4 _ ha
    rcases q with q | q | q | ⟨a', ha', e, q⟩
    · exact tw_nnc ha q
    · exact tw_nnc hc q
    · exact hac (tw_a4 ha hc q)
    · have e := tw_a4 ha ha' e
      subst e
      rw [r3 _ ha] at q
      rcases q with q | q
      · exact nI_pos (by omega) q
      · have := (tw_le (by omega) (by omega)).mp q
        omega
  rcases h1 with ⟨rfl, a, b, k, ha, rfl, hb, rfl, hab, hk, rfl, hcase⟩ | ⟨c, rfl, hc12, hpx, rfl⟩
  · rw [r1 a ha] at hk
    obtain ⟨q1, q2⟩ := tw_rel_brc h ha hb hk
    rcases h2 with ⟨q, -⟩ | ⟨a', b', k', ha', e1, hb', e2, -, hk', e3, hcase'⟩
    · exact absurd q (notbad ha hb hab hk)
    · obtain ⟨rfl, rfl, rfl⟩ := good ha hb hk ha' hb' hk' e1 e2 e3
      rcases hcase with ⟨x1, rfl⟩ | ⟨x1, x2, x3⟩
      · rcases hcase' with ⟨y1, rfl⟩ | ⟨y1, -⟩
        · exact ⟨by rw [tw_up_e], tw_inv_thr h hc hn b4 b0 b8 b10⟩
        · exact absurd (q1.mp x1) y1
      · rcases hcase' with ⟨y1, -⟩ | ⟨y1, ⟨y2, -⟩ | ⟨y2, y3⟩⟩
        · exact absurd (q1.mpr y1) x1
        · exact absurd (fun m hm => (q2 m hm).mp (x2 m hm)) y2
        · obtain ⟨z1, z2⟩ := tw_rel_br h ha hb hab hk x1 x2 x3 y3
          refine ⟨by rw [y3, tw_up_i (by omega), tw_up_k (by omega), tw_up_e], md, g, T, z1, z2, ?_, fun y => ?_, fun y => ?_, fun y => ?_, fun y => ?_⟩
          · rw [x3, tw_rcv_o (by omega)]; omega
          · rw [x3, tw_rcv_o (by omega)]; exact b4 y
          · rw [y3, tw_up_k (by omega), tw_up_k (by omega), tw_up_k (by omega)]; exact b0 y
          · rw [y3, tw_up_k (by omega), tw_up_k (by omega), tw_up_k (by omega)]; exact b8 y
          · rw [y3, tw_up_k (by omega)]
            by_cases gy : y = 4 * b + a
            · rw [gy, tw_up_e]; have := hm4 a ha; omega
            · rw [tw_up_i gy, tw_up_k (by omega)]; exact b10 y
  · rcases hpx with ⟨rfl, hbad⟩ | ⟨rfl, a, b, k, ha, rfl, hb, rfl, hab, hk, rfl, hno, hcan⟩
    · rcases h2 with ⟨-, rfl⟩ | ⟨a', b', k', ha', rfl, hb', rfl, hab', hk', rfl, -⟩
      · exact ⟨by rw [tw_up_e], tw_inv_thr h hc hn b4 b0 b8 b10⟩
      · exfalso
        rcases hbad with q | q | q | ⟨a, ha, e, q⟩
        · exact tw_nnc ha' q
        · exact tw_nnc hb' q
        · exact hab' (tw_a4 ha' hb' q)
        · have e := tw_a4 ha' ha e
          subst e
          rw [r3 _ ha'] at hk'
          have := hm4 _ ha'
          rw [r1 _ ha', pk_sub (show 1 ≤ md a' by omega)] at q
          rcases q with q | q
          · exact nI_pos (by omega) q
          · have := (tw_lt (by omega) (by omega)).mp q
            omega
    · rw [r1 a ha] at hk
      obtain ⟨q1, q2⟩ := tw_rel_brc h ha hb hk
      rcases h2 with ⟨q, -⟩ | ⟨a', b', k', ha', e1, hb', e2, -, hk', e3, hcase'⟩
      · exact absurd q (notbad ha hb hab hk)
      · obtain ⟨rfl, rfl, rfl⟩ := good ha hb hk ha' hb' hk' e1 e2 e3
        rcases hcase' with ⟨y1, -⟩ | ⟨y1, ⟨y2, rfl⟩ | ⟨y2, -⟩⟩
        · exact absurd (q1.mpr y1) hno
        · exact ⟨by rw [tw_up_e], tw_inv_thr h hc hn b4 b0 b8 b10⟩
        · exact absurd (fun m hm => (q2 m hm).mpr (y2 m hm)) hcan
theorem tw_inv_dn {a w : Nat} {s2 u : Nat → Nat → Nat} {md' g' T' : Nat → Nat} (h : tw_rel md' u (tw_dn s2 a w) g' T') (hc : tw_cache u (tw_dn s2 a w) T') (ha : a < 4) (h9 : u 9 0 ≤ j + 1) (b4 : ∀ y, u 4 y < 2147483648) (b0 : ∀ y, s2 0 y < 1000000) (b8 : ∀ y, s2 8 y = t 8 y) (b10 : ∀ y, s2 10 y = t 10 y) (c8 : ∀ y, t 8 y < 2147483648) (c10 : ∀ y, t 10 y < 2147483648) (hk : t 10 (4 * a + a) ≤ 400) : tw_inv (j + 1) u (tw_dn s2 a w) := by
  refine ⟨md', g', T', h, hc, h9, b4, fun y => by rw [tw_dn_o (by omega)]; exact b0 y, fun y => ?_, fun y => ?_⟩
  · have e : y = (400 * 0 + y / 4) * 4 + y % 4 := by omega
    rw [e, tw_dn_8 (by omega), b10, b8]
    split
    · exact c10 _
    · exact c8 _
  · rw [tw_dn_10, b10, b10]
    split
    · omega
    · exact c10 y
theorem tw_law_remove {v i r r' : Int32} {fo : Nat → Int64} {u : (Nat → Nat → Nat) × (Nat → Int64)} {u' : Nat → Nat → Nat} (h : tw_rel md s t g T) (hc : tw_cache s t T) (hn : s 9 0 ≤ j) (hj : j < 512) (b4 : ∀ y, s 4 y < 2147483648) (b0 : ∀ y, t 0 y < 1000000) (b8 : ∀ y, t 8 y < 2147483648) (b10 : ∀ y, t 10 y < 2147483648)
    (h1 : tw_wr (fun rr u => tw_okRem s v i rr u) (tw_pxRem s v i) s fo r u)
    (h2 : (tw_nc v ∧ u' = tw_up t 13 0 1) ∨ ∃ a, a < 4 ∧ v = nI a ∧ (((∀ p, p < t 13 1 - 1 → tw_f s a p = true → i ≠ nI (tw_cn (tw_f s a) p)) ∧ tw_lkr t u' a T (tw_f s a) 1) ∨ ∃ p, p < t 13 1 - 1 ∧ tw_f s a p = true ∧ i = nI (tw_cn (tw_f s a) p) ∧ ((t 9 a = 400 ∧ tw_lkr t u' a T (tw_f s a) 2) ∨ (t 9 a ≠ 400 ∧ r' = nI (t 9 a) ∧ ∃ s1, tw_lkr t s1 a T (tw_f s a) 0 ∧ u' = tw_dn s1 a (2 * T (p + 1) + 1))))) : tw_agr r r' (u.2 0) (u' 13 0) ∧ tw_inv (j + 1) u.1 u' := by
  have e1 := h.2.2.1.1
  have r1 := h.2.1.1
  have r2 := h.2.1.2.1
  have r3 := h.2.1.2.2.1
  have hm4 : ∀ a, a < 4 → md a ≤ 400 := h.1.1.2.2.1
  have bd := tw_bd_of h.1 (show s 9 0 ≤ 512 by omega)
  rw [e1, show s 9 1 + 1 - 1 = s 9 1 by omega] at h2
  rcases h1 with ⟨rfl, rr, ⟨a, p, ha, rfl, hp, hf, rfl, hk1, hk2, rfl, hu⟩, ho⟩ | ⟨c, rfl, hc12, hpx, rfl⟩
  · rcases h2 with ⟨q, -⟩ | ⟨a', ha', e, hcase⟩
    · exact absurd q (tw_nnc ha)
    · have := tw_a4 ha ha' e
      subst this
      rcases hcase with ⟨q, -⟩ | ⟨p', p1, p2, p3, hcase⟩
      · exact absurd rfl (q p hp hf)
      · have c1 := tw_cn_le (tw_f s a) p
        have c2 := tw_cn_le (tw_f s a) p'
        have hb1 := bd.1
        have hpp := tw_cn_inj hf p2 ((tw_eq (by omega) (by omega)).mp p3)
        subst hpp
        rw [r3 a ha] at hcase
        rw [r1 a ha] at hk1
        rcases hcase with ⟨q, -⟩ | ⟨-, rfl, s1, q1, q2⟩
        · omega
        · obtain ⟨z1, z2⟩ := tw_rel_rm h ha hk1 hp hf q1 hu q2
          have hs : ∀ k y, k < 11 → s1 k y = t k y := fun k y hk => q1.2.2.2.2 k y (by omega) (by omega) (by omega)
          refine ⟨⟨by rw [q2, tw_dn_o (by omega), q1.1], fun _ => by rw [ho, r1 a ha]⟩, ?_⟩
          rw [q2] at z1 z2 ⊢
          refine tw_inv_dn (t := t) z1 z2 ha ?_ (fun y => ?_) (fun y => by rw [hs 0 y (by omega)]; exact b0 y) (fun y => hs 8 y (by omega)) (fun y => hs 10 y (by omega)) b8 b10 (by rw [r2 a a ha ha]; exact bd.2.2.2.1 a a ha ha)
          · rw [hu, tw_rcv_o (by omega), tw_add_9]; omega
          · rw [hu, tw_rcv_o (by omega), tw_add_o (by omega) ha]; exact b4 y
  · rcases hpx with ⟨rfl, q | ⟨a, ha, rfl, q⟩⟩ | ⟨rfl, a, p, ha, rfl, hp, hf, rfl, q⟩
    · rcases h2 with ⟨-, rfl⟩ | ⟨a', ha', rfl, -⟩
      · exact ⟨⟨by rw [tw_up_e], fun q => absurd q tw_n10⟩, tw_inv_thr h hc hn b4 b0 b8 b10⟩
      · exact absurd q (tw_nnc ha')
    · rcases h2 with ⟨q2, -⟩ | ⟨a', ha', e, hcase⟩
      · exact absurd q2 (tw_nnc ha)
      · have := tw_a4 ha ha' e
        subst this
        rcases hcase with ⟨-, hl⟩ | ⟨p', p1, p2, p3, -⟩
        · exact ⟨⟨by rw [hl.1], fun q => absurd q tw_n10⟩, tw_inv_lkr h ha hl hn b4 b0 b8 b10⟩
        · exact absurd p3 (q p' p1 p2)
    · rcases h2 with ⟨q2, -⟩ | ⟨a', ha', e, hcase⟩
      · exact absurd q2 (tw_nnc ha)
      · have := tw_a4 ha ha' e
        subst this
        rcases hcase with ⟨q2, -⟩ | ⟨p', p1, p2, p3, hcase⟩
        · exact absurd rfl (q2 p hp hf)
        · have := hm4 a ha
          rw [r1 a ha] at q
          rw [r3 a ha] at hcase
          rcases hcase with ⟨-, hl⟩ | ⟨q3, -⟩
          · exact ⟨⟨by rw [hl.1], fun q => absurd q tw_n20⟩, tw_inv_lkr h ha hl hn b4 b0 b8 b10⟩
          · omega
theorem tw_law_insert {v i b r r' : Int32} {fo : Nat → Int64} {u : (Nat → Nat → Nat) × (Nat → Int64)} {u' : Nat → Nat → Nat} (h : tw_rel md s t g T) (hc : tw_cache s t T) (hn : s 9 0 ≤ j) (hj : j < 512) (b4 : ∀ y, s 4 y < 2147483648) (b0 : ∀ y, t 0 y < 1000000) (b8 : ∀ y, t 8 y < 2147483648) (b10 : ∀ y, t 10 y < 2147483648)
    (h1 : tw_wr (fun rr u => tw_okIns s v i b rr u) (tw_pxIns s v i b) s fo r u)
    (h2 : ((tw_nc v ∨ ∃ a, a < 4 ∧ v = nI a ∧ (b < 0 ∨ nI 255 < b)) ∧ u' = tw_up t 13 0 1) ∨ ∃ a d, a < 4 ∧ v = nI a ∧ d ≤ 255 ∧ b = nI d ∧ (((i < 0 ∨ nI (tw_cn (tw_f s a) (t 13 1 - 1)) < i) ∧ tw_lkr t u' a T (tw_f s a) 1) ∨ ∃ k, k ≤ tw_cn (tw_f s a) (t 13 1 - 1) ∧ i = nI k ∧ ((t 9 a = 400 ∧ tw_lkr t u' a T (tw_f s a) 2) ∨ (t 9 a ≠ 400 ∧ r' = nI (t 9 a) ∧ tw_insM t u' a k d T (tw_f s a))))) : tw_agr r r' (u.2 0) (u' 13 0) ∧ tw_inv (j + 1) u.1 u' := by
  have e1 := h.2.2.1.1
  have r1 := h.2.1.1
  have r2 := h.2.1.2.1
  have r3 := h.2.1.2.2.1
  have hm4 : ∀ a, a < 4 → md a ≤ 400 := h.1.1.2.2.1
  have bd := tw_bd_of h.1 (show s 9 0 ≤ 512 by omega)
  have h8 : ∀ a, a < 4 → s 8 a = tw_cn (tw_f s a) (s 9 1) := h.1.2.2.1.2.2
  have hle : ∀ a, a < 4 → s 8 a ≤ 512 ∧ s 7 a ≤ 512 := bd.2.2.2.2.1
  rw [e1, show s 9 1 + 1 - 1 = s 9 1 by omega] at h2
  have d255 : ∀ {d : Nat}, d ≤ 255 → ¬ (nI d < 0 ∨ nI 255 < nI d) := fun hd q => q.elim (nI_pos (by omega)) (fun q => by have := (tw_lt (by omega) (by omega)).mp q; omega)
  rcases h1 with ⟨rfl, rr, ⟨a, k, d, bh, q, ha, rfl, hk, rfl, hd, rfl, hk1, hk2, rfl, hbh, g1, g2, g3, g4, hu⟩, ho⟩ | ⟨c, rfl, hc12, hpx, rfl⟩
  · have hl8 := (hle a ha).1
    rcases h2 with ⟨q2 | ⟨a', ha', -, q2⟩, -⟩ | ⟨a', d', ha', e, hd', e2, hcase⟩
    · exact absurd q2 (tw_nnc ha)
    · exact absurd q2 (d255 hd)
    · have := tw_a4 ha ha' e
      subst this
      have := (tw_eq (a := d) (b := d') (by omega) (by omega)).mp e2
      subst this
      rw [← h8 a ha] at hcase
      rcases hcase with ⟨q2 | q2, -⟩ | ⟨k', hk', e3, hcase⟩
      · exact absurd q2 (nI_pos (by omega))
      · have := (tw_lt (by omega) (by omega)).mp q2
        omega
      · have := (tw_eq (a := k) (b := k') (by omega) (by omega)).mp e3
        subst this
        rw [r3 a ha] at hcase
        rw [r1 a ha] at hk1
        rcases hcase with ⟨q2, -⟩ | ⟨-, rfl, hM⟩
        · omega
        · obtain ⟨z1, z2⟩ := tw_rel_ins h ha hk1 hbh g1 g2 g3 g4 hu hM
          have hM2 := hM
          obtain ⟨mo, b', q', s2, hmo, hbm, m1, m2, m3, m4, e131, ec, ez0, ez1, ez2, ez3, e6o, e6L, e4z, htr', eo, e130, hu'⟩ := hM
          have hmo' := tw_rel_mo h ha hmo
          refine ⟨⟨by rw [hu', tw_dn_o (by omega), e130], fun _ => by rw [ho, r1 a ha]⟩, ?_⟩
          rw [hu'] at z1 z2 ⊢
          refine tw_inv_dn (t := t) z1 z2 ha ?_ (fun y => ?_) (fun y => ?_) (fun y => eo 8 y (by omega) (by omega)) (fun y => eo 10 y (by omega) (by omega)) b8 b10 (by rw [r2 a a ha ha]; exact bd.2.2.2.1 a a ha ha)
          · rw [hu, tw_rcv_o (by omega), tw_wv_o (by omega) (by omega), tw_new_o (by omega) (by omega), tw_add_9]; omega
          · rw [hu, tw_rcv_o (by omega), tw_wv_o (by omega) (by omega), tw_new_4 ha]
            split
            · have := (hle a ha).2
              omega
            · exact b4 y
          · by_cases gy : y = t 13 1
            · rw [gy, ez0, hmo']; have := (hle a ha).2; omega
            · rw [ec 0 y (by omega) gy]; exact b0 y
  · rcases hpx with ⟨rfl, q | ⟨a, ha, rfl, q⟩⟩ | ⟨rfl, a, k, d, ha, rfl, hk, rfl, hd, rfl, q⟩
    · rcases h2 with ⟨-, rfl⟩ | ⟨a', d', ha', rfl, -⟩
      · exact ⟨⟨by rw [tw_up_e], fun q => absurd q tw_n10⟩, tw_inv_thr h hc hn b4 b0 b8 b10⟩
      · exact absurd q (tw_nnc ha')
    · rcases h2 with ⟨-, rfl⟩ | ⟨a', d', ha', e, hd', rfl, hcase⟩
      · exact ⟨⟨by rw [tw_up_e], fun q => absurd q tw_n10⟩, tw_inv_thr h hc hn b4 b0 b8 b10⟩
      · have := tw_a4 ha ha' e
        subst this
        have hl8 := (hle a ha).1
        rw [← h8 a ha] at hcase
        rcases hcase with ⟨-, hl⟩ | ⟨k', hk', rfl, -⟩
        · exact ⟨⟨by rw [hl.1], fun q => absurd q tw_n10⟩, tw_inv_lkr h ha hl hn b4 b0 b8 b10⟩
        · exfalso
          rcases q with q | q | q | q
          · exact nI_pos (by omega) q
          · have := (tw_lt (by omega) (by omega)).mp q
            omega
          · exact d255 hd' (Or.inl q)
          · exact d255 hd' (Or.inr q)
    · have hl8 := (hle a ha).1
      rcases h2 with ⟨q2 | ⟨a', ha', -, q2⟩, -⟩ | ⟨a', d', ha', e, hd', e2, hcase⟩
      · exact absurd q2 (tw_nnc ha)
      · exact absurd q2 (d255 hd)
      · have := tw_a4 ha ha' e
        subst this
        rw [← h8 a ha] at hcase
        rcases hcase with ⟨q2 | q2, -⟩ | ⟨k', hk', e3, hcase⟩
        · exact absurd q2 (nI_pos (by omega))
        · have := (tw_lt (by omega) (by omega)).mp q2
          omega
        · have := hm4 a ha
          rw [r1 a ha] at q
          rw [r3 a ha] at hcase
          rcases hcase with ⟨-, hl⟩ | ⟨q3, -⟩
          · exact ⟨⟨by rw [hl.1], fun q => absurd q tw_n20⟩, tw_inv_lkr h ha hl hn b4 b0 b8 b10⟩
          · omega
end TWI
end
