def R_law : String := "LetterWeaveLaw"
def lw_P (b : Addr) (xs : List Int32) (args : Array Value) (s : State) : Prop := args = #[.ref b] ∧ s.IntsAt b xs ∧ xs.length ≤ 2048 ∧ (Jvm.Cond.and given_1 narrow_1).before args s = true
def lw_Q (_ : Array Value) (s : State) (o : Outcome) (t : State) : Prop := o = .returned (some (.int 1)) ∧ Framed s o t [] 601024 7293034
def lw_Z (below : List Frame) (a : Array Value) (s : State) : State → Prop := fun t => ∃ o, t.status = .running ∧ Ended t below o ∧ lw_Q a s o t
/-- the law's own end, with 1 on the stack, nothing written that was there before, its room as the claim has it -/
theorem lw_ret {p : Program} {l : Launch} {e : Env} {s : State} {m : MethodId} {below : List Frame} {meth : Method} {c : Code} {b : Nat} (hx : p.tables.exec = Jvm.exec) (hb : c.code = code) (hr : meth.sig.returnType = ret) (hlocks : meth.locks = false) {pc : Nat} {H : Heap} {ls : Array Slot} (hdg : decode code pc = .ok (.ireturn, 1)) : W p l e room_1 s m #[Value.ref b] below meth c H [] 601024 7293034 (lw_Z below #[Value.ref b] s) (F0 m pc ls [.int 1]) := by
  intro T hT X
  obtain ⟨fs, hret, hrun, hended, hW, hframe⟩ := X.leave (v := some (.int 1)) (hlocks := hlocks) (fun h => by rw [hr] at h; cases h)
  have hmeth' : T.vm.method? m = some meth := X.method'
  refine ⟨T.setFrames fs, ?_, .returned (some (.int 1)), hrun, hended, rfl, ⟨_, rfl⟩, hW, hframe⟩
  jvm_step X.here [X.here.top, hx, hb, hdg, hmeth', hr, ret, narrow_b1]
  (try refine ⟨rfl, ?_⟩); (try refine ⟨rfl, ?_⟩)
  first | (intro acts; rw [hret _ acts rfl rfl rfl]) | rw [hret _ _ rfl rfl rfl]
  exact Steps.refl _
/-- what holds at the law's entry: the machine, the code, the tables' words (any of lw_tbl by 'hts w (by decide +kernel)'), the script of L ints xs at the cell b, what the Statement gives of the start (any of its parts by flat_of_before) -/
def lw_At (p : Program) (s : State) (m : MethodId) (meth : Method) (c : Code) (b L : Nat) (xs : Nat → Int32) : Prop :=
  p.tables.exec = Jvm.exec ∧ c.code = code ∧ meth.sig.returnType = ret ∧ c.maxLocals = 7 ∧ s.vm.findClass R_law = some m.cls ∧ (∀ w ∈ lw_tbl, w.before #[Value.ref b] s = true) ∧ va_X b L xs s s.heap ∧ b < s.heap.size ∧ meth.locks = false ∧ (Jvm.Cond.and given_1 narrow_1).before #[Value.ref b] s = true
/-! The law's loop. -/
theorem tw_ge {L j : Nat} (hL : L ≤ 2048) (hj : 4 * j ≤ L) (h : ¬ nI L - nI 4 < nI (4 * j)) : 4 * j + 4 ≤ L := by
  rw [Int32.lt_iff_toInt_lt, pk_sub_toInt (by omega) (by omega), nI_toInt (by omega)] at h
  omega
set_option maxHeartbeats 4000000 in
set_option maxRecDepth 100000 in
theorem tw_loop {p : Program} {l : Launch} {e : Env} {s : State} {m : MethodId} {below : List Frame} {meth : Method} {c : Code} {D : va_G} {x o y b L : Nat} {xs : Nat → Int32} {ad bd : Nat → Nat} {cI cJ cL cZ : ClassId} (S : CallFix p m c cL_law 7 s #[Value.ref b] tw_wall RL) (hr : meth.sig.returnType = ret) (hlocks : meth.locks = false) (hX : va_X b L xs s s.heap) (hbl : b < s.heap.size) (hlt : l.stackTraces = false) (Z : tw_Z (fun q => s.heap.size ≤ q) s) (hN : va_Nc "java/lang/IllegalStateException" "java/lang/IllegalArgumentException" s) (hL : L ≤ 2048) :
    ∀ (n j : Nat) (st : Nat → Nat → Nat) (fo : Nat → Int64) (mt : Nat → Nat → Nat) (H : Heap) (locs : List Loc) (ls : Array Slot) (cells slots : Nat), 4 * j ≤ L → L + 1 ≤ 4 * j + n → TWL D cI cJ cL cZ x ad st o fo y bd mt H locs s → tw_inv j st mt → lv_has ls 7 [(0, .ref b), (1, .ref x), (2, .ref y), (3, .ref o), (4, .int (nI (4 * j)))] → cells + 4 * (512 - j) ≤ 601024 → slots + 24 * (512 - j) ≤ 7293034 → W p l e room_1 s m #[Value.ref b] below meth c H locs cells slots (lw_Z below #[Value.ref b] s) (F0 m 23 ls []) := by
  have hbA : ¬ s.heap.size ≤ b := Nat.not_le.mpr hbl
  intro n
  induction n with
  | zero =>
    intro j st fo mt H locs ls cells slots h1 h2
    exact absurd h2 (by omega)
  | succ n ih =>
    intro j st fo mt H locs ls cells slots hj hn w hi hl hc1 hc2
    refine lv_iload S.1 S.2.1 dL_law_23 (lv_at hl 4 rfl) ?_
    refine lv_aload_n S.1 S.2.1 dL_law_25 rfl (lv_at hl 0 rfl) ?_
    refine va_slen S.1 S.2.1 hX hbl hbA w.2.2.2 dL_law_26 ?_
    refine lv_iconst (v := nI 4) S.1 S.2.1 dL_law_27 (by decide) ?_
    refine lv_isub S.1 S.2.1 dL_law_28 ?_
    refine lv_icmp_gt (tgt := 626) S.1 S.2.1 dL_law_29 (by decide) (fun _ => ?_) (fun g9 => ?_)
    · refine lv_iconst (v := 1) S.1 S.2.1 dL_law_626 (by decide) ?_
      refine va_forget (fun q hq => w.2.2.2.2.2 q hq) ?_
      refine W.widen (k := 601024) (n := 7293034) (by omega) (by omega) ?_
      exact lw_ret S.1 S.2.1 hr hlocks dL_law_627
    · have hjL : 4 * j + 4 ≤ L := tw_ge hL hj g9
      have nxt : ∀ (st1 : Nat → Nat → Nat) (fo1 : Nat → Int64) (mt1 : Nat → Nat → Nat) (H1 : Heap) (locs1 : List Loc) (ls1 : Array Slot), TWL D cI cJ cL cZ x ad st1 o fo1 y bd mt1 H1 locs1 s → tw_inv (j + 1) st1 mt1 → lv_has ls1 7 [(0, .ref b), (1, .ref x), (2, .ref y), (3, .ref o), (4, .int (nI (4 * j)))] → W p l e room_1 s m #[Value.ref b] below meth c H1 locs1 (cells + 4) (slots + 24) (lw_Z below #[Value.ref b] s) (F0 m 620 ls1 []) := by
        intro st1 fo1 mt1 H1 locs1 ls1 w1 hi1 hl1
        refine lv_iinc (v := nI (4 * (j + 1))) (lv' := [(4, .int (nI (4 * (j + 1)))), (0, .ref b), (1, .ref x), (2, .ref y), (3, .ref o)]) S.1 S.2.1 dL_law_620 hl1 (k := 4) rfl (nI_add (4 * j) 4) (by decide) rfl (fun ls2 hl2 => ?_)
        refine lv_goto (tgt := 23) S.1 S.2.1 dL_law_623 (by decide) ?_
        exact ih (j + 1) st1 fo1 mt1 H1 locs1 ls2 (cells + 4) (slots + 24) (by omega) (by omega) w1 hi1 (lv_sub hl2 [1, 2, 3, 4, 0] rfl) (by omega) (by omega)
      have hfc : cells + 4 ≤ room_1.cells := by show cells + 4 ≤ 601024; omega
      have hfs : slots + 24 ≤ room_1.slots := by show slots + 24 ≤ 7293034; omega
      refine lv_aload_n S.1 S.2.1 dL_law_32 rfl (lv_at hl 0 rfl) ?_
      refine lv_iload S.1 S.2.1 dL_law_33 (lv_at hl 4 rfl) ?_
      refine va_sld S.1 S.2.1 hX hbl hbA w.2.2.2 (vp_in_nI (by omega) (by omega)) dL_law_35 ?_
      refine lv_bipush (v := nI 7) S.1 S.2.1 dL_law_36 (by decide) ?_
      refine lv_iand S.1 S.2.1 dL_law_38 ?_
      obtain ⟨k, hk, ek⟩ := pk_andE (xs (nI (4 * j)).toNatClampNeg) (m := nI 7) 3 (by decide)
      rw [ek]
      rcases (show k = 0 ∨ k = 1 ∨ k = 2 ∨ k = 3 ∨ k = 4 ∨ k = 5 ∨ k = 6 ∨ k = 7 by omega) with rfl | rfl | rfl | rfl | rfl | rfl | rfl | rfl
      · refine lv_tableIn (off := 45) (tgt := 84) S.1 S.2.1 dL_law_39 (by decide) (by decide) rfl (by decide) ?_
        exact tw_case_insert S hX hbl hlt Z hN hjL hL w hi hl hfc hfs nxt
      · refine lv_tableIn (off := 125) (tgt := 164) S.1 S.2.1 dL_law_39 (by decide) (by decide) rfl (by decide) ?_
        exact tw_case_remove S hX hbl hlt Z hN hjL hL w hi hl hfc hfs nxt
      · refine lv_tableIn (off := 193) (tgt := 232) S.1 S.2.1 dL_law_39 (by decide) (by decide) rfl (by decide) ?_
        exact tw_case_bring S hX hbl hlt Z hN hjL hL w hi hl hfc hfs nxt
      · refine lv_tableIn (off := 253) (tgt := 292) S.1 S.2.1 dL_law_39 (by decide) (by decide) rfl (by decide) ?_
        exact tw_case_merge S hX hbl hlt Z hN hjL hL w hi hl hfc hfs nxt
      · refine lv_tableIn (off := 321) (tgt := 360) S.1 S.2.1 dL_law_39 (by decide) (by decide) rfl (by decide) ?_
        exact tw_case_length S hX hbl hlt Z hN hjL hL w hi hl hfc hfs nxt
      · refine lv_tableIn (off := 377) (tgt := 416) S.1 S.2.1 dL_law_39 (by decide) (by decide) rfl (by decide) ?_
        exact tw_case_letter S hX hbl hlt Z hN hjL hL w hi hl hfc hfs nxt
      · refine lv_tableIn (off := 445) (tgt := 484) S.1 S.2.1 dL_law_39 (by decide) (by decide) rfl (by decide) ?_
        exact tw_case_name S hX hbl hlt Z hN hjL hL w hi hl hfc hfs nxt
      · refine lv_tableIn (off := 513) (tgt := 552) S.1 S.2.1 dL_law_39 (by decide) (by decide) rfl (by decide) ?_
        exact tw_case_has S hX hbl hlt Z hN hjL hL w hi hl hfc hfs nxt
