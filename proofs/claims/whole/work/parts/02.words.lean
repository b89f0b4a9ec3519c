/-! names: the classes, their fields, the methods, the words -/
def RX0 : String := "LetterWeave"
def RX1 : String := "LetterWeaveModel"
def RL : String := "LetterWeaveLaw"
def TX0 : u_T := fun k => match k with
  | 0 => ("LetterWeave", "maker", "[I", true)
  | 1 => ("LetterWeave", "number", "[I", true)
  | 2 => ("LetterWeave", "taken", "[I", true)
  | 3 => ("LetterWeave", "had", "[[I", true)
  | 4 => ("LetterWeave", "changes", "I", false)
  | 5 => ("LetterWeave", "bytes", "[I", true)
  | 6 => ("LetterWeave", "names", "[I", true)
  | 7 => ("LetterWeave", "shownIn", "[I", true)
  | 8 => ("LetterWeave", "order", "[I", true)
  | 9 => ("LetterWeave", "letters", "I", false)
  | 10 => ("LetterWeave", "own", "[[I", true)
  | 11 => ("LetterWeave", "known", "[[I", true)
  | 12 => ("LetterWeave", "greatest", "[I", true)
  | _ => ("LetterWeave", "lengths", "[I", true)
def tyX0 : Nat → FieldType := fun k => match k with
  | 0 => .array .int
  | 1 => .array .int
  | 2 => .array .int
  | 3 => .array (.array .int)
  | 4 => .int
  | 5 => .array .int
  | 6 => .array .int
  | 7 => .array .int
  | 8 => .array .int
  | 9 => .int
  | 10 => .array (.array .int)
  | 11 => .array (.array .int)
  | 12 => .array .int
  | _ => .array .int
theorem nmX0 : ∀ a, a < 14 → ∀ b, b < 14 → a ≠ b → (TX0 a).2.1 ≠ (TX0 b).2.1 := by decide +kernel
theorem tyX0_ok : ∀ k, k < 14 → parseFieldDescriptor (TX0 k).2.2.1 = some (tyX0 k) := by decide +kernel
def TX1 : u_T := fun k => match k with
  | 0 => ("LetterWeaveModel", "thrown", "I", false)
  | 1 => ("LetterWeaveModel", "number", "[I", true)
  | 2 => ("LetterWeaveModel", "maker", "[I", true)
  | 3 => ("LetterWeaveModel", "change", "[I", true)
  | 4 => ("LetterWeaveModel", "value", "[I", true)
  | 5 => ("LetterWeaveModel", "first", "[I", true)
  | 6 => ("LetterWeaveModel", "sibling", "[I", true)
  | 7 => ("LetterWeaveModel", "up", "[I", true)
  | 8 => ("LetterWeaveModel", "letters", "I", false)
  | 9 => ("LetterWeaveModel", "what", "[I", true)
  | 10 => ("LetterWeaveModel", "had", "[I", true)
  | 11 => ("LetterWeaveModel", "made", "[I", true)
  | 12 => ("LetterWeaveModel", "has", "[I", true)
  | 13 => ("LetterWeaveModel", "order", "[I", true)
  | 14 => ("LetterWeaveModel", "gone", "[Z", true)
  | 15 => ("LetterWeaveModel", "orderOf", "I", false)
  | _ => ("LetterWeaveModel", "long_", "I", false)
def tyX1 : Nat → FieldType := fun k => match k with
  | 0 => .int
  | 1 => .array .int
  | 2 => .array .int
  | 3 => .array .int
  | 4 => .array .int
  | 5 => .array .int
  | 6 => .array .int
  | 7 => .array .int
  | 8 => .int
  | 9 => .array .int
  | 10 => .array .int
  | 11 => .array .int
  | 12 => .array .int
  | 13 => .array .int
  | 14 => .array .boolean
  | 15 => .int
  | _ => .int
theorem nmX1 : ∀ a, a < 17 → ∀ b, b < 17 → a ≠ b → (TX1 a).2.1 ≠ (TX1 b).2.1 := by decide +kernel
theorem tyX1_ok : ∀ k, k < 17 → parseFieldDescriptor (TX1 k).2.2.1 = some (tyX1 k) := by decide +kernel
abbrev twCl : List vw_C := [(RX0, TX0, 14), (RX1, TX1, 17)]
abbrev cX0_init : ByteArray := prog_1_method_1_code
def yX0_init : MethodName := ⟨RX0, "<init>", "()V"⟩
abbrev cL_insert : ByteArray := method_3_code
def yL_insert : MethodName := ⟨RL, "insert", "(LLetterWeave;III[J)I"⟩
abbrev cX0_insert : ByteArray := prog_1_method_2_code
def yX0_insert : MethodName := ⟨RX0, "insert", "(III)I"⟩
abbrev cX0_checkCopy : ByteArray := prog_1_method_10_code
def yX0_checkCopy : MethodName := ⟨RX0, "checkCopy", "(I)V"⟩
abbrev cX0_checkUpTo : ByteArray := prog_1_method_11_code
def yX0_checkUpTo : MethodName := ⟨RX0, "checkUpTo", "(II)V"⟩
abbrev cX0_checkRoom : ByteArray := prog_1_method_12_code
def yX0_checkRoom : MethodName := ⟨RX0, "checkRoom", "(I)V"⟩
abbrev cX0_placeOf : ByteArray := prog_1_method_14_code
def yX0_placeOf : MethodName := ⟨RX0, "placeOf", "(II)I"⟩
abbrev cX0_isShown : ByteArray := prog_1_method_15_code
def yX0_isShown : MethodName := ⟨RX0, "isShown", "(II)Z"⟩
abbrev cX0_addChange : ByteArray := prog_1_method_18_code
def yX0_addChange : MethodName := ⟨RX0, "addChange", "(II)I"⟩
abbrev cX0_weave : ByteArray := prog_1_method_19_code
def yX0_weave : MethodName := ⟨RX0, "weave", "(II)V"⟩
abbrev cX0_receive : ByteArray := prog_1_method_20_code
def yX0_receive : MethodName := ⟨RX0, "receive", "(II)V"⟩
abbrev cX0_showLetter : ByteArray := prog_1_method_21_code
def yX0_showLetter : MethodName := ⟨RX0, "showLetter", "(II)V"⟩
abbrev cX0_hideLetter : ByteArray := prog_1_method_22_code
def yX0_hideLetter : MethodName := ⟨RX0, "hideLetter", "(II)V"⟩
abbrev cL_remove : ByteArray := method_4_code
def yL_remove : MethodName := ⟨RL, "remove", "(LLetterWeave;II[J)I"⟩
abbrev cX0_remove : ByteArray := prog_1_method_3_code
def yX0_remove : MethodName := ⟨RX0, "remove", "(II)I"⟩
abbrev cL_bring : ByteArray := method_5_code
def yL_bring : MethodName := ⟨RL, "bring", "(LLetterWeave;III)I"⟩
abbrev cX0_bring : ByteArray := prog_1_method_4_code
def yX0_bring : MethodName := ⟨RX0, "bring", "(III)V"⟩
abbrev cX0_isIn : ByteArray := prog_1_method_16_code
def yX0_isIn : MethodName := ⟨RX0, "isIn", "(II)Z"⟩
abbrev cX0_canCome : ByteArray := prog_1_method_17_code
def yX0_canCome : MethodName := ⟨RX0, "canCome", "(II)Z"⟩
abbrev cL_merge : ByteArray := method_6_code
def yL_merge : MethodName := ⟨RL, "merge", "(LLetterWeave;II[J)I"⟩
abbrev cX0_merge : ByteArray := prog_1_method_5_code
def yX0_merge : MethodName := ⟨RX0, "merge", "(II)I"⟩
abbrev cL_length : ByteArray := method_7_code
def yL_length : MethodName := ⟨RL, "length", "(LLetterWeave;I[J)I"⟩
abbrev cX0_length : ByteArray := prog_1_method_6_code
def yX0_length : MethodName := ⟨RX0, "length", "(I)I"⟩
abbrev cL_letter : ByteArray := method_8_code
def yL_letter : MethodName := ⟨RL, "letter", "(LLetterWeave;II[J)I"⟩
abbrev cX0_letter : ByteArray := prog_1_method_7_code
def yX0_letter : MethodName := ⟨RX0, "letter", "(II)I"⟩
abbrev cX0_placeToRead : ByteArray := prog_1_method_13_code
def yX0_placeToRead : MethodName := ⟨RX0, "placeToRead", "(II)I"⟩
abbrev cL_name : ByteArray := method_9_code
def yL_name : MethodName := ⟨RL, "name", "(LLetterWeave;II[J)I"⟩
abbrev cX0_name : ByteArray := prog_1_method_8_code
def yX0_name : MethodName := ⟨RX0, "name", "(II)I"⟩
abbrev cL_has : ByteArray := method_10_code
def yL_has : MethodName := ⟨RL, "has", "(LLetterWeave;II[J)I"⟩
abbrev cX0_has : ByteArray := prog_1_method_9_code
def yX0_has : MethodName := ⟨RX0, "has", "(II)I"⟩
abbrev cX1_init : ByteArray := prog_3_method_1_code
def yX1_init : MethodName := ⟨RX1, "<init>", "()V"⟩
abbrev cX1_thrown : ByteArray := prog_3_method_2_code
def yX1_thrown : MethodName := ⟨RX1, "thrown", "()I"⟩
abbrev cX1_insert : ByteArray := prog_3_method_9_code
def yX1_insert : MethodName := ⟨RX1, "insert", "(III)I"⟩
abbrev cX1_isCopy : ByteArray := prog_3_method_4_code
def yX1_isCopy : MethodName := ⟨RX1, "isCopy", "(I)Z"⟩
abbrev cX1_bad : ByteArray := prog_3_method_3_code
def yX1_bad : MethodName := ⟨RX1, "bad", "(Z)Z"⟩
abbrev cX1_look : ByteArray := prog_3_method_6_code
def yX1_look : MethodName := ⟨RX1, "look", "(I)V"⟩
abbrev cX1_isIn : ByteArray := prog_3_method_5_code
def yX1_isIn : MethodName := ⟨RX1, "isIn", "(II)Z"⟩
abbrev cX1_isBefore : ByteArray := prog_3_method_7_code
def yX1_isBefore : MethodName := ⟨RX1, "isBefore", "(II)Z"⟩
abbrev cX1_done : ByteArray := prog_3_method_8_code
def yX1_done : MethodName := ⟨RX1, "done", "(II)I"⟩
abbrev cX1_remove : ByteArray := prog_3_method_10_code
def yX1_remove : MethodName := ⟨RX1, "remove", "(II)I"⟩
abbrev cX1_bring : ByteArray := prog_3_method_11_code
def yX1_bring : MethodName := ⟨RX1, "bring", "(III)V"⟩
abbrev cX1_merge : ByteArray := prog_3_method_12_code
def yX1_merge : MethodName := ⟨RX1, "merge", "(II)I"⟩
abbrev cX1_length : ByteArray := prog_3_method_13_code
def yX1_length : MethodName := ⟨RX1, "length", "(I)I"⟩
abbrev cX1_letter : ByteArray := prog_3_method_14_code
def yX1_letter : MethodName := ⟨RX1, "letter", "(II)I"⟩
abbrev cX1_name : ByteArray := prog_3_method_15_code
def yX1_name : MethodName := ⟨RX1, "name", "(II)I"⟩
abbrev cX1_has : ByteArray := prog_3_method_16_code
def yX1_has : MethodName := ⟨RX1, "has", "(II)I"⟩
abbrev cL_law : ByteArray := code
def yL_law : MethodName := ⟨RL, "law", "([I)Z"⟩
/-- all words of the tables that stay good -/
def tw_wall : List Cond := lw_tbl.filter goodWord
theorem tw_wall_in : ∀ w ∈ tw_wall, w ∈ lw_tbl := fun _ h => (List.mem_filter.mp h).1
theorem tw_m {w : Cond} (i : Nat) (h : lw_tbl[i]? = some w) (g : goodWord w = true) : w ∈ tw_wall := List.mem_filter.mpr ⟨List.mem_of_getElem? h, g⟩
set_option maxRecDepth 20000 in
theorem wi_L : Cond.initialized RL ∈ tw_wall := tw_m 17 rfl rfl
set_option maxRecDepth 20000 in
theorem wi_X0 : Cond.initialized RX0 ∈ tw_wall := tw_m 18 rfl rfl
set_option maxRecDepth 20000 in
theorem wi_X1 : Cond.initialized RX1 ∈ tw_wall := tw_m 19 rfl rfl
set_option maxRecDepth 20000 in
theorem wi_Throwable : Cond.initialized "java/lang/Throwable" ∈ tw_wall := tw_m 20 rfl rfl
set_option maxRecDepth 20000 in
theorem wi_Exception : Cond.initialized "java/lang/Exception" ∈ tw_wall := tw_m 21 rfl rfl
set_option maxRecDepth 20000 in
theorem wi_RuntimeException : Cond.initialized "java/lang/RuntimeException" ∈ tw_wall := tw_m 22 rfl rfl
set_option maxRecDepth 20000 in
theorem wi_IllegalArgumentException : Cond.initialized "java/lang/IllegalArgumentException" ∈ tw_wall := tw_m 23 rfl rfl
set_option maxRecDepth 20000 in
theorem wi_IllegalStateException : Cond.initialized "java/lang/IllegalStateException" ∈ tw_wall := tw_m 24 rfl rfl
set_option maxRecDepth 20000 in
theorem wi_System : Cond.initialized "java/lang/System" ∈ tw_wall := tw_m 25 rfl rfl
set_option maxRecDepth 20000 in
theorem wi_Math : Cond.initialized "java/lang/Math" ∈ tw_wall := tw_m 26 rfl rfl
set_option maxRecDepth 20000 in
theorem wc_L_8 : Cond.classLink RL 8 RX0 ∈ tw_wall := tw_m 27 rfl rfl
set_option maxRecDepth 20000 in
theorem wk_X0 : Cond.instantiable RX0 14 ∈ tw_wall := tw_m 28 rfl rfl
set_option maxRecDepth 20000 in
theorem wl_L_41 : Cond.methodLink RL 41 yX0_init ∈ tw_wall := tw_m 29 rfl rfl
set_option maxRecDepth 20000 in
theorem wn_X0_init : Cond.instanceMethod yX0_init ∈ tw_wall := tw_m 30 rfl rfl
set_option maxRecDepth 20000 in
theorem wy_X0_init : Cond.code yX0_init cX0_init 1 none ∈ tw_wall := tw_m 31 rfl rfl
set_option maxRecDepth 20000 in
theorem wl_X0_1 : Cond.methodLink RX0 1 objectInit ∈ tw_wall := tw_m 32 rfl rfl
set_option maxRecDepth 20000 in
theorem wn_objInit : Cond.instanceMethod objectInit ∈ tw_wall := tw_m 33 rfl rfl
set_option maxRecDepth 20000 in
theorem wy_objInit : Cond.code objectInit ⟨#[0xb1]⟩ 1 none ∈ tw_wall := tw_m 34 rfl rfl
set_option maxRecDepth 20000 in
theorem wc_X0_19 : Cond.classLink RX0 19 "[[I" ∈ tw_wall := tw_m 35 rfl rfl
set_option maxRecDepth 20000 in
theorem wf_X0_maker : Cond.fieldLink RX0 9 "LetterWeave" "maker" "[I" ∈ tw_wall := tw_m 37 rfl rfl
set_option maxRecDepth 20000 in
theorem wf_X0_number : Cond.fieldLink RX0 13 "LetterWeave" "number" "[I" ∈ tw_wall := tw_m 38 rfl rfl
set_option maxRecDepth 20000 in
theorem wf_X0_taken : Cond.fieldLink RX0 16 "LetterWeave" "taken" "[I" ∈ tw_wall := tw_m 39 rfl rfl
set_option maxRecDepth 20000 in
theorem wf_X0_had : Cond.fieldLink RX0 21 "LetterWeave" "had" "[[I" ∈ tw_wall := tw_m 40 rfl rfl
set_option maxRecDepth 20000 in
theorem wf_X0_changes : Cond.fieldLink RX0 24 "LetterWeave" "changes" "I" ∈ tw_wall := tw_m 41 rfl rfl
set_option maxRecDepth 20000 in
theorem wf_X0_bytes : Cond.fieldLink RX0 28 "LetterWeave" "bytes" "[I" ∈ tw_wall := tw_m 42 rfl rfl
set_option maxRecDepth 20000 in
theorem wf_X0_names : Cond.fieldLink RX0 31 "LetterWeave" "names" "[I" ∈ tw_wall := tw_m 43 rfl rfl
set_option maxRecDepth 20000 in
theorem wf_X0_shownIn : Cond.fieldLink RX0 34 "LetterWeave" "shownIn" "[I" ∈ tw_wall := tw_m 44 rfl rfl
set_option maxRecDepth 20000 in
theorem wf_X0_order : Cond.fieldLink RX0 37 "LetterWeave" "order" "[I" ∈ tw_wall := tw_m 45 rfl rfl
set_option maxRecDepth 20000 in
theorem wf_X0_letters : Cond.fieldLink RX0 40 "LetterWeave" "letters" "I" ∈ tw_wall := tw_m 46 rfl rfl
set_option maxRecDepth 20000 in
theorem wf_X0_own : Cond.fieldLink RX0 43 "LetterWeave" "own" "[[I" ∈ tw_wall := tw_m 47 rfl rfl
set_option maxRecDepth 20000 in
theorem wf_X0_known : Cond.fieldLink RX0 46 "LetterWeave" "known" "[[I" ∈ tw_wall := tw_m 48 rfl rfl
set_option maxRecDepth 20000 in
theorem wf_X0_greatest : Cond.fieldLink RX0 49 "LetterWeave" "greatest" "[I" ∈ tw_wall := tw_m 49 rfl rfl
set_option maxRecDepth 20000 in
theorem wf_X0_lengths : Cond.fieldLink RX0 52 "LetterWeave" "lengths" "[I" ∈ tw_wall := tw_m 50 rfl rfl
set_option maxRecDepth 20000 in
theorem wa_int : Cond.arrayClass .int ∈ tw_wall := tw_m 80 rfl rfl
set_option maxRecDepth 20000 in
theorem wl_L_45 : Cond.methodLink RL 45 yL_insert ∈ tw_wall := tw_m 81 rfl rfl
set_option maxRecDepth 20000 in
theorem wt_L_insert : Cond.static yL_insert ∈ tw_wall := tw_m 82 rfl rfl
set_option maxRecDepth 20000 in
theorem wy_L_insert : Cond.codeWith yL_insert cL_insert 6 (some .int) [(0, 12, 15, 13), (0, 12, 19, 15)] ∈ tw_wall := tw_m 83 rfl rfl
set_option maxRecDepth 20000 in
theorem wc_L_13 : Cond.classLink RL 13 "java/lang/IllegalArgumentException" ∈ tw_wall := tw_m 84 rfl rfl
set_option maxRecDepth 20000 in
theorem wc_L_15 : Cond.classLink RL 15 "java/lang/IllegalStateException" ∈ tw_wall := tw_m 85 rfl rfl
set_option maxRecDepth 20000 in
theorem wl_L_7 : Cond.methodLink RL 7 yX0_insert ∈ tw_wall := tw_m 86 rfl rfl
set_option maxRecDepth 20000 in
theorem wn_X0_insert : Cond.instanceMethod yX0_insert ∈ tw_wall := tw_m 87 rfl rfl
set_option maxRecDepth 20000 in
theorem ws_X0_insert : Cond.selects RX0 yX0_insert yX0_insert ∈ tw_wall := tw_m 88 rfl rfl
set_option maxRecDepth 20000 in
theorem wy_X0_insert : Cond.code yX0_insert cX0_insert 6 (some .int) ∈ tw_wall := tw_m 89 rfl rfl
set_option maxRecDepth 20000 in
theorem wl_X0_55 : Cond.methodLink RX0 55 yX0_checkCopy ∈ tw_wall := tw_m 90 rfl rfl
set_option maxRecDepth 20000 in
theorem wt_X0_checkCopy : Cond.static yX0_checkCopy ∈ tw_wall := tw_m 91 rfl rfl
set_option maxRecDepth 20000 in
theorem wy_X0_checkCopy : Cond.code yX0_checkCopy cX0_checkCopy 1 none ∈ tw_wall := tw_m 92 rfl rfl
set_option maxRecDepth 20000 in
theorem wl_X0_59 : Cond.methodLink RX0 59 yX0_checkUpTo ∈ tw_wall := tw_m 93 rfl rfl
set_option maxRecDepth 20000 in
theorem wt_X0_checkUpTo : Cond.static yX0_checkUpTo ∈ tw_wall := tw_m 94 rfl rfl
set_option maxRecDepth 20000 in
theorem wy_X0_checkUpTo : Cond.code yX0_checkUpTo cX0_checkUpTo 2 none ∈ tw_wall := tw_m 95 rfl rfl
set_option maxRecDepth 20000 in
theorem wc_X0_79 : Cond.classLink RX0 79 "java/lang/IllegalArgumentException" ∈ tw_wall := tw_m 96 rfl rfl
set_option maxRecDepth 20000 in
theorem wa_byte : Cond.arrayClass .byte ∈ tw_wall := tw_m 162 rfl rfl
set_option maxRecDepth 20000 in
theorem wl_X0_63 : Cond.methodLink RX0 63 yX0_checkRoom ∈ tw_wall := tw_m 163 rfl rfl
set_option maxRecDepth 20000 in
theorem wn_X0_checkRoom : Cond.instanceMethod yX0_checkRoom ∈ tw_wall := tw_m 165 rfl rfl
set_option maxRecDepth 20000 in
theorem wy_X0_checkRoom : Cond.code yX0_checkRoom cX0_checkRoom 2 none ∈ tw_wall := tw_m 166 rfl rfl
set_option maxRecDepth 20000 in
theorem wc_X0_95 : Cond.classLink RX0 95 "java/lang/IllegalStateException" ∈ tw_wall := tw_m 167 rfl rfl
set_option maxRecDepth 20000 in
theorem wl_X0_66 : Cond.methodLink RX0 66 yX0_placeOf ∈ tw_wall := tw_m 183 rfl rfl
set_option maxRecDepth 20000 in
theorem wn_X0_placeOf : Cond.instanceMethod yX0_placeOf ∈ tw_wall := tw_m 185 rfl rfl
set_option maxRecDepth 20000 in
theorem wy_X0_placeOf : Cond.code yX0_placeOf cX0_placeOf 5 (some .int) ∈ tw_wall := tw_m 186 rfl rfl
set_option maxRecDepth 20000 in
theorem wl_X0_110 : Cond.methodLink RX0 110 yX0_isShown ∈ tw_wall := tw_m 187 rfl rfl
set_option maxRecDepth 20000 in
theorem wn_X0_isShown : Cond.instanceMethod yX0_isShown ∈ tw_wall := tw_m 189 rfl rfl
set_option maxRecDepth 20000 in
theorem wy_X0_isShown : Cond.code yX0_isShown cX0_isShown 3 (some .boolean) ∈ tw_wall := tw_m 190 rfl rfl
set_option maxRecDepth 20000 in
theorem wl_X0_70 : Cond.methodLink RX0 70 yX0_addChange ∈ tw_wall := tw_m 191 rfl rfl
set_option maxRecDepth 20000 in
theorem wn_X0_addChange : Cond.instanceMethod yX0_addChange ∈ tw_wall := tw_m 193 rfl rfl
set_option maxRecDepth 20000 in
theorem wy_X0_addChange : Cond.code yX0_addChange cX0_addChange 5 (some .int) ∈ tw_wall := tw_m 194 rfl rfl
set_option maxRecDepth 20000 in
theorem wl_X0_73 : Cond.methodLink RX0 73 yX0_weave ∈ tw_wall := tw_m 195 rfl rfl
set_option maxRecDepth 20000 in
theorem wn_X0_weave : Cond.instanceMethod yX0_weave ∈ tw_wall := tw_m 197 rfl rfl
set_option maxRecDepth 20000 in
theorem wy_X0_weave : Cond.code yX0_weave cX0_weave 4 none ∈ tw_wall := tw_m 198 rfl rfl
set_option maxRecDepth 20000 in
theorem wl_X0_113 : Cond.methodLink RX0 113 arraycopyName ∈ tw_wall := tw_m 199 rfl rfl
set_option maxRecDepth 20000 in
theorem wt_arraycopy : Cond.static arraycopyName ∈ tw_wall := tw_m 200 rfl rfl
set_option maxRecDepth 20000 in
theorem wv_arraycopy : Cond.native arraycopyName ∈ tw_wall := tw_m 201 rfl rfl
set_option maxRecDepth 20000 in
theorem wl_X0_76 : Cond.methodLink RX0 76 yX0_receive ∈ tw_wall := tw_m 202 rfl rfl
set_option maxRecDepth 20000 in
theorem wn_X0_receive : Cond.instanceMethod yX0_receive ∈ tw_wall := tw_m 204 rfl rfl
set_option maxRecDepth 20000 in
theorem wy_X0_receive : Cond.code yX0_receive cX0_receive 3 none ∈ tw_wall := tw_m 205 rfl rfl
set_option maxRecDepth 20000 in
theorem wl_X0_119 : Cond.methodLink RX0 119 yX0_showLetter ∈ tw_wall := tw_m 206 rfl rfl
set_option maxRecDepth 20000 in
theorem wn_X0_showLetter : Cond.instanceMethod yX0_showLetter ∈ tw_wall := tw_m 208 rfl rfl
set_option maxRecDepth 20000 in
theorem wy_X0_showLetter : Cond.code yX0_showLetter cX0_showLetter 3 none ∈ tw_wall := tw_m 209 rfl rfl
set_option maxRecDepth 20000 in
theorem wl_X0_125 : Cond.methodLink RX0 125 Lib.Math.max.name ∈ tw_wall := tw_m 210 rfl rfl
set_option maxRecDepth 20000 in
theorem wt_max : Cond.static Lib.Math.max.name ∈ tw_wall := tw_m 211 rfl rfl
set_option maxRecDepth 20000 in
theorem wy_max : Cond.code Lib.Math.max.name Lib.Math.max.code 2 (some .int) ∈ tw_wall := tw_m 212 rfl rfl
set_option maxRecDepth 20000 in
theorem wl_X0_122 : Cond.methodLink RX0 122 yX0_hideLetter ∈ tw_wall := tw_m 213 rfl rfl
set_option maxRecDepth 20000 in
theorem wn_X0_hideLetter : Cond.instanceMethod yX0_hideLetter ∈ tw_wall := tw_m 215 rfl rfl
set_option maxRecDepth 20000 in
theorem wy_X0_hideLetter : Cond.code yX0_hideLetter cX0_hideLetter 3 none ∈ tw_wall := tw_m 216 rfl rfl
set_option maxRecDepth 20000 in
theorem wl_L_55 : Cond.methodLink RL 55 yL_remove ∈ tw_wall := tw_m 217 rfl rfl
set_option maxRecDepth 20000 in
theorem wt_L_remove : Cond.static yL_remove ∈ tw_wall := tw_m 218 rfl rfl
set_option maxRecDepth 20000 in
theorem wy_L_remove : Cond.codeWith yL_remove cL_remove 5 (some .int) [(0, 10, 13, 13), (0, 10, 17, 15)] ∈ tw_wall := tw_m 219 rfl rfl
set_option maxRecDepth 20000 in
theorem wl_L_17 : Cond.methodLink RL 17 yX0_remove ∈ tw_wall := tw_m 220 rfl rfl
set_option maxRecDepth 20000 in
theorem wn_X0_remove : Cond.instanceMethod yX0_remove ∈ tw_wall := tw_m 221 rfl rfl
set_option maxRecDepth 20000 in
theorem ws_X0_remove : Cond.selects RX0 yX0_remove yX0_remove ∈ tw_wall := tw_m 222 rfl rfl
set_option maxRecDepth 20000 in
theorem wy_X0_remove : Cond.code yX0_remove cX0_remove 5 (some .int) ∈ tw_wall := tw_m 223 rfl rfl
set_option maxRecDepth 20000 in
theorem wl_L_59 : Cond.methodLink RL 59 yL_bring ∈ tw_wall := tw_m 225 rfl rfl
set_option maxRecDepth 20000 in
theorem wt_L_bring : Cond.static yL_bring ∈ tw_wall := tw_m 226 rfl rfl
set_option maxRecDepth 20000 in
theorem wy_L_bring : Cond.codeWith yL_bring cL_bring 5 (some .int) [(0, 7, 10, 13), (0, 7, 14, 15)] ∈ tw_wall := tw_m 227 rfl rfl
set_option maxRecDepth 20000 in
theorem wl_L_21 : Cond.methodLink RL 21 yX0_bring ∈ tw_wall := tw_m 228 rfl rfl
set_option maxRecDepth 20000 in
theorem wn_X0_bring : Cond.instanceMethod yX0_bring ∈ tw_wall := tw_m 229 rfl rfl
set_option maxRecDepth 20000 in
theorem ws_X0_bring : Cond.selects RX0 yX0_bring yX0_bring ∈ tw_wall := tw_m 230 rfl rfl
set_option maxRecDepth 20000 in
theorem wy_X0_bring : Cond.code yX0_bring cX0_bring 5 none ∈ tw_wall := tw_m 231 rfl rfl
set_option maxRecDepth 20000 in
theorem wl_X0_88 : Cond.methodLink RX0 88 yX0_isIn ∈ tw_wall := tw_m 233 rfl rfl
set_option maxRecDepth 20000 in
theorem wn_X0_isIn : Cond.instanceMethod yX0_isIn ∈ tw_wall := tw_m 235 rfl rfl
set_option maxRecDepth 20000 in
theorem wy_X0_isIn : Cond.code yX0_isIn cX0_isIn 3 (some .boolean) ∈ tw_wall := tw_m 236 rfl rfl
set_option maxRecDepth 20000 in
theorem wl_X0_92 : Cond.methodLink RX0 92 yX0_canCome ∈ tw_wall := tw_m 237 rfl rfl
set_option maxRecDepth 20000 in
theorem wn_X0_canCome : Cond.instanceMethod yX0_canCome ∈ tw_wall := tw_m 239 rfl rfl
set_option maxRecDepth 20000 in
theorem wy_X0_canCome : Cond.code yX0_canCome cX0_canCome 4 (some .boolean) ∈ tw_wall := tw_m 240 rfl rfl
set_option maxRecDepth 20000 in
theorem wl_L_63 : Cond.methodLink RL 63 yL_merge ∈ tw_wall := tw_m 242 rfl rfl
set_option maxRecDepth 20000 in
theorem wt_L_merge : Cond.static yL_merge ∈ tw_wall := tw_m 243 rfl rfl
set_option maxRecDepth 20000 in
theorem wy_L_merge : Cond.codeWith yL_merge cL_merge 5 (some .int) [(0, 10, 13, 13)] ∈ tw_wall := tw_m 244 rfl rfl
set_option maxRecDepth 20000 in
theorem wl_L_25 : Cond.methodLink RL 25 yX0_merge ∈ tw_wall := tw_m 245 rfl rfl
set_option maxRecDepth 20000 in
theorem wn_X0_merge : Cond.instanceMethod yX0_merge ∈ tw_wall := tw_m 246 rfl rfl
set_option maxRecDepth 20000 in
theorem ws_X0_merge : Cond.selects RX0 yX0_merge yX0_merge ∈ tw_wall := tw_m 247 rfl rfl
set_option maxRecDepth 20000 in
theorem wy_X0_merge : Cond.code yX0_merge cX0_merge 5 (some .int) ∈ tw_wall := tw_m 248 rfl rfl
set_option maxRecDepth 20000 in
theorem wl_L_66 : Cond.methodLink RL 66 yL_length ∈ tw_wall := tw_m 249 rfl rfl
set_option maxRecDepth 20000 in
theorem wt_L_length : Cond.static yL_length ∈ tw_wall := tw_m 250 rfl rfl
set_option maxRecDepth 20000 in
theorem wy_L_length : Cond.codeWith yL_length cL_length 4 (some .int) [(0, 9, 12, 13)] ∈ tw_wall := tw_m 251 rfl rfl
set_option maxRecDepth 20000 in
theorem wl_L_28 : Cond.methodLink RL 28 yX0_length ∈ tw_wall := tw_m 252 rfl rfl
set_option maxRecDepth 20000 in
theorem wn_X0_length : Cond.instanceMethod yX0_length ∈ tw_wall := tw_m 253 rfl rfl
set_option maxRecDepth 20000 in
theorem ws_X0_length : Cond.selects RX0 yX0_length yX0_length ∈ tw_wall := tw_m 254 rfl rfl
set_option maxRecDepth 20000 in
theorem wy_X0_length : Cond.code yX0_length cX0_length 2 (some .int) ∈ tw_wall := tw_m 255 rfl rfl
set_option maxRecDepth 20000 in
theorem wl_L_70 : Cond.methodLink RL 70 yL_letter ∈ tw_wall := tw_m 256 rfl rfl
set_option maxRecDepth 20000 in
theorem wt_L_letter : Cond.static yL_letter ∈ tw_wall := tw_m 257 rfl rfl
set_option maxRecDepth 20000 in
theorem wy_L_letter : Cond.codeWith yL_letter cL_letter 5 (some .int) [(0, 10, 13, 13)] ∈ tw_wall := tw_m 258 rfl rfl
set_option maxRecDepth 20000 in
theorem wl_L_32 : Cond.methodLink RL 32 yX0_letter ∈ tw_wall := tw_m 259 rfl rfl
set_option maxRecDepth 20000 in
theorem wn_X0_letter : Cond.instanceMethod yX0_letter ∈ tw_wall := tw_m 260 rfl rfl
set_option maxRecDepth 20000 in
theorem ws_X0_letter : Cond.selects RX0 yX0_letter yX0_letter ∈ tw_wall := tw_m 261 rfl rfl
set_option maxRecDepth 20000 in
theorem wy_X0_letter : Cond.code yX0_letter cX0_letter 4 (some .int) ∈ tw_wall := tw_m 262 rfl rfl
set_option maxRecDepth 20000 in
theorem wl_X0_100 : Cond.methodLink RX0 100 yX0_placeToRead ∈ tw_wall := tw_m 263 rfl rfl
set_option maxRecDepth 20000 in
theorem wn_X0_placeToRead : Cond.instanceMethod yX0_placeToRead ∈ tw_wall := tw_m 265 rfl rfl
set_option maxRecDepth 20000 in
theorem wy_X0_placeToRead : Cond.code yX0_placeToRead cX0_placeToRead 3 (some .int) ∈ tw_wall := tw_m 266 rfl rfl
set_option maxRecDepth 20000 in
theorem wo_109 : Cond.constant RX0 109 2147483647 ∈ tw_wall := tw_m 267 rfl rfl
set_option maxRecDepth 20000 in
theorem wl_L_73 : Cond.methodLink RL 73 yL_name ∈ tw_wall := tw_m 268 rfl rfl
set_option maxRecDepth 20000 in
theorem wt_L_name : Cond.static yL_name ∈ tw_wall := tw_m 269 rfl rfl
set_option maxRecDepth 20000 in
theorem wy_L_name : Cond.codeWith yL_name cL_name 5 (some .int) [(0, 10, 13, 13)] ∈ tw_wall := tw_m 270 rfl rfl
set_option maxRecDepth 20000 in
theorem wl_L_35 : Cond.methodLink RL 35 yX0_name ∈ tw_wall := tw_m 271 rfl rfl
set_option maxRecDepth 20000 in
theorem wn_X0_name : Cond.instanceMethod yX0_name ∈ tw_wall := tw_m 272 rfl rfl
set_option maxRecDepth 20000 in
theorem ws_X0_name : Cond.selects RX0 yX0_name yX0_name ∈ tw_wall := tw_m 273 rfl rfl
set_option maxRecDepth 20000 in
theorem wy_X0_name : Cond.code yX0_name cX0_name 4 (some .int) ∈ tw_wall := tw_m 274 rfl rfl
set_option maxRecDepth 20000 in
theorem wl_L_76 : Cond.methodLink RL 76 yL_has ∈ tw_wall := tw_m 275 rfl rfl
set_option maxRecDepth 20000 in
theorem wt_L_has : Cond.static yL_has ∈ tw_wall := tw_m 276 rfl rfl
set_option maxRecDepth 20000 in
theorem wy_L_has : Cond.codeWith yL_has cL_has 5 (some .int) [(0, 10, 13, 13)] ∈ tw_wall := tw_m 277 rfl rfl
set_option maxRecDepth 20000 in
theorem wl_L_38 : Cond.methodLink RL 38 yX0_has ∈ tw_wall := tw_m 278 rfl rfl
set_option maxRecDepth 20000 in
theorem wn_X0_has : Cond.instanceMethod yX0_has ∈ tw_wall := tw_m 279 rfl rfl
set_option maxRecDepth 20000 in
theorem ws_X0_has : Cond.selects RX0 yX0_has yX0_has ∈ tw_wall := tw_m 280 rfl rfl
set_option maxRecDepth 20000 in
theorem wy_X0_has : Cond.code yX0_has cX0_has 3 (some .int) ∈ tw_wall := tw_m 281 rfl rfl
set_option maxRecDepth 20000 in
theorem wc_L_42 : Cond.classLink RL 42 RX1 ∈ tw_wall := tw_m 282 rfl rfl
set_option maxRecDepth 20000 in
theorem wk_X1 : Cond.instantiable RX1 17 ∈ tw_wall := tw_m 283 rfl rfl
set_option maxRecDepth 20000 in
theorem wl_L_44 : Cond.methodLink RL 44 yX1_init ∈ tw_wall := tw_m 284 rfl rfl
set_option maxRecDepth 20000 in
theorem wn_X1_init : Cond.instanceMethod yX1_init ∈ tw_wall := tw_m 285 rfl rfl
set_option maxRecDepth 20000 in
theorem wy_X1_init : Cond.code yX1_init cX1_init 1 none ∈ tw_wall := tw_m 286 rfl rfl
set_option maxRecDepth 20000 in
theorem wl_X1_3 : Cond.methodLink RX1 3 objectInit ∈ tw_wall := tw_m 287 rfl rfl
set_option maxRecDepth 20000 in
theorem wf_X1_thrown : Cond.fieldLink RX1 57 "LetterWeaveModel" "thrown" "I" ∈ tw_wall := tw_m 288 rfl rfl
set_option maxRecDepth 20000 in
theorem wf_X1_number : Cond.fieldLink RX1 9 "LetterWeaveModel" "number" "[I" ∈ tw_wall := tw_m 289 rfl rfl
set_option maxRecDepth 20000 in
theorem wf_X1_maker : Cond.fieldLink RX1 13 "LetterWeaveModel" "maker" "[I" ∈ tw_wall := tw_m 290 rfl rfl
set_option maxRecDepth 20000 in
theorem wf_X1_change : Cond.fieldLink RX1 16 "LetterWeaveModel" "change" "[I" ∈ tw_wall := tw_m 291 rfl rfl
set_option maxRecDepth 20000 in
theorem wf_X1_value : Cond.fieldLink RX1 19 "LetterWeaveModel" "value" "[I" ∈ tw_wall := tw_m 292 rfl rfl
set_option maxRecDepth 20000 in
theorem wf_X1_first : Cond.fieldLink RX1 22 "LetterWeaveModel" "first" "[I" ∈ tw_wall := tw_m 293 rfl rfl
set_option maxRecDepth 20000 in
theorem wf_X1_sibling : Cond.fieldLink RX1 25 "LetterWeaveModel" "sibling" "[I" ∈ tw_wall := tw_m 294 rfl rfl
set_option maxRecDepth 20000 in
theorem wf_X1_up : Cond.fieldLink RX1 28 "LetterWeaveModel" "up" "[I" ∈ tw_wall := tw_m 295 rfl rfl
set_option maxRecDepth 20000 in
theorem wf_X1_letters : Cond.fieldLink RX1 31 "LetterWeaveModel" "letters" "I" ∈ tw_wall := tw_m 296 rfl rfl
set_option maxRecDepth 20000 in
theorem wf_X1_what : Cond.fieldLink RX1 35 "LetterWeaveModel" "what" "[I" ∈ tw_wall := tw_m 297 rfl rfl
set_option maxRecDepth 20000 in
theorem wf_X1_had : Cond.fieldLink RX1 38 "LetterWeaveModel" "had" "[I" ∈ tw_wall := tw_m 298 rfl rfl
set_option maxRecDepth 20000 in
theorem wf_X1_made : Cond.fieldLink RX1 41 "LetterWeaveModel" "made" "[I" ∈ tw_wall := tw_m 299 rfl rfl
set_option maxRecDepth 20000 in
theorem wf_X1_has : Cond.fieldLink RX1 44 "LetterWeaveModel" "has" "[I" ∈ tw_wall := tw_m 300 rfl rfl
set_option maxRecDepth 20000 in
theorem wf_X1_order : Cond.fieldLink RX1 47 "LetterWeaveModel" "order" "[I" ∈ tw_wall := tw_m 301 rfl rfl
set_option maxRecDepth 20000 in
theorem wf_X1_gone : Cond.fieldLink RX1 50 "LetterWeaveModel" "gone" "[Z" ∈ tw_wall := tw_m 302 rfl rfl
set_option maxRecDepth 20000 in
theorem wf_X1_orderOf : Cond.fieldLink RX1 54 "LetterWeaveModel" "orderOf" "I" ∈ tw_wall := tw_m 303 rfl rfl
set_option maxRecDepth 20000 in
theorem wf_X1_long_ : Cond.fieldLink RX1 60 "LetterWeaveModel" "long_" "I" ∈ tw_wall := tw_m 304 rfl rfl
set_option maxRecDepth 20000 in
theorem wa_boolean : Cond.arrayClass .boolean ∈ tw_wall := tw_m 340 rfl rfl
set_option maxRecDepth 20000 in
theorem wl_L_51 : Cond.methodLink RL 51 yX1_thrown ∈ tw_wall := tw_m 341 rfl rfl
set_option maxRecDepth 20000 in
theorem wn_X1_thrown : Cond.instanceMethod yX1_thrown ∈ tw_wall := tw_m 342 rfl rfl
set_option maxRecDepth 20000 in
theorem ws_X1_thrown : Cond.selects RX1 yX1_thrown yX1_thrown ∈ tw_wall := tw_m 343 rfl rfl
set_option maxRecDepth 20000 in
theorem wy_X1_thrown : Cond.code yX1_thrown cX1_thrown 1 (some .int) ∈ tw_wall := tw_m 344 rfl rfl
set_option maxRecDepth 20000 in
theorem wl_L_50 : Cond.methodLink RL 50 yX1_insert ∈ tw_wall := tw_m 345 rfl rfl
set_option maxRecDepth 20000 in
theorem wn_X1_insert : Cond.instanceMethod yX1_insert ∈ tw_wall := tw_m 346 rfl rfl
set_option maxRecDepth 20000 in
theorem ws_X1_insert : Cond.selects RX1 yX1_insert yX1_insert ∈ tw_wall := tw_m 347 rfl rfl
set_option maxRecDepth 20000 in
theorem wy_X1_insert : Cond.code yX1_insert cX1_insert 9 (some .int) ∈ tw_wall := tw_m 348 rfl rfl
set_option maxRecDepth 20000 in
theorem wl_X1_67 : Cond.methodLink RX1 67 yX1_isCopy ∈ tw_wall := tw_m 349 rfl rfl
set_option maxRecDepth 20000 in
theorem wt_X1_isCopy : Cond.static yX1_isCopy ∈ tw_wall := tw_m 350 rfl rfl
set_option maxRecDepth 20000 in
theorem wy_X1_isCopy : Cond.code yX1_isCopy cX1_isCopy 1 (some .boolean) ∈ tw_wall := tw_m 351 rfl rfl
set_option maxRecDepth 20000 in
theorem wl_X1_71 : Cond.methodLink RX1 71 yX1_bad ∈ tw_wall := tw_m 352 rfl rfl
set_option maxRecDepth 20000 in
theorem wn_X1_bad : Cond.instanceMethod yX1_bad ∈ tw_wall := tw_m 354 rfl rfl
set_option maxRecDepth 20000 in
theorem wy_X1_bad : Cond.code yX1_bad cX1_bad 2 (some .boolean) ∈ tw_wall := tw_m 355 rfl rfl
set_option maxRecDepth 20000 in
theorem wl_X1_75 : Cond.methodLink RX1 75 yX1_look ∈ tw_wall := tw_m 356 rfl rfl
set_option maxRecDepth 20000 in
theorem wn_X1_look : Cond.instanceMethod yX1_look ∈ tw_wall := tw_m 358 rfl rfl
set_option maxRecDepth 20000 in
theorem wy_X1_look : Cond.code yX1_look cX1_look 5 none ∈ tw_wall := tw_m 359 rfl rfl
set_option maxRecDepth 20000 in
theorem wl_X1_63 : Cond.methodLink RX1 63 yX1_isIn ∈ tw_wall := tw_m 360 rfl rfl
set_option maxRecDepth 20000 in
theorem wn_X1_isIn : Cond.instanceMethod yX1_isIn ∈ tw_wall := tw_m 362 rfl rfl
set_option maxRecDepth 20000 in
theorem wy_X1_isIn : Cond.code yX1_isIn cX1_isIn 3 (some .boolean) ∈ tw_wall := tw_m 363 rfl rfl
set_option maxRecDepth 20000 in
theorem wl_X1_79 : Cond.methodLink RX1 79 yX1_isBefore ∈ tw_wall := tw_m 364 rfl rfl
set_option maxRecDepth 20000 in
theorem wn_X1_isBefore : Cond.instanceMethod yX1_isBefore ∈ tw_wall := tw_m 366 rfl rfl
set_option maxRecDepth 20000 in
theorem wy_X1_isBefore : Cond.code yX1_isBefore cX1_isBefore 3 (some .boolean) ∈ tw_wall := tw_m 367 rfl rfl
set_option maxRecDepth 20000 in
theorem wl_X1_82 : Cond.methodLink RX1 82 yX1_done ∈ tw_wall := tw_m 368 rfl rfl
set_option maxRecDepth 20000 in
theorem wn_X1_done : Cond.instanceMethod yX1_done ∈ tw_wall := tw_m 370 rfl rfl
set_option maxRecDepth 20000 in
theorem wy_X1_done : Cond.code yX1_done cX1_done 5 (some .int) ∈ tw_wall := tw_m 371 rfl rfl
set_option maxRecDepth 20000 in
theorem wl_L_58 : Cond.methodLink RL 58 yX1_remove ∈ tw_wall := tw_m 372 rfl rfl
set_option maxRecDepth 20000 in
theorem wn_X1_remove : Cond.instanceMethod yX1_remove ∈ tw_wall := tw_m 373 rfl rfl
set_option maxRecDepth 20000 in
theorem ws_X1_remove : Cond.selects RX1 yX1_remove yX1_remove ∈ tw_wall := tw_m 374 rfl rfl
set_option maxRecDepth 20000 in
theorem wy_X1_remove : Cond.code yX1_remove cX1_remove 3 (some .int) ∈ tw_wall := tw_m 375 rfl rfl
set_option maxRecDepth 20000 in
theorem wl_L_62 : Cond.methodLink RL 62 yX1_bring ∈ tw_wall := tw_m 376 rfl rfl
set_option maxRecDepth 20000 in
theorem wn_X1_bring : Cond.instanceMethod yX1_bring ∈ tw_wall := tw_m 377 rfl rfl
set_option maxRecDepth 20000 in
theorem ws_X1_bring : Cond.selects RX1 yX1_bring yX1_bring ∈ tw_wall := tw_m 378 rfl rfl
set_option maxRecDepth 20000 in
theorem wy_X1_bring : Cond.code yX1_bring cX1_bring 5 none ∈ tw_wall := tw_m 379 rfl rfl
set_option maxRecDepth 20000 in
theorem wl_L_65 : Cond.methodLink RL 65 yX1_merge ∈ tw_wall := tw_m 380 rfl rfl
set_option maxRecDepth 20000 in
theorem wn_X1_merge : Cond.instanceMethod yX1_merge ∈ tw_wall := tw_m 381 rfl rfl
set_option maxRecDepth 20000 in
theorem ws_X1_merge : Cond.selects RX1 yX1_merge yX1_merge ∈ tw_wall := tw_m 382 rfl rfl
set_option maxRecDepth 20000 in
theorem wy_X1_merge : Cond.code yX1_merge cX1_merge 6 (some .int) ∈ tw_wall := tw_m 383 rfl rfl
set_option maxRecDepth 20000 in
theorem wl_L_69 : Cond.methodLink RL 69 yX1_length ∈ tw_wall := tw_m 384 rfl rfl
set_option maxRecDepth 20000 in
theorem wn_X1_length : Cond.instanceMethod yX1_length ∈ tw_wall := tw_m 385 rfl rfl
set_option maxRecDepth 20000 in
theorem ws_X1_length : Cond.selects RX1 yX1_length yX1_length ∈ tw_wall := tw_m 386 rfl rfl
set_option maxRecDepth 20000 in
theorem wy_X1_length : Cond.code yX1_length cX1_length 2 (some .int) ∈ tw_wall := tw_m 387 rfl rfl
set_option maxRecDepth 20000 in
theorem wl_L_72 : Cond.methodLink RL 72 yX1_letter ∈ tw_wall := tw_m 388 rfl rfl
set_option maxRecDepth 20000 in
theorem wn_X1_letter : Cond.instanceMethod yX1_letter ∈ tw_wall := tw_m 389 rfl rfl
set_option maxRecDepth 20000 in
theorem ws_X1_letter : Cond.selects RX1 yX1_letter yX1_letter ∈ tw_wall := tw_m 390 rfl rfl
set_option maxRecDepth 20000 in
theorem wy_X1_letter : Cond.code yX1_letter cX1_letter 3 (some .int) ∈ tw_wall := tw_m 391 rfl rfl
set_option maxRecDepth 20000 in
theorem wl_L_75 : Cond.methodLink RL 75 yX1_name ∈ tw_wall := tw_m 392 rfl rfl
set_option maxRecDepth 20000 in
theorem wn_X1_name : Cond.instanceMethod yX1_name ∈ tw_wall := tw_m 393 rfl rfl
set_option maxRecDepth 20000 in
theorem ws_X1_name : Cond.selects RX1 yX1_name yX1_name ∈ tw_wall := tw_m 394 rfl rfl
set_option maxRecDepth 20000 in
theorem wy_X1_name : Cond.code yX1_name cX1_name 3 (some .int) ∈ tw_wall := tw_m 395 rfl rfl
set_option maxRecDepth 20000 in
theorem wl_L_78 : Cond.methodLink RL 78 yX1_has ∈ tw_wall := tw_m 396 rfl rfl
set_option maxRecDepth 20000 in
theorem wn_X1_has : Cond.instanceMethod yX1_has ∈ tw_wall := tw_m 397 rfl rfl
set_option maxRecDepth 20000 in
theorem ws_X1_has : Cond.selects RX1 yX1_has yX1_has ∈ tw_wall := tw_m 398 rfl rfl
set_option maxRecDepth 20000 in
theorem wy_X1_has : Cond.code yX1_has cX1_has 3 (some .int) ∈ tw_wall := tw_m 399 rfl rfl
set_option maxRecDepth 20000 in
theorem wa_long : Cond.arrayClass .long ∈ tw_wall := tw_m 400 rfl rfl
set_option maxRecDepth 20000 in
theorem ws_X0_checkRoom : Cond.selects RX0 yX0_checkRoom yX0_checkRoom ∈ tw_wall := tw_m 1 rfl rfl
set_option maxRecDepth 20000 in
theorem ws_X0_placeOf : Cond.selects RX0 yX0_placeOf yX0_placeOf ∈ tw_wall := tw_m 2 rfl rfl
set_option maxRecDepth 20000 in
theorem ws_X0_isShown : Cond.selects RX0 yX0_isShown yX0_isShown ∈ tw_wall := tw_m 3 rfl rfl
set_option maxRecDepth 20000 in
theorem ws_X0_addChange : Cond.selects RX0 yX0_addChange yX0_addChange ∈ tw_wall := tw_m 4 rfl rfl
set_option maxRecDepth 20000 in
theorem ws_X0_weave : Cond.selects RX0 yX0_weave yX0_weave ∈ tw_wall := tw_m 5 rfl rfl
set_option maxRecDepth 20000 in
theorem ws_X0_receive : Cond.selects RX0 yX0_receive yX0_receive ∈ tw_wall := tw_m 6 rfl rfl
set_option maxRecDepth 20000 in
theorem ws_X0_showLetter : Cond.selects RX0 yX0_showLetter yX0_showLetter ∈ tw_wall := tw_m 7 rfl rfl
set_option maxRecDepth 20000 in
theorem ws_X0_hideLetter : Cond.selects RX0 yX0_hideLetter yX0_hideLetter ∈ tw_wall := tw_m 8 rfl rfl
set_option maxRecDepth 20000 in
theorem ws_X0_isIn : Cond.selects RX0 yX0_isIn yX0_isIn ∈ tw_wall := tw_m 9 rfl rfl
set_option maxRecDepth 20000 in
theorem ws_X0_canCome : Cond.selects RX0 yX0_canCome yX0_canCome ∈ tw_wall := tw_m 10 rfl rfl
set_option maxRecDepth 20000 in
theorem ws_X0_placeToRead : Cond.selects RX0 yX0_placeToRead yX0_placeToRead ∈ tw_wall := tw_m 11 rfl rfl
set_option maxRecDepth 20000 in
theorem ws_X1_bad : Cond.selects RX1 yX1_bad yX1_bad ∈ tw_wall := tw_m 12 rfl rfl
set_option maxRecDepth 20000 in
theorem ws_X1_look : Cond.selects RX1 yX1_look yX1_look ∈ tw_wall := tw_m 13 rfl rfl
set_option maxRecDepth 20000 in
theorem ws_X1_isIn : Cond.selects RX1 yX1_isIn yX1_isIn ∈ tw_wall := tw_m 14 rfl rfl
set_option maxRecDepth 20000 in
theorem ws_X1_isBefore : Cond.selects RX1 yX1_isBefore yX1_isBefore ∈ tw_wall := tw_m 15 rfl rfl
set_option maxRecDepth 20000 in
theorem ws_X1_done : Cond.selects RX1 yX1_done yX1_done ∈ tw_wall := tw_m 16 rfl rfl
set_option maxRecDepth 20000 in
theorem inX0 : ∀ w ∈ u_ws RX0 TX0 14, w ∈ tw_wall := fun w h => by
  have h2 : u_ws RX0 TX0 14 = [51, 53, 55, 57, 59, 61, 63, 65, 67, 69, 71, 73, 75, 77].filterMap (fun i => lw_tbl[i]?) := rfl
  have h1 : goodWord w = true := List.all_eq_true.mp (show (u_ws RX0 TX0 14).all goodWord = true from rfl) w h
  rw [h2] at h
  obtain ⟨i, -, hi⟩ := List.mem_filterMap.mp h
  exact tw_m i hi h1
set_option maxRecDepth 20000 in
theorem inX1 : ∀ w ∈ u_ws RX1 TX1 17, w ∈ tw_wall := fun w h => by
  have h2 : u_ws RX1 TX1 17 = [305, 307, 309, 311, 313, 315, 317, 319, 321, 323, 325, 327, 329, 331, 333, 335, 337].filterMap (fun i => lw_tbl[i]?) := rfl
  have h1 : goodWord w = true := List.all_eq_true.mp (show (u_ws RX1 TX1 17).all goodWord = true from rfl) w h
  rw [h2] at h
  obtain ⟨i, -, hi⟩ := List.mem_filterMap.mp h
  exact tw_m i hi h1
def wsX0_init : List Cond := Cond.code yX0_init cX0_init 1 none :: tw_wall
def wsL_insert : List Cond := Cond.codeWith yL_insert cL_insert 6 (some .int) [(0, 12, 15, 13), (0, 12, 19, 15)] :: tw_wall
def wsX0_insert : List Cond := Cond.code yX0_insert cX0_insert 6 (some .int) :: tw_wall
def wsX0_checkCopy : List Cond := Cond.code yX0_checkCopy cX0_checkCopy 1 none :: tw_wall
def wsX0_checkUpTo : List Cond := Cond.code yX0_checkUpTo cX0_checkUpTo 2 none :: tw_wall
def wsX0_checkRoom : List Cond := Cond.code yX0_checkRoom cX0_checkRoom 2 none :: tw_wall
def wsX0_placeOf : List Cond := Cond.code yX0_placeOf cX0_placeOf 5 (some .int) :: tw_wall
def wsX0_isShown : List Cond := Cond.code yX0_isShown cX0_isShown 3 (some .boolean) :: tw_wall
def wsX0_addChange : List Cond := Cond.code yX0_addChange cX0_addChange 5 (some .int) :: tw_wall
def wsX0_weave : List Cond := Cond.code yX0_weave cX0_weave 4 none :: tw_wall
def wsX0_receive : List Cond := Cond.code yX0_receive cX0_receive 3 none :: tw_wall
def wsX0_showLetter : List Cond := Cond.code yX0_showLetter cX0_showLetter 3 none :: tw_wall
def wsX0_hideLetter : List Cond := Cond.code yX0_hideLetter cX0_hideLetter 3 none :: tw_wall
def wsL_remove : List Cond := Cond.codeWith yL_remove cL_remove 5 (some .int) [(0, 10, 13, 13), (0, 10, 17, 15)] :: tw_wall
def wsX0_remove : List Cond := Cond.code yX0_remove cX0_remove 5 (some .int) :: tw_wall
def wsL_bring : List Cond := Cond.codeWith yL_bring cL_bring 5 (some .int) [(0, 7, 10, 13), (0, 7, 14, 15)] :: tw_wall
def wsX0_bring : List Cond := Cond.code yX0_bring cX0_bring 5 none :: tw_wall
def wsX0_isIn : List Cond := Cond.code yX0_isIn cX0_isIn 3 (some .boolean) :: tw_wall
def wsX0_canCome : List Cond := Cond.code yX0_canCome cX0_canCome 4 (some .boolean) :: tw_wall
def wsL_merge : List Cond := Cond.codeWith yL_merge cL_merge 5 (some .int) [(0, 10, 13, 13)] :: tw_wall
def wsX0_merge : List Cond := Cond.code yX0_merge cX0_merge 5 (some .int) :: tw_wall
def wsL_length : List Cond := Cond.codeWith yL_length cL_length 4 (some .int) [(0, 9, 12, 13)] :: tw_wall
def wsX0_length : List Cond := Cond.code yX0_length cX0_length 2 (some .int) :: tw_wall
def wsL_letter : List Cond := Cond.codeWith yL_letter cL_letter 5 (some .int) [(0, 10, 13, 13)] :: tw_wall
def wsX0_letter : List Cond := Cond.code yX0_letter cX0_letter 4 (some .int) :: tw_wall
def wsX0_placeToRead : List Cond := Cond.code yX0_placeToRead cX0_placeToRead 3 (some .int) :: tw_wall
def wsL_name : List Cond := Cond.codeWith yL_name cL_name 5 (some .int) [(0, 10, 13, 13)] :: tw_wall
def wsX0_name : List Cond := Cond.code yX0_name cX0_name 4 (some .int) :: tw_wall
def wsL_has : List Cond := Cond.codeWith yL_has cL_has 5 (some .int) [(0, 10, 13, 13)] :: tw_wall
def wsX0_has : List Cond := Cond.code yX0_has cX0_has 3 (some .int) :: tw_wall
def wsX1_init : List Cond := Cond.code yX1_init cX1_init 1 none :: tw_wall
def wsX1_thrown : List Cond := Cond.code yX1_thrown cX1_thrown 1 (some .int) :: tw_wall
def wsX1_insert : List Cond := Cond.code yX1_insert cX1_insert 9 (some .int) :: tw_wall
def wsX1_isCopy : List Cond := Cond.code yX1_isCopy cX1_isCopy 1 (some .boolean) :: tw_wall
def wsX1_bad : List Cond := Cond.code yX1_bad cX1_bad 2 (some .boolean) :: tw_wall
def wsX1_look : List Cond := Cond.code yX1_look cX1_look 5 none :: tw_wall
def wsX1_isIn : List Cond := Cond.code yX1_isIn cX1_isIn 3 (some .boolean) :: tw_wall
def wsX1_isBefore : List Cond := Cond.code yX1_isBefore cX1_isBefore 3 (some .boolean) :: tw_wall
def wsX1_done : List Cond := Cond.code yX1_done cX1_done 5 (some .int) :: tw_wall
def wsX1_remove : List Cond := Cond.code yX1_remove cX1_remove 3 (some .int) :: tw_wall
def wsX1_bring : List Cond := Cond.code yX1_bring cX1_bring 5 none :: tw_wall
def wsX1_merge : List Cond := Cond.code yX1_merge cX1_merge 6 (some .int) :: tw_wall
def wsX1_length : List Cond := Cond.code yX1_length cX1_length 2 (some .int) :: tw_wall
def wsX1_letter : List Cond := Cond.code yX1_letter cX1_letter 3 (some .int) :: tw_wall
def wsX1_name : List Cond := Cond.code yX1_name cX1_name 3 (some .int) :: tw_wall
def wsX1_has : List Cond := Cond.code yX1_has cX1_has 3 (some .int) :: tw_wall
theorem tw_gV {own C : String} {idx : Nat} {y : MethodName} {cw : Cond} (h1 : Cond.methodLink own idx y ∈ tw_wall) (h2 : Cond.instanceMethod y ∈ tw_wall) (h3 : Cond.selects C y y ∈ tw_wall) (h4 : Cond.initialized C ∈ tw_wall) (h5 : cw ∈ tw_wall) : GoodIn tw_wall (wsV own idx C y (cw :: tw_wall)) := by
  intro w hw
  have : w ∈ tw_wall := by
    simp only [wsV, List.mem_append, List.mem_cons, List.not_mem_nil, or_false] at hw
    rcases hw with (rfl | rfl | rfl | rfl) | rfl | hw
    · exact h1
    · exact h2
    · exact h3
    · exact h4
    · exact h5
    · exact hw
  exact ⟨this, good_of_word (List.mem_filter.mp this).2⟩
theorem tw_gS {own : String} {idx : Nat} {y : MethodName} {cw : Cond} (h1 : Cond.methodLink own idx y ∈ tw_wall) (h2 : Cond.static y ∈ tw_wall) (h4 : Cond.initialized y.cls ∈ tw_wall) (h5 : cw ∈ tw_wall) : GoodIn tw_wall (va_wsS own idx y (cw :: tw_wall)) := by
  intro w hw
  have : w ∈ tw_wall := by
    simp only [va_wsS, List.mem_append, List.mem_cons, List.not_mem_nil, or_false] at hw
    rcases hw with (rfl | rfl | rfl) | rfl | hw
    · exact h1
    · exact h2
    · exact h4
    · exact h5
    · exact hw
  exact ⟨this, good_of_word (List.mem_filter.mp this).2⟩
theorem tw_gI {cw : Cond} (h5 : cw ∈ tw_wall) : GoodIn tw_wall (cw :: tw_wall) := by
  intro w hw
  have : w ∈ tw_wall := by
    rcases List.mem_cons.mp hw with rfl | hw
    · exact h5
    · exact hw
  exact ⟨this, good_of_word (List.mem_filter.mp this).2⟩
