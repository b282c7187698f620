/-! names: classes, fields, methods; the tables' words by their places (written by wip/whole/gen/names.py) -/
def TA : u_T := fun k => match k with
  | 0 => ("ShellSum", "reckoner", "LShellSum$Reckoner;", true)
  | 1 => ("ShellSum", "row", "[C", true)
  | 2 => ("ShellSum", "names", "LShellSum$Names;", true)
  | 3 => ("ShellSum", "length", "I", false)
  | 4 => ("ShellSum", "hand", "[C", true)
  | 5 => ("ShellSum", "handLength", "I", false)
  | 6 => ("ShellSum", "right", "I", false)
  | _ => ("ShellSum", "wrong", "I", false)
def tyA : Nat → FieldType := fun k => match k with
  | 0 => .object "ShellSum$Reckoner"
  | 1 => .array .char
  | 2 => .object "ShellSum$Names"
  | 3 => .int
  | 4 => .array .char
  | 5 => .int
  | 6 => .int
  | _ => .int
theorem nmA : ∀ a, a < 8 → ∀ b, b < 8 → a ≠ b → (TA a).2.1 ≠ (TA b).2.1 := by decide +kernel
theorem tyA_ok : ∀ k, k < 8 → parseFieldDescriptor (TA k).2.2.1 = some (tyA k) := by decide +kernel
def TN : u_T := fun k => match k with
  | 0 => ("ShellSum$Named", "letters", "[C", true)
  | 1 => ("ShellSum$Named", "row", "[C", true)
  | _ => ("ShellSum$Named", "length", "I", false)
def tyN : Nat → FieldType := fun k => match k with
  | 0 => .array .char
  | 1 => .array .char
  | _ => .int
theorem nmN : ∀ a, a < 3 → ∀ b, b < 3 → a ≠ b → (TN a).2.1 ≠ (TN b).2.1 := by decide +kernel
theorem tyN_ok : ∀ k, k < 3 → parseFieldDescriptor (TN k).2.2.1 = some (tyN k) := by decide +kernel
def TS : u_T := fun k => match k with
  | 0 => ("ShellSum$Names", "kept", "[LShellSum$Named;", true)
  | _ => ("ShellSum$Names", "size", "I", false)
def tyS : Nat → FieldType := fun k => match k with
  | 0 => .array (.object "ShellSum$Named")
  | _ => .int
theorem nmS : ∀ a, a < 2 → ∀ b, b < 2 → a ≠ b → (TS a).2.1 ≠ (TS b).2.1 := by decide +kernel
theorem tyS_ok : ∀ k, k < 2 → parseFieldDescriptor (TS k).2.2.1 = some (tyS k) := by decide +kernel
def TR : u_T := fun k => match k with
  | 0 => ("ShellSum$Reckoner", "row", "[C", true)
  | 1 => ("ShellSum$Reckoner", "names", "LShellSum$Names;", true)
  | 2 => ("ShellSum$Reckoner", "waitingSigns", "[I", true)
  | 3 => ("ShellSum$Reckoner", "waitingFirsts", "[J", true)
  | 4 => ("ShellSum$Reckoner", "waiting", "I", false)
  | 5 => ("ShellSum$Reckoner", "length", "I", false)
  | 6 => ("ShellSum$Reckoner", "place", "I", false)
  | 7 => ("ShellSum$Reckoner", "unneeded", "I", false)
  | _ => ("ShellSum$Reckoner", "result", "J", false)
def tyR : Nat → FieldType := fun k => match k with
  | 0 => .array .char
  | 1 => .object "ShellSum$Names"
  | 2 => .array .int
  | 3 => .array .long
  | 4 => .int
  | 5 => .int
  | 6 => .int
  | 7 => .int
  | _ => .long
theorem nmR : ∀ a, a < 9 → ∀ b, b < 9 → a ≠ b → (TR a).2.1 ≠ (TR b).2.1 := by decide +kernel
theorem tyR_ok : ∀ k, k < 9 → parseFieldDescriptor (TR k).2.2.1 = some (tyR k) := by decide +kernel
def TM : u_T := fun k => match k with
  | 0 => ("ShellSumModel", "code", "I", false)
  | 1 => ("ShellSumModel", "text", "[I", true)
  | 2 => ("ShellSumModel", "sum", "[I", true)
  | 3 => ("ShellSumModel", "size", "I", false)
  | 4 => ("ShellSumModel", "length", "I", false)
  | 5 => ("ShellSumModel", "place", "I", false)
  | 6 => ("ShellSumModel", "nest", "I", false)
  | 7 => ("ShellSumModel", "bad", "Z", false)
  | 8 => ("ShellSumModel", "sort", "[I", true)
  | 9 => ("ShellSumModel", "one", "[I", true)
  | 10 => ("ShellSumModel", "two", "[I", true)
  | 11 => ("ShellSumModel", "live", "[Z", true)
  | 12 => ("ShellSumModel", "kept", "[J", true)
  | 13 => ("ShellSumModel", "values", "[J", true)
  | 14 => ("ShellSumModel", "waits", "I", false)
  | 15 => ("ShellSumModel", "high", "I", false)
  | 16 => ("ShellSumModel", "names", "[I", true)
  | 17 => ("ShellSumModel", "texts", "[I", true)
  | 18 => ("ShellSumModel", "nameSize", "[I", true)
  | 19 => ("ShellSumModel", "textSize", "[I", true)
  | 20 => ("ShellSumModel", "many", "I", false)
  | 21 => ("ShellSumModel", "good", "I", false)
  | 22 => ("ShellSumModel", "wrong", "I", false)
  | 23 => ("ShellSumModel", "hand", "[I", true)
  | 24 => ("ShellSumModel", "handSize", "I", false)
  | _ => ("ShellSumModel", "number", "J", false)
def tyM : Nat → FieldType := fun k => match k with
  | 0 => .int
  | 1 => .array .int
  | 2 => .array .int
  | 3 => .int
  | 4 => .int
  | 5 => .int
  | 6 => .int
  | 7 => .boolean
  | 8 => .array .int
  | 9 => .array .int
  | 10 => .array .int
  | 11 => .array .boolean
  | 12 => .array .long
  | 13 => .array .long
  | 14 => .int
  | 15 => .int
  | 16 => .array .int
  | 17 => .array .int
  | 18 => .array .int
  | 19 => .array .int
  | 20 => .int
  | 21 => .int
  | 22 => .int
  | 23 => .array .int
  | 24 => .int
  | _ => .long
theorem nmM : ∀ a, a < 26 → ∀ b, b < 26 → a ≠ b → (TM a).2.1 ≠ (TM b).2.1 := by decide +kernel
theorem tyM_ok : ∀ k, k < 26 → parseFieldDescriptor (TM k).2.2.1 = some (tyM k) := by decide +kernel
abbrev vwCl : List vw_C := [("ShellSum$Named", TN, 3), ("ShellSum$Names", TS, 2), ("ShellSum$Reckoner", TR, 9), ("ShellSum", TA, 8), ("ShellSumModel", TM, 26)]
abbrev cA_init : ByteArray := prog_1_method_1_code
def yA_init : MethodName := ⟨"ShellSum", "<init>", "()V"⟩
abbrev cR_init : ByteArray := prog_4_method_1_code
def yR_init : MethodName := ⟨"ShellSum$Reckoner", "<init>", "()V"⟩
abbrev cS_init : ByteArray := prog_3_method_1_code
def yS_init : MethodName := ⟨"ShellSum$Names", "<init>", "()V"⟩
abbrev cA_text : ByteArray := prog_1_method_2_code
def yA_text : MethodName := ⟨"ShellSum", "text", "(JI)I"⟩
abbrev cA_areOfText : ByteArray := prog_1_method_10_code
def yA_areOfText : MethodName := ⟨"ShellSum", "areOfText", "(JI)Z"⟩
abbrev cA_byteAt : ByteArray := prog_1_method_9_code
def yA_byteAt : MethodName := ⟨"ShellSum", "byteAt", "(JII)C"⟩
abbrev cA_isBlank : ByteArray := prog_1_method_13_code
def yA_isBlank : MethodName := ⟨"ShellSum", "isBlank", "(C)Z"⟩
abbrev cA_unpack : ByteArray := prog_1_method_12_code
def yA_unpack : MethodName := ⟨"ShellSum", "unpack", "(JI[CI)V"⟩
abbrev cA_name : ByteArray := prog_1_method_4_code
def yA_name : MethodName := ⟨"ShellSum", "name", "(JI)Z"⟩
abbrev cA_areName : ByteArray := prog_1_method_11_code
def yA_areName : MethodName := ⟨"ShellSum", "areName", "(JI)Z"⟩
abbrev cA_startsName : ByteArray := prog_1_method_15_code
def yA_startsName : MethodName := ⟨"ShellSum", "startsName", "(C)Z"⟩
abbrev cA_isOfWord : ByteArray := prog_1_method_16_code
def yA_isOfWord : MethodName := ⟨"ShellSum", "isOfWord", "(C)Z"⟩
abbrev cA_isDigit : ByteArray := prog_1_method_14_code
def yA_isDigit : MethodName := ⟨"ShellSum", "isDigit", "(C)Z"⟩
abbrev cA_put : ByteArray := prog_1_method_5_code
def yA_put : MethodName := ⟨"ShellSum", "put", "(JI)Z"⟩
abbrev cS_findOrAdd : ByteArray := prog_3_method_3_code
def yS_findOrAdd : MethodName := ⟨"ShellSum$Names", "findOrAdd", "([CII)LShellSum$Named;"⟩
abbrev cS_find : ByteArray := prog_3_method_2_code
def yS_find : MethodName := ⟨"ShellSum$Names", "find", "([CII)LShellSum$Named;"⟩
abbrev cN_isCalled : ByteArray := prog_2_method_2_code
def yN_isCalled : MethodName := ⟨"ShellSum$Named", "isCalled", "([CII)Z"⟩
abbrev cN_init : ByteArray := prog_2_method_1_code
def yN_init : MethodName := ⟨"ShellSum$Named", "<init>", "([CII)V"⟩
abbrev cA_drop : ByteArray := prog_1_method_6_code
def yA_drop : MethodName := ⟨"ShellSum", "drop", "()Z"⟩
abbrev cS_remove : ByteArray := prog_3_method_4_code
def yS_remove : MethodName := ⟨"ShellSum$Names", "remove", "([CII)Z"⟩
abbrev cA_letter : ByteArray := prog_1_method_7_code
def yA_letter : MethodName := ⟨"ShellSum", "letter", "(I)I"⟩
abbrev cA_count : ByteArray := prog_1_method_8_code
def yA_count : MethodName := ⟨"ShellSum", "count", "(I)I"⟩
abbrev cL_value : ByteArray := method_3_code
def yL_value : MethodName := ⟨"ShellSumLaw", "value", "(LShellSum;[J)I"⟩
abbrev cA_value : ByteArray := prog_1_method_3_code
def yA_value : MethodName := ⟨"ShellSum", "value", "()J"⟩
abbrev cR_manages : ByteArray := prog_4_method_2_code
def yR_manages : MethodName := ⟨"ShellSum$Reckoner", "manages", "(I)Z"⟩
abbrev cR_skipBlanks : ByteArray := prog_4_method_18_code
def yR_skipBlanks : MethodName := ⟨"ShellSum$Reckoner", "skipBlanks", "()V"⟩
abbrev cR_charAt : ByteArray := prog_4_method_20_code
def yR_charAt : MethodName := ⟨"ShellSum$Reckoner", "charAt", "(I)C"⟩
abbrev cR_expression : ByteArray := prog_4_method_3_code
def yR_expression : MethodName := ⟨"ShellSum$Reckoner", "expression", "(I)J"⟩
abbrev cR_wordEnd : ByteArray := prog_4_method_19_code
def yR_wordEnd : MethodName := ⟨"ShellSum$Reckoner", "wordEnd", "()I"⟩
abbrev cR_assignmentSign : ByteArray := prog_4_method_15_code
def yR_assignmentSign : MethodName := ⟨"ShellSum$Reckoner", "assignmentSign", "()I"⟩
abbrev cR_isShift : ByteArray := prog_4_method_16_code
def yR_isShift : MethodName := ⟨"ShellSum$Reckoner", "isShift", "(I)Z"⟩
abbrev cG_rankOf : ByteArray := prog_5_method_2_code
def yG_rankOf : MethodName := ⟨"ShellSum$Signs", "rankOf", "(I)I"⟩
abbrev cR_deeper : ByteArray := prog_4_method_7_code
def yR_deeper : MethodName := ⟨"ShellSum$Reckoner", "deeper", "(I)I"⟩
abbrev cR_assign : ByteArray := prog_4_method_10_code
def yR_assign : MethodName := ⟨"ShellSum$Reckoner", "assign", "(IIIJ)J"⟩
abbrev cR_nameValue : ByteArray := prog_4_method_9_code
def yR_nameValue : MethodName := ⟨"ShellSum$Reckoner", "nameValue", "(II)J"⟩
abbrev cA_numberIn : ByteArray := prog_1_method_17_code
def yA_numberIn : MethodName := ⟨"ShellSum", "numberIn", "([CII)J"⟩
abbrev cA_baseOf : ByteArray := prog_1_method_18_code
def yA_baseOf : MethodName := ⟨"ShellSum", "baseOf", "(CC)I"⟩
abbrev cA_digitOf : ByteArray := prog_1_method_19_code
def yA_digitOf : MethodName := ⟨"ShellSum", "digitOf", "(C)I"⟩
abbrev cG_apply : ByteArray := prog_5_method_4_code
def yG_apply : MethodName := ⟨"ShellSum$Signs", "apply", "(IJJ)J"⟩
abbrev cG_divide : ByteArray := prog_5_method_5_code
def yG_divide : MethodName := ⟨"ShellSum$Signs", "divide", "(IJJ)J"⟩
abbrev cG_holds : ByteArray := prog_5_method_6_code
def yG_holds : MethodName := ⟨"ShellSum$Signs", "holds", "(IJJ)Z"⟩
abbrev cN_writeDecimal : ByteArray := prog_2_method_3_code
def yN_writeDecimal : MethodName := ⟨"ShellSum$Named", "writeDecimal", "(J)V"⟩
abbrev cN_decimalLength : ByteArray := prog_2_method_4_code
def yN_decimalLength : MethodName := ⟨"ShellSum$Named", "decimalLength", "(J)I"⟩
abbrev cR_choice : ByteArray := prog_4_method_4_code
def yR_choice : MethodName := ⟨"ShellSum$Reckoner", "choice", "(I)J"⟩
abbrev cR_binary : ByteArray := prog_4_method_5_code
def yR_binary : MethodName := ⟨"ShellSum$Reckoner", "binary", "(I)J"⟩
abbrev cR_unary : ByteArray := prog_4_method_6_code
def yR_unary : MethodName := ⟨"ShellSum$Reckoner", "unary", "(I)J"⟩
abbrev cR_expect : ByteArray := prog_4_method_17_code
def yR_expect : MethodName := ⟨"ShellSum$Reckoner", "expect", "(C)V"⟩
abbrev cR_word : ByteArray := prog_4_method_8_code
def yR_word : MethodName := ⟨"ShellSum$Reckoner", "word", "()J"⟩
abbrev cR_signOfTwo : ByteArray := prog_4_method_14_code
def yR_signOfTwo : MethodName := ⟨"ShellSum$Reckoner", "signOfTwo", "()I"⟩
abbrev cR_settle : ByteArray := prog_4_method_12_code
def yR_settle : MethodName := ⟨"ShellSum$Reckoner", "settle", "(IIJ)J"⟩
abbrev cR_join : ByteArray := prog_4_method_13_code
def yR_join : MethodName := ⟨"ShellSum$Reckoner", "join", "(IJJ)J"⟩
abbrev cG_isSettledBy : ByteArray := prog_5_method_3_code
def yG_isSettledBy : MethodName := ⟨"ShellSum$Signs", "isSettledBy", "(IJ)Z"⟩
abbrev cR_await : ByteArray := prog_4_method_11_code
def yR_await : MethodName := ⟨"ShellSum$Reckoner", "await", "(IJ)V"⟩
abbrev cM_init : ByteArray := prog_7_method_1_code
def yM_init : MethodName := ⟨"ShellSumModel", "<init>", "()V"⟩
abbrev cM_thrown : ByteArray := prog_7_method_2_code
def yM_thrown : MethodName := ⟨"ShellSumModel", "thrown", "()I"⟩
abbrev cM_text : ByteArray := prog_7_method_8_code
def yM_text : MethodName := ⟨"ShellSumModel", "text", "(JI)I"⟩
abbrev cM_areTexts : ByteArray := prog_7_method_7_code
def yM_areTexts : MethodName := ⟨"ShellSumModel", "areTexts", "(JI)Z"⟩
abbrev cM_byteOf : ByteArray := prog_7_method_6_code
def yM_byteOf : MethodName := ⟨"ShellSumModel", "byteOf", "(JII)I"⟩
abbrev cM_isText : ByteArray := prog_7_method_5_code
def yM_isText : MethodName := ⟨"ShellSumModel", "isText", "(I)Z"⟩
abbrev cM_name : ByteArray := prog_7_method_11_code
def yM_name : MethodName := ⟨"ShellSumModel", "name", "(JI)Z"⟩
abbrev cM_isLetter : ByteArray := prog_7_method_3_code
def yM_isLetter : MethodName := ⟨"ShellSumModel", "isLetter", "(I)Z"⟩
abbrev cM_isDigit : ByteArray := prog_7_method_4_code
def yM_isDigit : MethodName := ⟨"ShellSumModel", "isDigit", "(I)Z"⟩
abbrev cM_put : ByteArray := prog_7_method_12_code
def yM_put : MethodName := ⟨"ShellSumModel", "put", "(JI)Z"⟩
abbrev cM_placeFor : ByteArray := prog_7_method_10_code
def yM_placeFor : MethodName := ⟨"ShellSumModel", "placeFor", "([III)I"⟩
abbrev cM_find : ByteArray := prog_7_method_9_code
def yM_find : MethodName := ⟨"ShellSumModel", "find", "([III)I"⟩
abbrev cM_drop : ByteArray := prog_7_method_13_code
def yM_drop : MethodName := ⟨"ShellSumModel", "drop", "()Z"⟩
abbrev cM_letter : ByteArray := prog_7_method_14_code
def yM_letter : MethodName := ⟨"ShellSumModel", "letter", "(I)I"⟩
abbrev cM_value : ByteArray := prog_7_method_35_code
def yM_value : MethodName := ⟨"ShellSumModel", "value", "()J"⟩
abbrev cM_sign : ByteArray := prog_7_method_19_code
def yM_sign : MethodName := ⟨"ShellSumModel", "sign", "()I"⟩
abbrev cM_plain : ByteArray := prog_7_method_22_code
def yM_plain : MethodName := ⟨"ShellSumModel", "plain", "(IZ)V"⟩
abbrev cM_wait : ByteArray := prog_7_method_21_code
def yM_wait : MethodName := ⟨"ShellSumModel", "wait", "(IZIIJ)V"⟩
abbrev cM_go : ByteArray := prog_7_method_34_code
def yM_go : MethodName := ⟨"ShellSumModel", "go", "()V"⟩
abbrev cM_aSum : ByteArray := prog_7_method_28_code
def yM_aSum : MethodName := ⟨"ShellSumModel", "aSum", "(Z)V"⟩
abbrev cM_nameEnd : ByteArray := prog_7_method_27_code
def yM_nameEnd : MethodName := ⟨"ShellSumModel", "nameEnd", "()I"⟩
abbrev cM_gives : ByteArray := prog_7_method_26_code
def yM_gives : MethodName := ⟨"ShellSumModel", "gives", "()I"⟩
abbrev cM_at : ByteArray := prog_7_method_20_code
def yM_at : MethodName := ⟨"ShellSumModel", "at", "(I)I"⟩
abbrev cM_inner : ByteArray := prog_7_method_25_code
def yM_inner : MethodName := ⟨"ShellSumModel", "inner", "()V"⟩
abbrev cM_taken : ByteArray := prog_7_method_24_code
def yM_taken : MethodName := ⟨"ShellSumModel", "taken", "()J"⟩
abbrev cM_keep : ByteArray := prog_7_method_23_code
def yM_keep : MethodName := ⟨"ShellSumModel", "keep", "(J)V"⟩
abbrev cM_more : ByteArray := prog_7_method_31_code
def yM_more : MethodName := ⟨"ShellSumModel", "more", "(ZI)V"⟩
abbrev cM_rank : ByteArray := prog_7_method_30_code
def yM_rank : MethodName := ⟨"ShellSumModel", "rank", "()I"⟩
abbrev cM_joined : ByteArray := prog_7_method_32_code
def yM_joined : MethodName := ⟨"ShellSumModel", "joined", "(IIZJJZ)J"⟩
abbrev cM_term : ByteArray := prog_7_method_33_code
def yM_term : MethodName := ⟨"ShellSumModel", "term", "(Z)V"⟩
abbrev cM_named : ByteArray := prog_7_method_17_code
def yM_named : MethodName := ⟨"ShellSumModel", "named", "(II)J"⟩
abbrev cM_numberEnd : ByteArray := prog_7_method_16_code
def yM_numberEnd : MethodName := ⟨"ShellSumModel", "numberEnd", "([III)I"⟩
abbrev cM_digitOf : ByteArray := prog_7_method_15_code
def yM_digitOf : MethodName := ⟨"ShellSumModel", "digitOf", "(I)I"⟩
abbrev cM_given : ByteArray := prog_7_method_29_code
def yM_given : MethodName := ⟨"ShellSumModel", "given", "(ZIII)V"⟩
abbrev cM_give : ByteArray := prog_7_method_18_code
def yM_give : MethodName := ⟨"ShellSumModel", "give", "(IIJ)V"⟩
abbrev cM_count : ByteArray := prog_7_method_36_code
def yM_count : MethodName := ⟨"ShellSumModel", "count", "(I)I"⟩
abbrev cL_law : ByteArray := code
def yL_law : MethodName := ⟨"ShellSumLaw", "law", "([I)Z"⟩
/-- the words of the tables that stay true as the run warms -/
def zw : List Cond := lw_tbl.filter goodWord
theorem zw_m {w : Cond} (h : w ∈ lw_tbl) (hg : goodWord w = true) : w ∈ zw := List.mem_filter.mpr ⟨h, hg⟩
theorem zw_t {w : Cond} (h : w ∈ zw) : w ∈ lw_tbl := (List.mem_filter.mp h).1
theorem zw_g {w : Cond} (h : w ∈ zw) : goodWord w = true := (List.mem_filter.mp h).2
theorem zt_1 {w : Cond} {i : Nat} (h : tables_1_1[i]? = some w) : w ∈ lw_tbl := List.mem_append_right _ (List.mem_append_left _ (List.mem_of_getElem? h))
theorem zt_2 {w : Cond} {i : Nat} (h : tables_1_2[i]? = some w) : w ∈ lw_tbl := List.mem_append_right _ (List.mem_append_right _ (List.mem_append_left _ (List.mem_of_getElem? h)))
theorem zt_3 {w : Cond} {i : Nat} (h : tables_1_3[i]? = some w) : w ∈ lw_tbl := List.mem_append_right _ (List.mem_append_right _ (List.mem_append_right _ (List.mem_of_getElem? h)))
theorem zt_s {w : Cond} {i : Nat} (h : (k2_sels lw_privs)[i]? = some w) : w ∈ lw_tbl := List.mem_append_left _ (List.mem_of_getElem? h)
theorem zw_1_0 : (Cond.initialized "ShellSumLaw") ∈ zw := zw_m (zt_1 (i := 0) rfl) rfl
theorem zw_1_1 : (Cond.initialized "ShellSum") ∈ zw := zw_m (zt_1 (i := 1) rfl) rfl
theorem zw_1_2 : (Cond.initialized "ShellSum$Reckoner") ∈ zw := zw_m (zt_1 (i := 2) rfl) rfl
theorem zw_1_3 : (Cond.initialized "ShellSum$Names") ∈ zw := zw_m (zt_1 (i := 3) rfl) rfl
theorem zw_1_4 : (Cond.initialized "ShellSumModel") ∈ zw := zw_m (zt_1 (i := 4) rfl) rfl
theorem zw_1_5 : (Cond.initialized "ShellSum$Signs") ∈ zw := zw_m (zt_1 (i := 5) rfl) rfl
theorem zw_1_6 : (Cond.initialized "java/lang/Throwable") ∈ zw := zw_m (zt_1 (i := 6) rfl) rfl
theorem zw_1_7 : (Cond.initialized "java/lang/Exception") ∈ zw := zw_m (zt_1 (i := 7) rfl) rfl
theorem zw_1_8 : (Cond.initialized "java/lang/RuntimeException") ∈ zw := zw_m (zt_1 (i := 8) rfl) rfl
theorem zw_1_9 : (Cond.initialized "java/lang/IllegalStateException") ∈ zw := zw_m (zt_1 (i := 9) rfl) rfl
theorem zw_1_10 : (Cond.initialized "ShellSum$Named") ∈ zw := zw_m (zt_1 (i := 10) rfl) rfl
theorem zw_1_11 : (Cond.initialized "java/lang/Math") ∈ zw := zw_m (zt_1 (i := 11) rfl) rfl
theorem zw_1_12 : (Cond.classLink "ShellSumLaw" 8 "ShellSum") ∈ zw := zw_m (zt_1 (i := 12) rfl) rfl
theorem zw_1_13 : (Cond.instantiable "ShellSum" 8) ∈ zw := zw_m (zt_1 (i := 13) rfl) rfl
theorem zw_1_14 : (Cond.methodLink "ShellSumLaw" 15 yA_init) ∈ zw := zw_m (zt_1 (i := 14) rfl) rfl
theorem zw_1_15 : (Cond.instanceMethod yA_init) ∈ zw := zw_m (zt_1 (i := 15) rfl) rfl
theorem zw_1_16 : (Cond.code yA_init prog_1_method_1_code 1 none) ∈ zw := zw_m (zt_1 (i := 16) rfl) rfl
theorem zw_1_17 : (Cond.methodLink "ShellSum" 3 (⟨"java/lang/Object", "<init>", "()V"⟩ : MethodName)) ∈ zw := zw_m (zt_1 (i := 17) rfl) rfl
theorem zw_1_18 : (Cond.instanceMethod (⟨"java/lang/Object", "<init>", "()V"⟩ : MethodName)) ∈ zw := zw_m (zt_1 (i := 18) rfl) rfl
theorem zw_1_19 : (Cond.code (⟨"java/lang/Object", "<init>", "()V"⟩ : MethodName) object_method_1_code 1 none) ∈ zw := zw_m (zt_1 (i := 19) rfl) rfl
theorem zw_1_20 : (Cond.classLink "ShellSum" 9 "ShellSum$Reckoner") ∈ zw := zw_m (zt_1 (i := 20) rfl) rfl
theorem zw_1_21 : (Cond.instantiable "ShellSum$Reckoner" 9) ∈ zw := zw_m (zt_1 (i := 21) rfl) rfl
theorem zw_1_22 : (Cond.methodLinkNest "ShellSum" 11 yR_init "ShellSum") ∈ lw_tbl := zt_1 (i := 22) rfl
theorem zw_1_23 : (Cond.instanceMethod yR_init) ∈ zw := zw_m (zt_1 (i := 23) rfl) rfl
theorem zw_1_24 : (Cond.code yR_init prog_4_method_1_code 1 none) ∈ zw := zw_m (zt_1 (i := 24) rfl) rfl
theorem zw_1_25 : (Cond.methodLink "ShellSum$Reckoner" 3 (⟨"java/lang/Object", "<init>", "()V"⟩ : MethodName)) ∈ zw := zw_m (zt_1 (i := 25) rfl) rfl
theorem zw_1_26 : (Cond.classLink "ShellSum$Reckoner" 15 "ShellSum$Names") ∈ zw := zw_m (zt_1 (i := 26) rfl) rfl
theorem zw_1_27 : (Cond.instantiable "ShellSum$Names" 2) ∈ zw := zw_m (zt_1 (i := 27) rfl) rfl
theorem zw_1_28 : (Cond.methodLinkNest "ShellSum$Reckoner" 17 yS_init "ShellSum") ∈ lw_tbl := zt_1 (i := 28) rfl
theorem zw_1_29 : (Cond.instanceMethod yS_init) ∈ zw := zw_m (zt_1 (i := 29) rfl) rfl
theorem zw_1_30 : (Cond.code yS_init prog_3_method_1_code 1 none) ∈ zw := zw_m (zt_1 (i := 30) rfl) rfl
theorem zw_1_31 : (Cond.methodLink "ShellSum$Names" 3 (⟨"java/lang/Object", "<init>", "()V"⟩ : MethodName)) ∈ zw := zw_m (zt_1 (i := 31) rfl) rfl
theorem zw_1_32 : (Cond.classLink "ShellSum$Names" 9 "ShellSum$Named") ∈ zw := zw_m (zt_1 (i := 32) rfl) rfl
theorem zw_1_33 : (Cond.arrayOver (.object "ShellSum$Named")) ∈ lw_tbl := zt_1 (i := 33) rfl
theorem zw_1_34 : (Cond.fieldLink "ShellSum$Names" 11 "ShellSum$Names" "kept" "[LShellSum$Named;") ∈ zw := zw_m (zt_1 (i := 34) rfl) rfl
theorem zw_1_35 : (Cond.fieldLink "ShellSum$Names" 17 "ShellSum$Names" "size" "I") ∈ zw := zw_m (zt_1 (i := 35) rfl) rfl
theorem zw_1_36 : (Cond.fieldLinkNest "ShellSum" 85 "ShellSum$Names" "size" "I" "ShellSum") ∈ lw_tbl := zt_1 (i := 36) rfl
theorem zw_1_37 : (Cond.laysFinal "ShellSum$Names" "ShellSum$Names" "kept" "[LShellSum$Named;") ∈ zw := zw_m (zt_1 (i := 37) rfl) rfl
theorem zw_1_39 : (Cond.lays "ShellSum$Names" "ShellSum$Names" "size" "I") ∈ zw := zw_m (zt_1 (i := 39) rfl) rfl
theorem zw_1_42 : (Cond.arrayClass .char) ∈ zw := zw_m (zt_1 (i := 42) rfl) rfl
theorem zw_1_43 : (Cond.fieldLink "ShellSum$Reckoner" 9 "ShellSum$Reckoner" "row" "[C") ∈ zw := zw_m (zt_1 (i := 43) rfl) rfl
theorem zw_1_44 : (Cond.fieldLinkNest "ShellSum" 16 "ShellSum$Reckoner" "row" "[C" "ShellSum") ∈ lw_tbl := zt_1 (i := 44) rfl
theorem zw_1_45 : (Cond.fieldLink "ShellSum$Reckoner" 18 "ShellSum$Reckoner" "names" "LShellSum$Names;") ∈ zw := zw_m (zt_1 (i := 45) rfl) rfl
theorem zw_1_46 : (Cond.fieldLinkNest "ShellSum" 21 "ShellSum$Reckoner" "names" "LShellSum$Names;" "ShellSum") ∈ lw_tbl := zt_1 (i := 46) rfl
theorem zw_1_47 : (Cond.fieldLink "ShellSum$Reckoner" 22 "ShellSum$Reckoner" "waitingSigns" "[I") ∈ zw := zw_m (zt_1 (i := 47) rfl) rfl
theorem zw_1_48 : (Cond.fieldLink "ShellSum$Reckoner" 26 "ShellSum$Reckoner" "waitingFirsts" "[J") ∈ zw := zw_m (zt_1 (i := 48) rfl) rfl
theorem zw_1_49 : (Cond.fieldLink "ShellSum$Reckoner" 30 "ShellSum$Reckoner" "waiting" "I") ∈ zw := zw_m (zt_1 (i := 49) rfl) rfl
theorem zw_1_50 : (Cond.fieldLink "ShellSum$Reckoner" 34 "ShellSum$Reckoner" "length" "I") ∈ zw := zw_m (zt_1 (i := 50) rfl) rfl
theorem zw_1_51 : (Cond.fieldLink "ShellSum$Reckoner" 37 "ShellSum$Reckoner" "place" "I") ∈ zw := zw_m (zt_1 (i := 51) rfl) rfl
theorem zw_1_52 : (Cond.fieldLink "ShellSum$Reckoner" 40 "ShellSum$Reckoner" "unneeded" "I") ∈ zw := zw_m (zt_1 (i := 52) rfl) rfl
theorem zw_1_53 : (Cond.fieldLink "ShellSum$Reckoner" 43 "ShellSum$Reckoner" "result" "J") ∈ zw := zw_m (zt_1 (i := 53) rfl) rfl
theorem zw_1_54 : (Cond.fieldLinkNest "ShellSum" 61 "ShellSum$Reckoner" "result" "J" "ShellSum") ∈ lw_tbl := zt_1 (i := 54) rfl
theorem zw_1_55 : (Cond.laysFinal "ShellSum$Reckoner" "ShellSum$Reckoner" "row" "[C") ∈ zw := zw_m (zt_1 (i := 55) rfl) rfl
theorem zw_1_57 : (Cond.laysFinal "ShellSum$Reckoner" "ShellSum$Reckoner" "names" "LShellSum$Names;") ∈ zw := zw_m (zt_1 (i := 57) rfl) rfl
theorem zw_1_59 : (Cond.laysFinal "ShellSum$Reckoner" "ShellSum$Reckoner" "waitingSigns" "[I") ∈ zw := zw_m (zt_1 (i := 59) rfl) rfl
theorem zw_1_61 : (Cond.laysFinal "ShellSum$Reckoner" "ShellSum$Reckoner" "waitingFirsts" "[J") ∈ zw := zw_m (zt_1 (i := 61) rfl) rfl
theorem zw_1_63 : (Cond.lays "ShellSum$Reckoner" "ShellSum$Reckoner" "waiting" "I") ∈ zw := zw_m (zt_1 (i := 63) rfl) rfl
theorem zw_1_65 : (Cond.lays "ShellSum$Reckoner" "ShellSum$Reckoner" "length" "I") ∈ zw := zw_m (zt_1 (i := 65) rfl) rfl
theorem zw_1_67 : (Cond.lays "ShellSum$Reckoner" "ShellSum$Reckoner" "place" "I") ∈ zw := zw_m (zt_1 (i := 67) rfl) rfl
theorem zw_1_69 : (Cond.lays "ShellSum$Reckoner" "ShellSum$Reckoner" "unneeded" "I") ∈ zw := zw_m (zt_1 (i := 69) rfl) rfl
theorem zw_1_71 : (Cond.lays "ShellSum$Reckoner" "ShellSum$Reckoner" "result" "J") ∈ zw := zw_m (zt_1 (i := 71) rfl) rfl
theorem zw_1_74 : (Cond.arrayClass .int) ∈ zw := zw_m (zt_1 (i := 74) rfl) rfl
theorem zw_1_75 : (Cond.arrayClass .long) ∈ zw := zw_m (zt_1 (i := 75) rfl) rfl
theorem zw_1_76 : (Cond.fieldLink "ShellSum" 12 "ShellSum" "reckoner" "LShellSum$Reckoner;") ∈ zw := zw_m (zt_1 (i := 76) rfl) rfl
theorem zw_1_77 : (Cond.fieldLink "ShellSum" 20 "ShellSum" "row" "[C") ∈ zw := zw_m (zt_1 (i := 77) rfl) rfl
theorem zw_1_78 : (Cond.fieldLink "ShellSum" 25 "ShellSum" "names" "LShellSum$Names;") ∈ zw := zw_m (zt_1 (i := 78) rfl) rfl
theorem zw_1_79 : (Cond.fieldLink "ShellSum" 26 "ShellSum" "length" "I") ∈ zw := zw_m (zt_1 (i := 79) rfl) rfl
theorem zw_1_80 : (Cond.fieldLink "ShellSum" 30 "ShellSum" "hand" "[C") ∈ zw := zw_m (zt_1 (i := 80) rfl) rfl
theorem zw_1_81 : (Cond.fieldLink "ShellSum" 33 "ShellSum" "handLength" "I") ∈ zw := zw_m (zt_1 (i := 81) rfl) rfl
theorem zw_1_82 : (Cond.fieldLink "ShellSum" 36 "ShellSum" "right" "I") ∈ zw := zw_m (zt_1 (i := 82) rfl) rfl
theorem zw_1_83 : (Cond.fieldLink "ShellSum" 39 "ShellSum" "wrong" "I") ∈ zw := zw_m (zt_1 (i := 83) rfl) rfl
theorem zw_1_84 : (Cond.laysFinal "ShellSum" "ShellSum" "reckoner" "LShellSum$Reckoner;") ∈ zw := zw_m (zt_1 (i := 84) rfl) rfl
theorem zw_1_86 : (Cond.laysFinal "ShellSum" "ShellSum" "row" "[C") ∈ zw := zw_m (zt_1 (i := 86) rfl) rfl
theorem zw_1_88 : (Cond.laysFinal "ShellSum" "ShellSum" "names" "LShellSum$Names;") ∈ zw := zw_m (zt_1 (i := 88) rfl) rfl
theorem zw_1_90 : (Cond.lays "ShellSum" "ShellSum" "length" "I") ∈ zw := zw_m (zt_1 (i := 90) rfl) rfl
theorem zw_1_92 : (Cond.laysFinal "ShellSum" "ShellSum" "hand" "[C") ∈ zw := zw_m (zt_1 (i := 92) rfl) rfl
theorem zw_1_94 : (Cond.lays "ShellSum" "ShellSum" "handLength" "I") ∈ zw := zw_m (zt_1 (i := 94) rfl) rfl
theorem zw_1_96 : (Cond.lays "ShellSum" "ShellSum" "right" "I") ∈ zw := zw_m (zt_1 (i := 96) rfl) rfl
theorem zw_1_98 : (Cond.lays "ShellSum" "ShellSum" "wrong" "I") ∈ zw := zw_m (zt_1 (i := 98) rfl) rfl
theorem zw_1_101 : (Cond.methodLink "ShellSumLaw" 21 yA_text) ∈ zw := zw_m (zt_1 (i := 101) rfl) rfl
theorem zw_1_102 : (Cond.instanceMethod yA_text) ∈ zw := zw_m (zt_1 (i := 102) rfl) rfl
theorem zw_1_103 : (Cond.selects "ShellSum" yA_text yA_text) ∈ zw := zw_m (zt_1 (i := 103) rfl) rfl
theorem zw_1_104 : (Cond.code yA_text prog_1_method_2_code 4 (some .int)) ∈ zw := zw_m (zt_1 (i := 104) rfl) rfl
theorem zw_1_105 : (Cond.methodLink "ShellSum" 42 yA_areOfText) ∈ zw := zw_m (zt_1 (i := 105) rfl) rfl
theorem zw_1_106 : (Cond.static yA_areOfText) ∈ zw := zw_m (zt_1 (i := 106) rfl) rfl
theorem zw_1_107 : (Cond.code yA_areOfText prog_1_method_10_code 5 (some .boolean)) ∈ zw := zw_m (zt_1 (i := 107) rfl) rfl
theorem zw_1_108 : (Cond.methodLink "ShellSum" 90 yA_byteAt) ∈ zw := zw_m (zt_1 (i := 108) rfl) rfl
theorem zw_1_109 : (Cond.static yA_byteAt) ∈ zw := zw_m (zt_1 (i := 109) rfl) rfl
theorem zw_1_110 : (Cond.code yA_byteAt prog_1_method_9_code 4 (some .char)) ∈ zw := zw_m (zt_1 (i := 110) rfl) rfl
theorem zw_1_111 : (Cond.constantLong "ShellSum" 88 (255)) ∈ zw := zw_m (zt_1 (i := 111) rfl) rfl
theorem zw_1_112 : (Cond.methodLink "ShellSum" 94 yA_isBlank) ∈ zw := zw_m (zt_1 (i := 112) rfl) rfl
theorem zw_1_113 : (Cond.static yA_isBlank) ∈ zw := zw_m (zt_1 (i := 113) rfl) rfl
theorem zw_1_114 : (Cond.code yA_isBlank prog_1_method_13_code 1 (some .boolean)) ∈ zw := zw_m (zt_1 (i := 114) rfl) rfl
theorem zw_1_115 : (Cond.methodLink "ShellSum" 46 yA_unpack) ∈ zw := zw_m (zt_1 (i := 115) rfl) rfl
theorem zw_1_116 : (Cond.static yA_unpack) ∈ zw := zw_m (zt_1 (i := 116) rfl) rfl
theorem zw_1_117 : (Cond.code yA_unpack prog_1_method_12_code 6 none) ∈ zw := zw_m (zt_1 (i := 117) rfl) rfl
theorem zw_1_118 : (Cond.methodLink "ShellSumLaw" 36 yA_name) ∈ zw := zw_m (zt_1 (i := 118) rfl) rfl
theorem zw_1_119 : (Cond.instanceMethod yA_name) ∈ zw := zw_m (zt_1 (i := 119) rfl) rfl
theorem zw_1_120 : (Cond.selects "ShellSum" yA_name yA_name) ∈ zw := zw_m (zt_1 (i := 120) rfl) rfl
theorem zw_1_121 : (Cond.code yA_name prog_1_method_4_code 4 (some .boolean)) ∈ zw := zw_m (zt_1 (i := 121) rfl) rfl
theorem zw_1_122 : (Cond.methodLink "ShellSum" 65 yA_areName) ∈ zw := zw_m (zt_1 (i := 122) rfl) rfl
theorem zw_1_123 : (Cond.static yA_areName) ∈ zw := zw_m (zt_1 (i := 123) rfl) rfl
theorem zw_1_124 : (Cond.code yA_areName prog_1_method_11_code 4 (some .boolean)) ∈ zw := zw_m (zt_1 (i := 124) rfl) rfl
theorem zw_1_125 : (Cond.methodLink "ShellSum" 98 yA_startsName) ∈ zw := zw_m (zt_1 (i := 125) rfl) rfl
theorem zw_1_126 : (Cond.static yA_startsName) ∈ zw := zw_m (zt_1 (i := 126) rfl) rfl
theorem zw_1_127 : (Cond.code yA_startsName prog_1_method_15_code 1 (some .boolean)) ∈ zw := zw_m (zt_1 (i := 127) rfl) rfl
theorem zw_1_128 : (Cond.methodLink "ShellSum" 101 yA_isOfWord) ∈ zw := zw_m (zt_1 (i := 128) rfl) rfl
theorem zw_1_129 : (Cond.static yA_isOfWord) ∈ zw := zw_m (zt_1 (i := 129) rfl) rfl
theorem zw_1_130 : (Cond.code yA_isOfWord prog_1_method_16_code 1 (some .boolean)) ∈ zw := zw_m (zt_1 (i := 130) rfl) rfl
theorem zw_1_131 : (Cond.methodLink "ShellSum" 104 yA_isDigit) ∈ zw := zw_m (zt_1 (i := 131) rfl) rfl
theorem zw_1_132 : (Cond.static yA_isDigit) ∈ zw := zw_m (zt_1 (i := 132) rfl) rfl
theorem zw_1_133 : (Cond.code yA_isDigit prog_1_method_14_code 1 (some .boolean)) ∈ zw := zw_m (zt_1 (i := 133) rfl) rfl
theorem zw_1_134 : (Cond.methodLink "ShellSumLaw" 41 yA_put) ∈ zw := zw_m (zt_1 (i := 134) rfl) rfl
theorem zw_1_135 : (Cond.instanceMethod yA_put) ∈ zw := zw_m (zt_1 (i := 135) rfl) rfl
theorem zw_1_136 : (Cond.selects "ShellSum" yA_put yA_put) ∈ zw := zw_m (zt_1 (i := 136) rfl) rfl
theorem zw_1_137 : (Cond.code yA_put prog_1_method_5_code 5 (some .boolean)) ∈ zw := zw_m (zt_1 (i := 137) rfl) rfl
theorem zw_1_138 : (Cond.methodLinkNest "ShellSum" 68 yS_findOrAdd "ShellSum") ∈ lw_tbl := zt_1 (i := 138) rfl
theorem zw_1_140 : (Cond.instanceMethod yS_findOrAdd) ∈ zw := zw_m (zt_1 (i := 140) rfl) rfl
theorem zw_1_141 : (Cond.code yS_findOrAdd prog_3_method_3_code 6 (some (.object "ShellSum$Named"))) ∈ zw := zw_m (zt_1 (i := 141) rfl) rfl
theorem zw_1_142 : (Cond.methodLink "ShellSum$Names" 25 yS_find) ∈ zw := zw_m (zt_1 (i := 142) rfl) rfl
theorem zw_1_144 : (Cond.instanceMethod yS_find) ∈ zw := zw_m (zt_1 (i := 144) rfl) rfl
theorem zw_1_145 : (Cond.code yS_find prog_3_method_2_code 6 (some (.object "ShellSum$Named"))) ∈ zw := zw_m (zt_1 (i := 145) rfl) rfl
theorem zw_1_146 : (Cond.methodLinkNest "ShellSum$Names" 21 yN_isCalled "ShellSum") ∈ lw_tbl := zt_1 (i := 146) rfl
theorem zw_1_148 : (Cond.instanceMethod yN_isCalled) ∈ zw := zw_m (zt_1 (i := 148) rfl) rfl
theorem zw_1_149 : (Cond.instantiable "ShellSum$Named" 3) ∈ zw := zw_m (zt_1 (i := 149) rfl) rfl
theorem zw_1_150 : (Cond.code yN_isCalled prog_2_method_2_code 5 (some .boolean)) ∈ zw := zw_m (zt_1 (i := 150) rfl) rfl
theorem zw_1_151 : (Cond.methodLinkNest "ShellSum$Names" 29 yN_init "ShellSum") ∈ lw_tbl := zt_1 (i := 151) rfl
theorem zw_1_152 : (Cond.instanceMethod yN_init) ∈ zw := zw_m (zt_1 (i := 152) rfl) rfl
theorem zw_1_153 : (Cond.code yN_init prog_2_method_1_code 5 none) ∈ zw := zw_m (zt_1 (i := 153) rfl) rfl
theorem zw_1_154 : (Cond.methodLink "ShellSum$Named" 3 (⟨"java/lang/Object", "<init>", "()V"⟩ : MethodName)) ∈ zw := zw_m (zt_1 (i := 154) rfl) rfl
theorem zw_1_155 : (Cond.methodLink "ShellSum$Named" 19 (⟨"java/lang/Math", "max", "(II)I"⟩ : MethodName)) ∈ zw := zw_m (zt_1 (i := 155) rfl) rfl
theorem zw_1_156 : (Cond.static (⟨"java/lang/Math", "max", "(II)I"⟩ : MethodName)) ∈ zw := zw_m (zt_1 (i := 156) rfl) rfl
theorem zw_1_157 : (Cond.code (⟨"java/lang/Math", "max", "(II)I"⟩ : MethodName) prog_10_method_65_code 2 (some .int)) ∈ zw := zw_m (zt_1 (i := 157) rfl) rfl
theorem zw_1_158 : (Cond.fieldLink "ShellSum$Named" 25 "ShellSum$Named" "letters" "[C") ∈ zw := zw_m (zt_1 (i := 158) rfl) rfl
theorem zw_1_159 : (Cond.fieldLink "ShellSum$Named" 9 "ShellSum$Named" "row" "[C") ∈ zw := zw_m (zt_1 (i := 159) rfl) rfl
theorem zw_1_160 : (Cond.fieldLinkNest "ShellSum" 74 "ShellSum$Named" "row" "[C" "ShellSum") ∈ lw_tbl := zt_1 (i := 160) rfl
theorem zw_1_161 : (Cond.fieldLinkNest "ShellSum$Reckoner" 139 "ShellSum$Named" "row" "[C" "ShellSum") ∈ lw_tbl := zt_1 (i := 161) rfl
theorem zw_1_162 : (Cond.fieldLink "ShellSum$Named" 15 "ShellSum$Named" "length" "I") ∈ zw := zw_m (zt_1 (i := 162) rfl) rfl
theorem zw_1_163 : (Cond.fieldLinkNest "ShellSum" 77 "ShellSum$Named" "length" "I" "ShellSum") ∈ lw_tbl := zt_1 (i := 163) rfl
theorem zw_1_164 : (Cond.fieldLinkNest "ShellSum$Reckoner" 136 "ShellSum$Named" "length" "I" "ShellSum") ∈ lw_tbl := zt_1 (i := 164) rfl
theorem zw_1_165 : (Cond.laysFinal "ShellSum$Named" "ShellSum$Named" "letters" "[C") ∈ zw := zw_m (zt_1 (i := 165) rfl) rfl
theorem zw_1_167 : (Cond.laysFinal "ShellSum$Named" "ShellSum$Named" "row" "[C") ∈ zw := zw_m (zt_1 (i := 167) rfl) rfl
theorem zw_1_169 : (Cond.lays "ShellSum$Named" "ShellSum$Named" "length" "I") ∈ zw := zw_m (zt_1 (i := 169) rfl) rfl
theorem zw_1_172 : (Cond.methodLink "ShellSumLaw" 45 yA_drop) ∈ zw := zw_m (zt_1 (i := 172) rfl) rfl
theorem zw_1_173 : (Cond.instanceMethod yA_drop) ∈ zw := zw_m (zt_1 (i := 173) rfl) rfl
theorem zw_1_174 : (Cond.selects "ShellSum" yA_drop yA_drop) ∈ zw := zw_m (zt_1 (i := 174) rfl) rfl
theorem zw_1_175 : (Cond.code yA_drop prog_1_method_6_code 1 (some .boolean)) ∈ zw := zw_m (zt_1 (i := 175) rfl) rfl
theorem zw_1_176 : (Cond.methodLinkNest "ShellSum" 78 yS_remove "ShellSum") ∈ lw_tbl := zt_1 (i := 176) rfl
theorem zw_1_178 : (Cond.instanceMethod yS_remove) ∈ zw := zw_m (zt_1 (i := 178) rfl) rfl
theorem zw_1_179 : (Cond.code yS_remove prog_3_method_4_code 6 (some .boolean)) ∈ zw := zw_m (zt_1 (i := 179) rfl) rfl
theorem zw_1_180 : (Cond.methodLink "ShellSumLaw" 50 yA_letter) ∈ zw := zw_m (zt_1 (i := 180) rfl) rfl
theorem zw_1_181 : (Cond.instanceMethod yA_letter) ∈ zw := zw_m (zt_1 (i := 181) rfl) rfl
theorem zw_1_182 : (Cond.selects "ShellSum" yA_letter yA_letter) ∈ zw := zw_m (zt_1 (i := 182) rfl) rfl
theorem zw_1_183 : (Cond.code yA_letter prog_1_method_7_code 3 (some .int)) ∈ zw := zw_m (zt_1 (i := 183) rfl) rfl
theorem zw_1_184 : (Cond.methodLinkNest "ShellSum" 82 yS_find "ShellSum") ∈ lw_tbl := zt_1 (i := 184) rfl
theorem zw_1_185 : (Cond.methodLink "ShellSumLaw" 55 yA_count) ∈ zw := zw_m (zt_1 (i := 185) rfl) rfl
theorem zw_1_186 : (Cond.instanceMethod yA_count) ∈ zw := zw_m (zt_1 (i := 186) rfl) rfl
theorem zw_1_187 : (Cond.selects "ShellSum" yA_count yA_count) ∈ zw := zw_m (zt_1 (i := 187) rfl) rfl
theorem zw_1_188 : (Cond.code yA_count prog_1_method_8_code 3 (some .int)) ∈ zw := zw_m (zt_1 (i := 188) rfl) rfl
theorem zw_1_189 : (Cond.methodLink "ShellSumLaw" 26 yL_value) ∈ zw := zw_m (zt_1 (i := 189) rfl) rfl
theorem zw_1_190 : (Cond.static yL_value) ∈ zw := zw_m (zt_1 (i := 190) rfl) rfl
theorem zw_1_191 : (Cond.codeWith yL_value method_3_code 3 (some .int) [(0, 7, 10, 13)]) ∈ zw := zw_m (zt_1 (i := 191) rfl) rfl
theorem zw_1_192 : (Cond.classLink "ShellSumLaw" 13 "java/lang/IllegalStateException") ∈ zw := zw_m (zt_1 (i := 192) rfl) rfl
theorem zw_1_193 : (Cond.methodLink "ShellSumLaw" 7 yA_value) ∈ zw := zw_m (zt_1 (i := 193) rfl) rfl
theorem zw_1_194 : (Cond.instanceMethod yA_value) ∈ zw := zw_m (zt_1 (i := 194) rfl) rfl
theorem zw_1_195 : (Cond.selects "ShellSum" yA_value yA_value) ∈ zw := zw_m (zt_1 (i := 195) rfl) rfl
theorem zw_1_196 : (Cond.code yA_value prog_1_method_3_code 2 (some .long)) ∈ zw := zw_m (zt_1 (i := 196) rfl) rfl
theorem zw_1_197 : (Cond.methodLinkNest "ShellSum" 50 yR_manages "ShellSum") ∈ lw_tbl := zt_1 (i := 197) rfl
theorem zw_1_199 : (Cond.instanceMethod yR_manages) ∈ zw := zw_m (zt_1 (i := 199) rfl) rfl
theorem zw_1_200 : (Cond.codeWith yR_manages prog_4_method_2_code 3 (some .boolean) [(42, 51, 54, 54)]) ∈ zw := zw_m (zt_1 (i := 200) rfl) rfl
theorem zw_1_201 : (Cond.classLink "ShellSum$Reckoner" 54 "java/lang/IllegalStateException") ∈ zw := zw_m (zt_1 (i := 201) rfl) rfl
theorem zw_1_202 : (Cond.methodLink "ShellSum$Reckoner" 47 yR_skipBlanks) ∈ zw := zw_m (zt_1 (i := 202) rfl) rfl
theorem zw_1_204 : (Cond.instanceMethod yR_skipBlanks) ∈ zw := zw_m (zt_1 (i := 204) rfl) rfl
theorem zw_1_205 : (Cond.code yR_skipBlanks prog_4_method_18_code 2 none) ∈ zw := zw_m (zt_1 (i := 205) rfl) rfl
theorem zw_1_206 : (Cond.methodLink "ShellSum$Reckoner" 56 yR_charAt) ∈ zw := zw_m (zt_1 (i := 206) rfl) rfl
theorem zw_1_208 : (Cond.instanceMethod yR_charAt) ∈ zw := zw_m (zt_1 (i := 208) rfl) rfl
theorem zw_1_209 : (Cond.code yR_charAt prog_4_method_20_code 2 (some .char)) ∈ zw := zw_m (zt_1 (i := 209) rfl) rfl
theorem zw_1_210 : (Cond.methodLinkNest "ShellSum$Reckoner" 168 yA_isBlank "ShellSum") ∈ lw_tbl := zt_1 (i := 210) rfl
theorem zw_1_211 : (Cond.methodLink "ShellSum$Reckoner" 50 yR_expression) ∈ zw := zw_m (zt_1 (i := 211) rfl) rfl
theorem zw_1_213 : (Cond.instanceMethod yR_expression) ∈ zw := zw_m (zt_1 (i := 213) rfl) rfl
theorem zw_1_214 : (Cond.code yR_expression prog_4_method_3_code 7 (some .long)) ∈ zw := zw_m (zt_1 (i := 214) rfl) rfl
theorem zw_1_215 : (Cond.methodLinkNest "ShellSum$Reckoner" 60 yA_startsName "ShellSum") ∈ lw_tbl := zt_1 (i := 215) rfl
theorem zw_1_216 : (Cond.methodLink "ShellSum$Reckoner" 64 yR_wordEnd) ∈ zw := zw_m (zt_1 (i := 216) rfl) rfl
theorem zw_1_218 : (Cond.instanceMethod yR_wordEnd) ∈ zw := zw_m (zt_1 (i := 218) rfl) rfl
theorem zw_1_219 : (Cond.code yR_wordEnd prog_4_method_19_code 3 (some .int)) ∈ zw := zw_m (zt_1 (i := 219) rfl) rfl
theorem zw_1_220 : (Cond.methodLinkNest "ShellSum$Reckoner" 171 yA_isOfWord "ShellSum") ∈ lw_tbl := zt_1 (i := 220) rfl
theorem zw_1_221 : (Cond.methodLink "ShellSum$Reckoner" 68 yR_assignmentSign) ∈ zw := zw_m (zt_1 (i := 221) rfl) rfl
theorem zw_1_223 : (Cond.instanceMethod yR_assignmentSign) ∈ zw := zw_m (zt_1 (i := 223) rfl) rfl
theorem zw_1_224 : (Cond.code yR_assignmentSign prog_4_method_15_code 4 (some .int)) ∈ zw := zw_m (zt_1 (i := 224) rfl) rfl
theorem zw_1_225 : (Cond.methodLink "ShellSum$Reckoner" 162 yR_isShift) ∈ zw := zw_m (zt_1 (i := 225) rfl) rfl
theorem zw_1_226 : (Cond.static yR_isShift) ∈ zw := zw_m (zt_1 (i := 226) rfl) rfl
theorem zw_1_227 : (Cond.code yR_isShift prog_4_method_16_code 1 (some .boolean)) ∈ zw := zw_m (zt_1 (i := 227) rfl) rfl
theorem zw_1_228 : (Cond.methodLinkNest "ShellSum$Reckoner" 95 yG_rankOf "ShellSum") ∈ lw_tbl := zt_1 (i := 228) rfl
theorem zw_1_229 : (Cond.static yG_rankOf) ∈ zw := zw_m (zt_1 (i := 229) rfl) rfl
theorem zw_1_230 : (Cond.code yG_rankOf prog_5_method_2_code 1 (some .int)) ∈ zw := zw_m (zt_1 (i := 230) rfl) rfl
theorem zw_1_231 : (Cond.methodLink "ShellSum$Reckoner" 71 yR_deeper) ∈ zw := zw_m (zt_1 (i := 231) rfl) rfl
theorem zw_1_232 : (Cond.static yR_deeper) ∈ zw := zw_m (zt_1 (i := 232) rfl) rfl
theorem zw_1_233 : (Cond.code yR_deeper prog_4_method_7_code 1 (some .int)) ∈ zw := zw_m (zt_1 (i := 233) rfl) rfl
theorem zw_1_234 : (Cond.instantiable "java/lang/IllegalStateException" 6) ∈ zw := zw_m (zt_1 (i := 234) rfl) rfl
theorem zw_1_235 : (Cond.castable "java/lang/IllegalStateException" "java/lang/IllegalStateException") ∈ lw_tbl := zt_1 (i := 235) rfl
theorem zw_1_236 : (Cond.declares (⟨"java/lang/RuntimeException", "<init>", "()V"⟩ : MethodName)) ∈ lw_tbl := zt_1 (i := 236) rfl
theorem zw_1_237 : (Cond.declares (⟨"java/lang/RuntimeException", "<init>", "(Ljava/lang/String;)V"⟩ : MethodName)) ∈ lw_tbl := zt_1 (i := 237) rfl
theorem zw_1_238 : (Cond.declares (⟨"java/lang/Exception", "<init>", "()V"⟩ : MethodName)) ∈ lw_tbl := zt_1 (i := 238) rfl
theorem zw_1_239 : (Cond.declares (⟨"java/lang/Exception", "<init>", "(Ljava/lang/String;)V"⟩ : MethodName)) ∈ lw_tbl := zt_1 (i := 239) rfl
theorem zw_2_0 : (Cond.declares (⟨"java/lang/Throwable", "<init>", "()V"⟩ : MethodName)) ∈ lw_tbl := zt_2 (i := 0) rfl
theorem zw_2_1 : (Cond.declares (⟨"java/lang/Throwable", "<init>", "(Ljava/lang/String;)V"⟩ : MethodName)) ∈ lw_tbl := zt_2 (i := 1) rfl
theorem zw_2_2 : (Cond.selects "java/lang/IllegalStateException" (⟨"java/lang/Throwable", "fillInStackTrace", "(I)Ljava/lang/Throwable;"⟩ : MethodName) (⟨"java/lang/Throwable", "fillInStackTrace", "(I)Ljava/lang/Throwable;"⟩ : MethodName)) ∈ zw := zw_m (zt_2 (i := 2) rfl) rfl
theorem zw_2_3 : (Cond.selects "java/lang/IllegalStateException" (⟨"java/lang/Throwable", "fillInStackTrace", "()Ljava/lang/Throwable;"⟩ : MethodName) (⟨"java/lang/Throwable", "fillInStackTrace", "()Ljava/lang/Throwable;"⟩ : MethodName)) ∈ zw := zw_m (zt_2 (i := 3) rfl) rfl
theorem zw_2_4 : (Cond.lays "java/lang/IllegalStateException" "java/lang/Throwable" "cause" "Ljava/lang/Throwable;") ∈ zw := zw_m (zt_2 (i := 4) rfl) rfl
theorem zw_2_5 : (Cond.lays "java/lang/Throwable" "java/lang/Throwable" "cause" "Ljava/lang/Throwable;") ∈ zw := zw_m (zt_2 (i := 5) rfl) rfl
theorem zw_2_6 : (Cond.lays "java/lang/IllegalStateException" "java/lang/Throwable" "stackTrace" "[Ljava/lang/StackTraceElement;") ∈ zw := zw_m (zt_2 (i := 6) rfl) rfl
theorem zw_2_7 : (Cond.lays "java/lang/Throwable" "java/lang/Throwable" "stackTrace" "[Ljava/lang/StackTraceElement;") ∈ zw := zw_m (zt_2 (i := 7) rfl) rfl
theorem zw_2_8 : (Cond.lays "java/lang/IllegalStateException" "java/lang/Throwable" "suppressedExceptions" "Ljava/util/List;") ∈ zw := zw_m (zt_2 (i := 8) rfl) rfl
theorem zw_2_9 : (Cond.lays "java/lang/Throwable" "java/lang/Throwable" "suppressedExceptions" "Ljava/util/List;") ∈ zw := zw_m (zt_2 (i := 9) rfl) rfl
theorem zw_2_10 : (Cond.lays "java/lang/IllegalStateException" "java/lang/Throwable" "detailMessage" "Ljava/lang/String;") ∈ zw := zw_m (zt_2 (i := 10) rfl) rfl
theorem zw_2_11 : (Cond.lays "java/lang/Throwable" "java/lang/Throwable" "detailMessage" "Ljava/lang/String;") ∈ zw := zw_m (zt_2 (i := 11) rfl) rfl
theorem zw_2_12 : (Cond.lays "java/lang/IllegalStateException" "java/lang/Throwable" "backtrace" "Ljava/lang/Object;") ∈ zw := zw_m (zt_2 (i := 12) rfl) rfl
theorem zw_2_13 : (Cond.lays "java/lang/Throwable" "java/lang/Throwable" "backtrace" "Ljava/lang/Object;") ∈ zw := zw_m (zt_2 (i := 13) rfl) rfl
theorem zw_2_14 : (Cond.fieldLink "java/lang/Throwable" 198 "java/lang/Throwable" "backtrace" "Ljava/lang/Object;") ∈ zw := zw_m (zt_2 (i := 14) rfl) rfl
theorem zw_2_16 : (Cond.instanceMethod (⟨"java/lang/Throwable", "<init>", "()V"⟩ : MethodName)) ∈ zw := zw_m (zt_2 (i := 16) rfl) rfl
theorem zw_2_17 : (Cond.code (⟨"java/lang/Throwable", "<init>", "()V"⟩ : MethodName) prog_13_method_1_code 1 none) ∈ zw := zw_m (zt_2 (i := 17) rfl) rfl
theorem zw_2_18 : (Cond.methodLink "java/lang/Throwable" 1 (⟨"java/lang/Object", "<init>", "()V"⟩ : MethodName)) ∈ zw := zw_m (zt_2 (i := 18) rfl) rfl
theorem zw_2_19 : (Cond.fieldLink "java/lang/Throwable" 13 "java/lang/Throwable" "UNASSIGNED_STACK" "[Ljava/lang/StackTraceElement;") ∈ zw := zw_m (zt_2 (i := 19) rfl) rfl
theorem zw_2_20 : (Cond.laysStatic "java/lang/Throwable" "UNASSIGNED_STACK" "[Ljava/lang/StackTraceElement;") ∈ lw_tbl := zt_2 (i := 20) rfl
theorem zw_2_21 : (Cond.fieldLink "java/lang/Throwable" 20 "java/lang/Throwable" "SUPPRESSED_SENTINEL" "Ljava/util/List;") ∈ zw := zw_m (zt_2 (i := 21) rfl) rfl
theorem zw_2_22 : (Cond.laysStatic "java/lang/Throwable" "SUPPRESSED_SENTINEL" "Ljava/util/List;") ∈ lw_tbl := zt_2 (i := 22) rfl
theorem zw_2_23 : (Cond.methodLink "java/lang/Throwable" 27 (⟨"java/lang/Throwable", "fillInStackTrace", "()Ljava/lang/Throwable;"⟩ : MethodName)) ∈ zw := zw_m (zt_2 (i := 23) rfl) rfl
theorem zw_2_24 : (Cond.instanceMethod (⟨"java/lang/Throwable", "fillInStackTrace", "()Ljava/lang/Throwable;"⟩ : MethodName)) ∈ zw := zw_m (zt_2 (i := 24) rfl) rfl
theorem zw_2_25 : (Cond.sameMethod "java/lang/Throwable" "java/lang/Throwable" "fillInStackTrace" "()Ljava/lang/Throwable;") ∈ lw_tbl := zt_2 (i := 25) rfl
theorem zw_2_26 : (Cond.codeSync (⟨"java/lang/Throwable", "fillInStackTrace", "()Ljava/lang/Throwable;"⟩ : MethodName) prog_13_method_18_code 1 (some (.object "java/lang/Throwable"))) ∈ lw_tbl := zt_2 (i := 26) rfl
theorem zw_2_27 : (Cond.methodLink "java/lang/Throwable" 202 (⟨"java/lang/Throwable", "fillInStackTrace", "(I)Ljava/lang/Throwable;"⟩ : MethodName)) ∈ zw := zw_m (zt_2 (i := 27) rfl) rfl
theorem zw_2_29 : (Cond.instanceMethod (⟨"java/lang/Throwable", "fillInStackTrace", "(I)Ljava/lang/Throwable;"⟩ : MethodName)) ∈ zw := zw_m (zt_2 (i := 29) rfl) rfl
theorem zw_2_30 : (Cond.instantiable "java/lang/Throwable" 6) ∈ zw := zw_m (zt_2 (i := 30) rfl) rfl
theorem zw_2_31 : (Cond.native (⟨"java/lang/Throwable", "fillInStackTrace", "(I)Ljava/lang/Throwable;"⟩ : MethodName)) ∈ lw_tbl := zt_2 (i := 31) rfl
theorem zw_2_32 : (Cond.stringRef "ShellSum$Reckoner" 114 "too much stands within one another") ∈ lw_tbl := zt_2 (i := 32) rfl
theorem zw_2_33 : (Cond.methodLink "ShellSum$Reckoner" 116 (⟨"java/lang/IllegalStateException", "<init>", "(Ljava/lang/String;)V"⟩ : MethodName)) ∈ zw := zw_m (zt_2 (i := 33) rfl) rfl
theorem zw_2_34 : (Cond.instanceMethod (⟨"java/lang/IllegalStateException", "<init>", "(Ljava/lang/String;)V"⟩ : MethodName)) ∈ zw := zw_m (zt_2 (i := 34) rfl) rfl
theorem zw_2_35 : (Cond.code (⟨"java/lang/IllegalStateException", "<init>", "(Ljava/lang/String;)V"⟩ : MethodName) prog_9_method_2_code 2 none) ∈ zw := zw_m (zt_2 (i := 35) rfl) rfl
theorem zw_2_36 : (Cond.methodLink "java/lang/IllegalStateException" 7 (⟨"java/lang/RuntimeException", "<init>", "(Ljava/lang/String;)V"⟩ : MethodName)) ∈ zw := zw_m (zt_2 (i := 36) rfl) rfl
theorem zw_2_37 : (Cond.instanceMethod (⟨"java/lang/RuntimeException", "<init>", "(Ljava/lang/String;)V"⟩ : MethodName)) ∈ zw := zw_m (zt_2 (i := 37) rfl) rfl
theorem zw_2_38 : (Cond.code (⟨"java/lang/RuntimeException", "<init>", "(Ljava/lang/String;)V"⟩ : MethodName) prog_11_method_2_code 2 none) ∈ zw := zw_m (zt_2 (i := 38) rfl) rfl
theorem zw_2_39 : (Cond.methodLink "java/lang/RuntimeException" 7 (⟨"java/lang/Exception", "<init>", "(Ljava/lang/String;)V"⟩ : MethodName)) ∈ zw := zw_m (zt_2 (i := 39) rfl) rfl
theorem zw_2_40 : (Cond.instanceMethod (⟨"java/lang/Exception", "<init>", "(Ljava/lang/String;)V"⟩ : MethodName)) ∈ zw := zw_m (zt_2 (i := 40) rfl) rfl
theorem zw_2_41 : (Cond.code (⟨"java/lang/Exception", "<init>", "(Ljava/lang/String;)V"⟩ : MethodName) prog_8_method_2_code 2 none) ∈ zw := zw_m (zt_2 (i := 41) rfl) rfl
theorem zw_2_42 : (Cond.methodLink "java/lang/Exception" 7 (⟨"java/lang/Throwable", "<init>", "(Ljava/lang/String;)V"⟩ : MethodName)) ∈ zw := zw_m (zt_2 (i := 42) rfl) rfl
theorem zw_2_43 : (Cond.instanceMethod (⟨"java/lang/Throwable", "<init>", "(Ljava/lang/String;)V"⟩ : MethodName)) ∈ zw := zw_m (zt_2 (i := 43) rfl) rfl
theorem zw_2_44 : (Cond.code (⟨"java/lang/Throwable", "<init>", "(Ljava/lang/String;)V"⟩ : MethodName) prog_13_method_2_code 2 none) ∈ zw := zw_m (zt_2 (i := 44) rfl) rfl
theorem zw_2_45 : (Cond.fieldLink "java/lang/Throwable" 198 "java/lang/Throwable" "backtrace" "Ljava/lang/Object;") ∈ zw := zw_m (zt_2 (i := 45) rfl) rfl
theorem zw_2_46 : (Cond.fieldLink "java/lang/Throwable" 31 "java/lang/Throwable" "detailMessage" "Ljava/lang/String;") ∈ zw := zw_m (zt_2 (i := 46) rfl) rfl
theorem zw_2_47 : (Cond.fieldLink "java/lang/Throwable" 7 "java/lang/Throwable" "cause" "Ljava/lang/Throwable;") ∈ zw := zw_m (zt_2 (i := 47) rfl) rfl
theorem zw_2_48 : (Cond.fieldLink "java/lang/Throwable" 17 "java/lang/Throwable" "stackTrace" "[Ljava/lang/StackTraceElement;") ∈ zw := zw_m (zt_2 (i := 48) rfl) rfl
theorem zw_2_49 : (Cond.fieldLink "java/lang/Throwable" 24 "java/lang/Throwable" "suppressedExceptions" "Ljava/util/List;") ∈ zw := zw_m (zt_2 (i := 49) rfl) rfl
theorem zw_2_54 : (Cond.lays "java/lang/IllegalStateException" "java/lang/Throwable" "depth" "I") ∈ zw := zw_m (zt_2 (i := 54) rfl) rfl
theorem zw_2_58 : (Cond.arrayClass .byte) ∈ zw := zw_m (zt_2 (i := 58) rfl) rfl
theorem zw_2_59 : (Cond.methodLink "ShellSum$Reckoner" 75 yR_assign) ∈ zw := zw_m (zt_2 (i := 59) rfl) rfl
theorem zw_2_61 : (Cond.instanceMethod yR_assign) ∈ zw := zw_m (zt_2 (i := 61) rfl) rfl
theorem zw_2_62 : (Cond.code yR_assign prog_4_method_10_code 9 (some .long)) ∈ zw := zw_m (zt_2 (i := 62) rfl) rfl
theorem zw_2_63 : (Cond.methodLink "ShellSum$Reckoner" 128 yR_nameValue) ∈ zw := zw_m (zt_2 (i := 63) rfl) rfl
theorem zw_2_65 : (Cond.instanceMethod yR_nameValue) ∈ zw := zw_m (zt_2 (i := 65) rfl) rfl
theorem zw_2_66 : (Cond.code yR_nameValue prog_4_method_9_code 4 (some .long)) ∈ zw := zw_m (zt_2 (i := 66) rfl) rfl
theorem zw_2_67 : (Cond.methodLinkNest "ShellSum$Reckoner" 132 yS_find "ShellSum") ∈ lw_tbl := zt_2 (i := 67) rfl
theorem zw_2_68 : (Cond.methodLinkNest "ShellSum$Reckoner" 122 yA_numberIn "ShellSum") ∈ lw_tbl := zt_2 (i := 68) rfl
theorem zw_2_69 : (Cond.static yA_numberIn) ∈ zw := zw_m (zt_2 (i := 69) rfl) rfl
theorem zw_2_70 : (Cond.code yA_numberIn prog_1_method_17_code 9 (some .long)) ∈ zw := zw_m (zt_2 (i := 70) rfl) rfl
theorem zw_2_71 : (Cond.classLink "ShellSum" 54 "java/lang/IllegalStateException") ∈ zw := zw_m (zt_2 (i := 71) rfl) rfl
theorem zw_2_72 : (Cond.stringRef "ShellSum" 107 "a number has no digit") ∈ lw_tbl := zt_2 (i := 72) rfl
theorem zw_2_73 : (Cond.methodLink "ShellSum" 58 (⟨"java/lang/IllegalStateException", "<init>", "(Ljava/lang/String;)V"⟩ : MethodName)) ∈ zw := zw_m (zt_2 (i := 73) rfl) rfl
theorem zw_2_74 : (Cond.methodLink "ShellSum" 109 yA_baseOf) ∈ zw := zw_m (zt_2 (i := 74) rfl) rfl
theorem zw_2_75 : (Cond.static yA_baseOf) ∈ zw := zw_m (zt_2 (i := 75) rfl) rfl
theorem zw_2_76 : (Cond.code yA_baseOf prog_1_method_18_code 2 (some .int)) ∈ zw := zw_m (zt_2 (i := 76) rfl) rfl
theorem zw_2_77 : (Cond.stringRef "ShellSum" 113 "a number of sixteen has no digit") ∈ lw_tbl := zt_2 (i := 77) rfl
theorem zw_2_78 : (Cond.methodLink "ShellSum" 115 yA_digitOf) ∈ zw := zw_m (zt_2 (i := 78) rfl) rfl
theorem zw_2_79 : (Cond.static yA_digitOf) ∈ zw := zw_m (zt_2 (i := 79) rfl) rfl
theorem zw_2_80 : (Cond.code yA_digitOf prog_1_method_19_code 1 (some .int)) ∈ zw := zw_m (zt_2 (i := 80) rfl) rfl
theorem zw_2_81 : (Cond.stringRef "ShellSum" 119 "a number has a wrong digit") ∈ lw_tbl := zt_2 (i := 81) rfl
theorem zw_2_82 : (Cond.methodLinkNest "ShellSum$Reckoner" 140 yG_apply "ShellSum") ∈ lw_tbl := zt_2 (i := 82) rfl
theorem zw_2_83 : (Cond.static yG_apply) ∈ zw := zw_m (zt_2 (i := 83) rfl) rfl
theorem zw_2_84 : (Cond.code yG_apply prog_5_method_4_code 5 (some .long)) ∈ zw := zw_m (zt_2 (i := 84) rfl) rfl
theorem zw_2_85 : (Cond.constantLong "ShellSum$Signs" 9 (63)) ∈ zw := zw_m (zt_2 (i := 85) rfl) rfl
theorem zw_2_86 : (Cond.methodLink "ShellSum$Signs" 11 yG_divide) ∈ zw := zw_m (zt_2 (i := 86) rfl) rfl
theorem zw_2_87 : (Cond.static yG_divide) ∈ zw := zw_m (zt_2 (i := 87) rfl) rfl
theorem zw_2_88 : (Cond.code yG_divide prog_5_method_5_code 5 (some .long)) ∈ zw := zw_m (zt_2 (i := 88) rfl) rfl
theorem zw_2_89 : (Cond.classLink "ShellSum$Signs" 21 "java/lang/IllegalStateException") ∈ zw := zw_m (zt_2 (i := 89) rfl) rfl
theorem zw_2_90 : (Cond.stringRef "ShellSum$Signs" 23 "something divides by 0") ∈ lw_tbl := zt_2 (i := 90) rfl
theorem zw_2_91 : (Cond.methodLink "ShellSum$Signs" 25 (⟨"java/lang/IllegalStateException", "<init>", "(Ljava/lang/String;)V"⟩ : MethodName)) ∈ zw := zw_m (zt_2 (i := 91) rfl) rfl
theorem zw_2_92 : (Cond.methodLink "ShellSum$Signs" 17 yG_holds) ∈ zw := zw_m (zt_2 (i := 92) rfl) rfl
theorem zw_2_93 : (Cond.static yG_holds) ∈ zw := zw_m (zt_2 (i := 93) rfl) rfl
theorem zw_2_94 : (Cond.code yG_holds prog_5_method_6_code 5 (some .boolean)) ∈ zw := zw_m (zt_2 (i := 94) rfl) rfl
theorem zw_2_95 : (Cond.methodLinkNest "ShellSum$Reckoner" 144 yS_findOrAdd "ShellSum") ∈ lw_tbl := zt_2 (i := 95) rfl
theorem zw_2_96 : (Cond.stringRef "ShellSum$Reckoner" 147 "too many names would have a text") ∈ lw_tbl := zt_2 (i := 96) rfl
theorem zw_2_97 : (Cond.methodLinkNest "ShellSum$Reckoner" 149 yN_writeDecimal "ShellSum") ∈ lw_tbl := zt_2 (i := 97) rfl
theorem zw_2_99 : (Cond.instanceMethod yN_writeDecimal) ∈ zw := zw_m (zt_2 (i := 99) rfl) rfl
theorem zw_2_100 : (Cond.code yN_writeDecimal prog_2_method_3_code 6 none) ∈ zw := zw_m (zt_2 (i := 100) rfl) rfl
theorem zw_2_101 : (Cond.methodLink "ShellSum$Named" 28 yN_decimalLength) ∈ zw := zw_m (zt_2 (i := 101) rfl) rfl
theorem zw_2_102 : (Cond.static yN_decimalLength) ∈ zw := zw_m (zt_2 (i := 102) rfl) rfl
theorem zw_2_103 : (Cond.code yN_decimalLength prog_2_method_4_code 5 (some .int)) ∈ zw := zw_m (zt_2 (i := 103) rfl) rfl
theorem zw_2_104 : (Cond.constantLong "ShellSum$Named" 34 (10)) ∈ zw := zw_m (zt_2 (i := 104) rfl) rfl
theorem zw_2_105 : (Cond.constantLong "ShellSum$Named" 32 (48)) ∈ zw := zw_m (zt_2 (i := 105) rfl) rfl
theorem zw_2_106 : (Cond.methodLink "ShellSum$Named" 36 (⟨"java/lang/Math", "abs", "(J)J"⟩ : MethodName)) ∈ zw := zw_m (zt_2 (i := 106) rfl) rfl
theorem zw_2_107 : (Cond.static (⟨"java/lang/Math", "abs", "(J)J"⟩ : MethodName)) ∈ zw := zw_m (zt_2 (i := 107) rfl) rfl
theorem zw_2_108 : (Cond.code (⟨"java/lang/Math", "abs", "(J)J"⟩ : MethodName) prog_10_method_61_code 2 (some .long)) ∈ zw := zw_m (zt_2 (i := 108) rfl) rfl
theorem zw_2_109 : (Cond.methodLink "ShellSum$Reckoner" 79 yR_choice) ∈ zw := zw_m (zt_2 (i := 109) rfl) rfl
theorem zw_2_111 : (Cond.instanceMethod yR_choice) ∈ zw := zw_m (zt_2 (i := 111) rfl) rfl
theorem zw_2_112 : (Cond.code yR_choice prog_4_method_4_code 11 (some .long)) ∈ zw := zw_m (zt_2 (i := 112) rfl) rfl
theorem zw_2_113 : (Cond.methodLink "ShellSum$Reckoner" 82 yR_binary) ∈ zw := zw_m (zt_2 (i := 113) rfl) rfl
theorem zw_2_115 : (Cond.instanceMethod yR_binary) ∈ zw := zw_m (zt_2 (i := 115) rfl) rfl
theorem zw_2_116 : (Cond.code yR_binary prog_4_method_5_code 9 (some .long)) ∈ zw := zw_m (zt_2 (i := 116) rfl) rfl
theorem zw_2_117 : (Cond.methodLink "ShellSum$Reckoner" 89 yR_unary) ∈ zw := zw_m (zt_2 (i := 117) rfl) rfl
theorem zw_2_119 : (Cond.instanceMethod yR_unary) ∈ zw := zw_m (zt_2 (i := 119) rfl) rfl
theorem zw_2_120 : (Cond.code yR_unary prog_4_method_6_code 5 (some .long)) ∈ zw := zw_m (zt_2 (i := 120) rfl) rfl
theorem zw_2_121 : (Cond.constantLong "ShellSum$Reckoner" 108 (-1)) ∈ zw := zw_m (zt_2 (i := 121) rfl) rfl
theorem zw_2_122 : (Cond.methodLink "ShellSum$Reckoner" 85 yR_expect) ∈ zw := zw_m (zt_2 (i := 122) rfl) rfl
theorem zw_2_124 : (Cond.instanceMethod yR_expect) ∈ zw := zw_m (zt_2 (i := 124) rfl) rfl
theorem zw_2_125 : (Cond.code yR_expect prog_4_method_17_code 2 none) ∈ zw := zw_m (zt_2 (i := 125) rfl) rfl
theorem zw_2_126 : (Cond.stringRef "ShellSum$Reckoner" 166 "a bracket or a choice has no end") ∈ lw_tbl := zt_2 (i := 126) rfl
theorem zw_2_127 : (Cond.methodLink "ShellSum$Reckoner" 110 yR_word) ∈ zw := zw_m (zt_2 (i := 127) rfl) rfl
theorem zw_2_129 : (Cond.instanceMethod yR_word) ∈ zw := zw_m (zt_2 (i := 129) rfl) rfl
theorem zw_2_130 : (Cond.code yR_word prog_4_method_8_code 3 (some .long)) ∈ zw := zw_m (zt_2 (i := 130) rfl) rfl
theorem zw_2_131 : (Cond.methodLinkNest "ShellSum$Reckoner" 119 yA_isDigit "ShellSum") ∈ lw_tbl := zt_2 (i := 131) rfl
theorem zw_2_132 : (Cond.stringRef "ShellSum$Reckoner" 126 "a number, a name or a bracket is missing") ∈ lw_tbl := zt_2 (i := 132) rfl
theorem zw_2_133 : (Cond.methodLink "ShellSum$Reckoner" 92 yR_signOfTwo) ∈ zw := zw_m (zt_2 (i := 133) rfl) rfl
theorem zw_2_135 : (Cond.instanceMethod yR_signOfTwo) ∈ zw := zw_m (zt_2 (i := 135) rfl) rfl
theorem zw_2_136 : (Cond.code yR_signOfTwo prog_4_method_14_code 3 (some .int)) ∈ zw := zw_m (zt_2 (i := 136) rfl) rfl
theorem zw_2_137 : (Cond.methodLink "ShellSum$Reckoner" 100 yR_settle) ∈ zw := zw_m (zt_2 (i := 137) rfl) rfl
theorem zw_2_139 : (Cond.instanceMethod yR_settle) ∈ zw := zw_m (zt_2 (i := 139) rfl) rfl
theorem zw_2_140 : (Cond.code yR_settle prog_4_method_12_code 9 (some .long)) ∈ zw := zw_m (zt_2 (i := 140) rfl) rfl
theorem zw_2_141 : (Cond.methodLink "ShellSum$Reckoner" 159 yR_join) ∈ zw := zw_m (zt_2 (i := 141) rfl) rfl
theorem zw_2_143 : (Cond.instanceMethod yR_join) ∈ zw := zw_m (zt_2 (i := 143) rfl) rfl
theorem zw_2_144 : (Cond.code yR_join prog_4_method_13_code 6 (some .long)) ∈ zw := zw_m (zt_2 (i := 144) rfl) rfl
theorem zw_2_145 : (Cond.methodLinkNest "ShellSum$Reckoner" 155 yG_isSettledBy "ShellSum") ∈ lw_tbl := zt_2 (i := 145) rfl
theorem zw_2_146 : (Cond.static yG_isSettledBy) ∈ zw := zw_m (zt_2 (i := 146) rfl) rfl
theorem zw_2_147 : (Cond.code yG_isSettledBy prog_5_method_3_code 3 (some .boolean)) ∈ zw := zw_m (zt_2 (i := 147) rfl) rfl
theorem zw_2_148 : (Cond.methodLink "ShellSum$Reckoner" 104 yR_await) ∈ zw := zw_m (zt_2 (i := 148) rfl) rfl
theorem zw_2_150 : (Cond.instanceMethod yR_await) ∈ zw := zw_m (zt_2 (i := 150) rfl) rfl
theorem zw_2_151 : (Cond.code yR_await prog_4_method_11_code 4 none) ∈ zw := zw_m (zt_2 (i := 151) rfl) rfl
theorem zw_2_152 : (Cond.stringRef "ShellSum$Reckoner" 153 "too many signs wait") ∈ lw_tbl := zt_2 (i := 152) rfl
theorem zw_2_153 : (Cond.stringRef "ShellSum" 56 "the text has an error") ∈ lw_tbl := zt_2 (i := 153) rfl
theorem zw_2_154 : (Cond.classLink "ShellSumLaw" 16 "ShellSumModel") ∈ zw := zw_m (zt_2 (i := 154) rfl) rfl
theorem zw_2_155 : (Cond.instantiable "ShellSumModel" 26) ∈ zw := zw_m (zt_2 (i := 155) rfl) rfl
theorem zw_2_156 : (Cond.methodLink "ShellSumLaw" 18 yM_init) ∈ zw := zw_m (zt_2 (i := 156) rfl) rfl
theorem zw_2_157 : (Cond.instanceMethod yM_init) ∈ zw := zw_m (zt_2 (i := 157) rfl) rfl
theorem zw_2_158 : (Cond.code yM_init prog_7_method_1_code 1 none) ∈ zw := zw_m (zt_2 (i := 158) rfl) rfl
theorem zw_2_159 : (Cond.methodLink "ShellSumModel" 1 (⟨"java/lang/Object", "<init>", "()V"⟩ : MethodName)) ∈ zw := zw_m (zt_2 (i := 159) rfl) rfl
theorem zw_2_160 : (Cond.fieldLink "ShellSumModel" 55 "ShellSumModel" "code" "I") ∈ zw := zw_m (zt_2 (i := 160) rfl) rfl
theorem zw_2_161 : (Cond.fieldLink "ShellSumModel" 7 "ShellSumModel" "text" "[I") ∈ zw := zw_m (zt_2 (i := 161) rfl) rfl
theorem zw_2_162 : (Cond.fieldLink "ShellSumModel" 13 "ShellSumModel" "sum" "[I") ∈ zw := zw_m (zt_2 (i := 162) rfl) rfl
theorem zw_2_163 : (Cond.fieldLink "ShellSumModel" 72 "ShellSumModel" "size" "I") ∈ zw := zw_m (zt_2 (i := 163) rfl) rfl
theorem zw_2_164 : (Cond.fieldLink "ShellSumModel" 111 "ShellSumModel" "length" "I") ∈ zw := zw_m (zt_2 (i := 164) rfl) rfl
theorem zw_2_165 : (Cond.fieldLink "ShellSumModel" 108 "ShellSumModel" "place" "I") ∈ zw := zw_m (zt_2 (i := 165) rfl) rfl
theorem zw_2_166 : (Cond.fieldLink "ShellSumModel" 124 "ShellSumModel" "nest" "I") ∈ zw := zw_m (zt_2 (i := 166) rfl) rfl
theorem zw_2_167 : (Cond.fieldLink "ShellSumModel" 102 "ShellSumModel" "bad" "Z") ∈ zw := zw_m (zt_2 (i := 167) rfl) rfl
theorem zw_2_168 : (Cond.fieldLink "ShellSumModel" 16 "ShellSumModel" "sort" "[I") ∈ zw := zw_m (zt_2 (i := 168) rfl) rfl
theorem zw_2_169 : (Cond.fieldLink "ShellSumModel" 19 "ShellSumModel" "one" "[I") ∈ zw := zw_m (zt_2 (i := 169) rfl) rfl
theorem zw_2_170 : (Cond.fieldLink "ShellSumModel" 22 "ShellSumModel" "two" "[I") ∈ zw := zw_m (zt_2 (i := 170) rfl) rfl
theorem zw_2_171 : (Cond.fieldLink "ShellSumModel" 25 "ShellSumModel" "live" "[Z") ∈ zw := zw_m (zt_2 (i := 171) rfl) rfl
theorem zw_2_172 : (Cond.fieldLink "ShellSumModel" 29 "ShellSumModel" "kept" "[J") ∈ zw := zw_m (zt_2 (i := 172) rfl) rfl
theorem zw_2_173 : (Cond.fieldLink "ShellSumModel" 33 "ShellSumModel" "values" "[J") ∈ zw := zw_m (zt_2 (i := 173) rfl) rfl
theorem zw_2_174 : (Cond.fieldLink "ShellSumModel" 114 "ShellSumModel" "waits" "I") ∈ zw := zw_m (zt_2 (i := 174) rfl) rfl
theorem zw_2_175 : (Cond.fieldLink "ShellSumModel" 121 "ShellSumModel" "high" "I") ∈ zw := zw_m (zt_2 (i := 175) rfl) rfl
theorem zw_2_176 : (Cond.fieldLink "ShellSumModel" 36 "ShellSumModel" "names" "[I") ∈ zw := zw_m (zt_2 (i := 176) rfl) rfl
theorem zw_2_177 : (Cond.fieldLink "ShellSumModel" 39 "ShellSumModel" "texts" "[I") ∈ zw := zw_m (zt_2 (i := 177) rfl) rfl
theorem zw_2_178 : (Cond.fieldLink "ShellSumModel" 42 "ShellSumModel" "nameSize" "[I") ∈ zw := zw_m (zt_2 (i := 178) rfl) rfl
theorem zw_2_179 : (Cond.fieldLink "ShellSumModel" 45 "ShellSumModel" "textSize" "[I") ∈ zw := zw_m (zt_2 (i := 179) rfl) rfl
theorem zw_2_180 : (Cond.fieldLink "ShellSumModel" 79 "ShellSumModel" "many" "I") ∈ zw := zw_m (zt_2 (i := 180) rfl) rfl
theorem zw_2_181 : (Cond.fieldLink "ShellSumModel" 190 "ShellSumModel" "good" "I") ∈ zw := zw_m (zt_2 (i := 181) rfl) rfl
theorem zw_2_182 : (Cond.fieldLink "ShellSumModel" 193 "ShellSumModel" "wrong" "I") ∈ zw := zw_m (zt_2 (i := 182) rfl) rfl
theorem zw_2_183 : (Cond.fieldLink "ShellSumModel" 48 "ShellSumModel" "hand" "[I") ∈ zw := zw_m (zt_2 (i := 183) rfl) rfl
theorem zw_2_184 : (Cond.fieldLink "ShellSumModel" 51 "ShellSumModel" "handSize" "I") ∈ zw := zw_m (zt_2 (i := 184) rfl) rfl
theorem zw_2_185 : (Cond.fieldLink "ShellSumModel" 91 "ShellSumModel" "number" "J") ∈ zw := zw_m (zt_2 (i := 185) rfl) rfl
theorem zw_2_186 : (Cond.lays "ShellSumModel" "ShellSumModel" "code" "I") ∈ zw := zw_m (zt_2 (i := 186) rfl) rfl
theorem zw_2_188 : (Cond.laysFinal "ShellSumModel" "ShellSumModel" "text" "[I") ∈ zw := zw_m (zt_2 (i := 188) rfl) rfl
theorem zw_2_190 : (Cond.laysFinal "ShellSumModel" "ShellSumModel" "sum" "[I") ∈ zw := zw_m (zt_2 (i := 190) rfl) rfl
theorem zw_2_192 : (Cond.lays "ShellSumModel" "ShellSumModel" "size" "I") ∈ zw := zw_m (zt_2 (i := 192) rfl) rfl
theorem zw_2_194 : (Cond.lays "ShellSumModel" "ShellSumModel" "length" "I") ∈ zw := zw_m (zt_2 (i := 194) rfl) rfl
theorem zw_2_196 : (Cond.lays "ShellSumModel" "ShellSumModel" "place" "I") ∈ zw := zw_m (zt_2 (i := 196) rfl) rfl
theorem zw_2_198 : (Cond.lays "ShellSumModel" "ShellSumModel" "nest" "I") ∈ zw := zw_m (zt_2 (i := 198) rfl) rfl
theorem zw_2_200 : (Cond.lays "ShellSumModel" "ShellSumModel" "bad" "Z") ∈ zw := zw_m (zt_2 (i := 200) rfl) rfl
theorem zw_2_202 : (Cond.laysFinal "ShellSumModel" "ShellSumModel" "sort" "[I") ∈ zw := zw_m (zt_2 (i := 202) rfl) rfl
theorem zw_2_204 : (Cond.laysFinal "ShellSumModel" "ShellSumModel" "one" "[I") ∈ zw := zw_m (zt_2 (i := 204) rfl) rfl
theorem zw_2_206 : (Cond.laysFinal "ShellSumModel" "ShellSumModel" "two" "[I") ∈ zw := zw_m (zt_2 (i := 206) rfl) rfl
theorem zw_2_208 : (Cond.laysFinal "ShellSumModel" "ShellSumModel" "live" "[Z") ∈ zw := zw_m (zt_2 (i := 208) rfl) rfl
theorem zw_2_210 : (Cond.laysFinal "ShellSumModel" "ShellSumModel" "kept" "[J") ∈ zw := zw_m (zt_2 (i := 210) rfl) rfl
theorem zw_2_212 : (Cond.laysFinal "ShellSumModel" "ShellSumModel" "values" "[J") ∈ zw := zw_m (zt_2 (i := 212) rfl) rfl
theorem zw_2_214 : (Cond.lays "ShellSumModel" "ShellSumModel" "waits" "I") ∈ zw := zw_m (zt_2 (i := 214) rfl) rfl
theorem zw_2_216 : (Cond.lays "ShellSumModel" "ShellSumModel" "high" "I") ∈ zw := zw_m (zt_2 (i := 216) rfl) rfl
theorem zw_2_218 : (Cond.laysFinal "ShellSumModel" "ShellSumModel" "names" "[I") ∈ zw := zw_m (zt_2 (i := 218) rfl) rfl
theorem zw_2_220 : (Cond.laysFinal "ShellSumModel" "ShellSumModel" "texts" "[I") ∈ zw := zw_m (zt_2 (i := 220) rfl) rfl
theorem zw_2_222 : (Cond.laysFinal "ShellSumModel" "ShellSumModel" "nameSize" "[I") ∈ zw := zw_m (zt_2 (i := 222) rfl) rfl
theorem zw_2_224 : (Cond.laysFinal "ShellSumModel" "ShellSumModel" "textSize" "[I") ∈ zw := zw_m (zt_2 (i := 224) rfl) rfl
theorem zw_2_226 : (Cond.lays "ShellSumModel" "ShellSumModel" "many" "I") ∈ zw := zw_m (zt_2 (i := 226) rfl) rfl
theorem zw_2_228 : (Cond.lays "ShellSumModel" "ShellSumModel" "good" "I") ∈ zw := zw_m (zt_2 (i := 228) rfl) rfl
theorem zw_2_230 : (Cond.lays "ShellSumModel" "ShellSumModel" "wrong" "I") ∈ zw := zw_m (zt_2 (i := 230) rfl) rfl
theorem zw_2_232 : (Cond.laysFinal "ShellSumModel" "ShellSumModel" "hand" "[I") ∈ zw := zw_m (zt_2 (i := 232) rfl) rfl
theorem zw_2_234 : (Cond.lays "ShellSumModel" "ShellSumModel" "handSize" "I") ∈ zw := zw_m (zt_2 (i := 234) rfl) rfl
theorem zw_2_236 : (Cond.lays "ShellSumModel" "ShellSumModel" "number" "J") ∈ zw := zw_m (zt_2 (i := 236) rfl) rfl
theorem zw_2_239 : (Cond.arrayClass .boolean) ∈ zw := zw_m (zt_2 (i := 239) rfl) rfl
theorem zw_3_0 : (Cond.methodLink "ShellSumLaw" 32 yM_thrown) ∈ zw := zw_m (zt_3 (i := 0) rfl) rfl
theorem zw_3_1 : (Cond.instanceMethod yM_thrown) ∈ zw := zw_m (zt_3 (i := 1) rfl) rfl
theorem zw_3_2 : (Cond.selects "ShellSumModel" yM_thrown yM_thrown) ∈ zw := zw_m (zt_3 (i := 2) rfl) rfl
theorem zw_3_3 : (Cond.code yM_thrown prog_7_method_2_code 1 (some .int)) ∈ zw := zw_m (zt_3 (i := 3) rfl) rfl
theorem zw_3_4 : (Cond.methodLink "ShellSumLaw" 25 yM_text) ∈ zw := zw_m (zt_3 (i := 4) rfl) rfl
theorem zw_3_5 : (Cond.instanceMethod yM_text) ∈ zw := zw_m (zt_3 (i := 5) rfl) rfl
theorem zw_3_6 : (Cond.selects "ShellSumModel" yM_text yM_text) ∈ zw := zw_m (zt_3 (i := 6) rfl) rfl
theorem zw_3_7 : (Cond.code yM_text prog_7_method_8_code 5 (some .int)) ∈ zw := zw_m (zt_3 (i := 7) rfl) rfl
theorem zw_3_8 : (Cond.methodLink "ShellSumModel" 68 yM_areTexts) ∈ zw := zw_m (zt_3 (i := 8) rfl) rfl
theorem zw_3_9 : (Cond.static yM_areTexts) ∈ zw := zw_m (zt_3 (i := 9) rfl) rfl
theorem zw_3_10 : (Cond.code yM_areTexts prog_7_method_7_code 5 (some .boolean)) ∈ zw := zw_m (zt_3 (i := 10) rfl) rfl
theorem zw_3_11 : (Cond.methodLink "ShellSumModel" 60 yM_byteOf) ∈ zw := zw_m (zt_3 (i := 11) rfl) rfl
theorem zw_3_12 : (Cond.static yM_byteOf) ∈ zw := zw_m (zt_3 (i := 12) rfl) rfl
theorem zw_3_13 : (Cond.code yM_byteOf prog_7_method_6_code 4 (some .int)) ∈ zw := zw_m (zt_3 (i := 13) rfl) rfl
theorem zw_3_14 : (Cond.constantLong "ShellSumModel" 58 (255)) ∈ zw := zw_m (zt_3 (i := 14) rfl) rfl
theorem zw_3_15 : (Cond.methodLink "ShellSumModel" 64 yM_isText) ∈ zw := zw_m (zt_3 (i := 15) rfl) rfl
theorem zw_3_16 : (Cond.static yM_isText) ∈ zw := zw_m (zt_3 (i := 16) rfl) rfl
theorem zw_3_17 : (Cond.code yM_isText prog_7_method_5_code 1 (some .boolean)) ∈ zw := zw_m (zt_3 (i := 17) rfl) rfl
theorem zw_3_18 : (Cond.methodLink "ShellSumLaw" 40 yM_name) ∈ zw := zw_m (zt_3 (i := 18) rfl) rfl
theorem zw_3_19 : (Cond.instanceMethod yM_name) ∈ zw := zw_m (zt_3 (i := 19) rfl) rfl
theorem zw_3_20 : (Cond.selects "ShellSumModel" yM_name yM_name) ∈ zw := zw_m (zt_3 (i := 20) rfl) rfl
theorem zw_3_21 : (Cond.code yM_name prog_7_method_11_code 6 (some .boolean)) ∈ zw := zw_m (zt_3 (i := 21) rfl) rfl
theorem zw_3_22 : (Cond.methodLink "ShellSumModel" 82 yM_isLetter) ∈ zw := zw_m (zt_3 (i := 22) rfl) rfl
theorem zw_3_23 : (Cond.static yM_isLetter) ∈ zw := zw_m (zt_3 (i := 23) rfl) rfl
theorem zw_3_24 : (Cond.code yM_isLetter prog_7_method_3_code 1 (some .boolean)) ∈ zw := zw_m (zt_3 (i := 24) rfl) rfl
theorem zw_3_25 : (Cond.methodLink "ShellSumModel" 85 yM_isDigit) ∈ zw := zw_m (zt_3 (i := 25) rfl) rfl
theorem zw_3_26 : (Cond.static yM_isDigit) ∈ zw := zw_m (zt_3 (i := 26) rfl) rfl
theorem zw_3_27 : (Cond.code yM_isDigit prog_7_method_4_code 1 (some .boolean)) ∈ zw := zw_m (zt_3 (i := 27) rfl) rfl
theorem zw_3_28 : (Cond.methodLink "ShellSumLaw" 44 yM_put) ∈ zw := zw_m (zt_3 (i := 28) rfl) rfl
theorem zw_3_29 : (Cond.instanceMethod yM_put) ∈ zw := zw_m (zt_3 (i := 29) rfl) rfl
theorem zw_3_30 : (Cond.selects "ShellSumModel" yM_put yM_put) ∈ zw := zw_m (zt_3 (i := 30) rfl) rfl
theorem zw_3_31 : (Cond.code yM_put prog_7_method_12_code 6 (some .boolean)) ∈ zw := zw_m (zt_3 (i := 31) rfl) rfl
theorem zw_3_32 : (Cond.methodLink "ShellSumModel" 88 yM_placeFor) ∈ zw := zw_m (zt_3 (i := 32) rfl) rfl
theorem zw_3_34 : (Cond.instanceMethod yM_placeFor) ∈ zw := zw_m (zt_3 (i := 34) rfl) rfl
theorem zw_3_35 : (Cond.code yM_placeFor prog_7_method_10_code 6 (some .int)) ∈ zw := zw_m (zt_3 (i := 35) rfl) rfl
theorem zw_3_36 : (Cond.methodLink "ShellSumModel" 75 yM_find) ∈ zw := zw_m (zt_3 (i := 36) rfl) rfl
theorem zw_3_38 : (Cond.instanceMethod yM_find) ∈ zw := zw_m (zt_3 (i := 38) rfl) rfl
theorem zw_3_39 : (Cond.code yM_find prog_7_method_9_code 8 (some .int)) ∈ zw := zw_m (zt_3 (i := 39) rfl) rfl
theorem zw_3_40 : (Cond.methodLink "ShellSumLaw" 49 yM_drop) ∈ zw := zw_m (zt_3 (i := 40) rfl) rfl
theorem zw_3_41 : (Cond.instanceMethod yM_drop) ∈ zw := zw_m (zt_3 (i := 41) rfl) rfl
theorem zw_3_42 : (Cond.selects "ShellSumModel" yM_drop yM_drop) ∈ zw := zw_m (zt_3 (i := 42) rfl) rfl
theorem zw_3_43 : (Cond.code yM_drop prog_7_method_13_code 2 (some .boolean)) ∈ zw := zw_m (zt_3 (i := 43) rfl) rfl
theorem zw_3_44 : (Cond.methodLink "ShellSumLaw" 54 yM_letter) ∈ zw := zw_m (zt_3 (i := 44) rfl) rfl
theorem zw_3_45 : (Cond.instanceMethod yM_letter) ∈ zw := zw_m (zt_3 (i := 45) rfl) rfl
theorem zw_3_46 : (Cond.selects "ShellSumModel" yM_letter yM_letter) ∈ zw := zw_m (zt_3 (i := 46) rfl) rfl
theorem zw_3_47 : (Cond.code yM_letter prog_7_method_14_code 3 (some .int)) ∈ zw := zw_m (zt_3 (i := 47) rfl) rfl
theorem zw_3_48 : (Cond.methodLink "ShellSumLaw" 31 yM_value) ∈ zw := zw_m (zt_3 (i := 48) rfl) rfl
theorem zw_3_49 : (Cond.instanceMethod yM_value) ∈ zw := zw_m (zt_3 (i := 49) rfl) rfl
theorem zw_3_50 : (Cond.selects "ShellSumModel" yM_value yM_value) ∈ zw := zw_m (zt_3 (i := 50) rfl) rfl
theorem zw_3_51 : (Cond.code yM_value prog_7_method_35_code 2 (some .long)) ∈ zw := zw_m (zt_3 (i := 51) rfl) rfl
theorem zw_3_52 : (Cond.methodLink "ShellSumModel" 127 yM_sign) ∈ zw := zw_m (zt_3 (i := 52) rfl) rfl
theorem zw_3_54 : (Cond.instanceMethod yM_sign) ∈ zw := zw_m (zt_3 (i := 54) rfl) rfl
theorem zw_3_55 : (Cond.code yM_sign prog_7_method_19_code 1 (some .int)) ∈ zw := zw_m (zt_3 (i := 55) rfl) rfl
theorem zw_3_56 : (Cond.methodLink "ShellSumModel" 143 yM_plain) ∈ zw := zw_m (zt_3 (i := 56) rfl) rfl
theorem zw_3_58 : (Cond.instanceMethod yM_plain) ∈ zw := zw_m (zt_3 (i := 58) rfl) rfl
theorem zw_3_59 : (Cond.code yM_plain prog_7_method_22_code 3 none) ∈ zw := zw_m (zt_3 (i := 59) rfl) rfl
theorem zw_3_60 : (Cond.methodLink "ShellSumModel" 117 yM_wait) ∈ zw := zw_m (zt_3 (i := 60) rfl) rfl
theorem zw_3_62 : (Cond.instanceMethod yM_wait) ∈ zw := zw_m (zt_3 (i := 62) rfl) rfl
theorem zw_3_63 : (Cond.code yM_wait prog_7_method_21_code 7 none) ∈ zw := zw_m (zt_3 (i := 63) rfl) rfl
theorem zw_3_64 : (Cond.methodLink "ShellSumModel" 187 yM_go) ∈ zw := zw_m (zt_3 (i := 64) rfl) rfl
theorem zw_3_66 : (Cond.instanceMethod yM_go) ∈ zw := zw_m (zt_3 (i := 66) rfl) rfl
theorem zw_3_67 : (Cond.code yM_go prog_7_method_34_code 12 none) ∈ zw := zw_m (zt_3 (i := 67) rfl) rfl
theorem zw_3_68 : (Cond.methodLink "ShellSumModel" 170 yM_aSum) ∈ zw := zw_m (zt_3 (i := 68) rfl) rfl
theorem zw_3_70 : (Cond.instanceMethod yM_aSum) ∈ zw := zw_m (zt_3 (i := 70) rfl) rfl
theorem zw_3_71 : (Cond.code yM_aSum prog_7_method_28_code 7 none) ∈ zw := zw_m (zt_3 (i := 71) rfl) rfl
theorem zw_3_72 : (Cond.methodLink "ShellSumModel" 134 yM_nameEnd) ∈ zw := zw_m (zt_3 (i := 72) rfl) rfl
theorem zw_3_74 : (Cond.instanceMethod yM_nameEnd) ∈ zw := zw_m (zt_3 (i := 74) rfl) rfl
theorem zw_3_75 : (Cond.code yM_nameEnd prog_7_method_27_code 2 (some .int)) ∈ zw := zw_m (zt_3 (i := 75) rfl) rfl
theorem zw_3_76 : (Cond.methodLink "ShellSumModel" 137 yM_gives) ∈ zw := zw_m (zt_3 (i := 76) rfl) rfl
theorem zw_3_78 : (Cond.instanceMethod yM_gives) ∈ zw := zw_m (zt_3 (i := 78) rfl) rfl
theorem zw_3_79 : (Cond.code yM_gives prog_7_method_26_code 3 (some .int)) ∈ zw := zw_m (zt_3 (i := 79) rfl) rfl
theorem zw_3_80 : (Cond.methodLink "ShellSumModel" 131 yM_at) ∈ zw := zw_m (zt_3 (i := 80) rfl) rfl
theorem zw_3_82 : (Cond.instanceMethod yM_at) ∈ zw := zw_m (zt_3 (i := 82) rfl) rfl
theorem zw_3_83 : (Cond.code yM_at prog_7_method_20_code 2 (some .int)) ∈ zw := zw_m (zt_3 (i := 83) rfl) rfl
theorem zw_3_84 : (Cond.methodLink "ShellSumModel" 140 yM_inner) ∈ zw := zw_m (zt_3 (i := 84) rfl) rfl
theorem zw_3_86 : (Cond.instanceMethod yM_inner) ∈ zw := zw_m (zt_3 (i := 86) rfl) rfl
theorem zw_3_87 : (Cond.code yM_inner prog_7_method_25_code 1 none) ∈ zw := zw_m (zt_3 (i := 87) rfl) rfl
theorem zw_3_88 : (Cond.methodLink "ShellSumModel" 147 yM_taken) ∈ zw := zw_m (zt_3 (i := 88) rfl) rfl
theorem zw_3_90 : (Cond.instanceMethod yM_taken) ∈ zw := zw_m (zt_3 (i := 90) rfl) rfl
theorem zw_3_91 : (Cond.code yM_taken prog_7_method_24_code 1 (some .long)) ∈ zw := zw_m (zt_3 (i := 91) rfl) rfl
theorem zw_3_92 : (Cond.methodLink "ShellSumModel" 163 yM_keep) ∈ zw := zw_m (zt_3 (i := 92) rfl) rfl
theorem zw_3_94 : (Cond.instanceMethod yM_keep) ∈ zw := zw_m (zt_3 (i := 94) rfl) rfl
theorem zw_3_95 : (Cond.code yM_keep prog_7_method_23_code 3 none) ∈ zw := zw_m (zt_3 (i := 95) rfl) rfl
theorem zw_3_96 : (Cond.methodLink "ShellSumModel" 174 yM_more) ∈ zw := zw_m (zt_3 (i := 96) rfl) rfl
theorem zw_3_98 : (Cond.instanceMethod yM_more) ∈ zw := zw_m (zt_3 (i := 98) rfl) rfl
theorem zw_3_99 : (Cond.code yM_more prog_7_method_31_code 9 none) ∈ zw := zw_m (zt_3 (i := 99) rfl) rfl
theorem zw_3_100 : (Cond.methodLink "ShellSumModel" 167 yM_rank) ∈ zw := zw_m (zt_3 (i := 100) rfl) rfl
theorem zw_3_102 : (Cond.instanceMethod yM_rank) ∈ zw := zw_m (zt_3 (i := 102) rfl) rfl
theorem zw_3_103 : (Cond.code yM_rank prog_7_method_30_code 3 (some .int)) ∈ zw := zw_m (zt_3 (i := 103) rfl) rfl
theorem zw_3_104 : (Cond.methodLink "ShellSumModel" 155 yM_joined) ∈ zw := zw_m (zt_3 (i := 104) rfl) rfl
theorem zw_3_106 : (Cond.instanceMethod yM_joined) ∈ zw := zw_m (zt_3 (i := 106) rfl) rfl
theorem zw_3_107 : (Cond.code yM_joined prog_7_method_32_code 9 (some .long)) ∈ zw := zw_m (zt_3 (i := 107) rfl) rfl
theorem zw_3_108 : (Cond.methodLink "ShellSumModel" 178 yM_term) ∈ zw := zw_m (zt_3 (i := 108) rfl) rfl
theorem zw_3_110 : (Cond.instanceMethod yM_term) ∈ zw := zw_m (zt_3 (i := 110) rfl) rfl
theorem zw_3_111 : (Cond.code yM_term prog_7_method_33_code 4 none) ∈ zw := zw_m (zt_3 (i := 111) rfl) rfl
theorem zw_3_112 : (Cond.methodLink "ShellSumModel" 151 yM_named) ∈ zw := zw_m (zt_3 (i := 112) rfl) rfl
theorem zw_3_114 : (Cond.instanceMethod yM_named) ∈ zw := zw_m (zt_3 (i := 114) rfl) rfl
theorem zw_3_115 : (Cond.code yM_named prog_7_method_17_code 7 (some .long)) ∈ zw := zw_m (zt_3 (i := 115) rfl) rfl
theorem zw_3_116 : (Cond.methodLink "ShellSumModel" 99 yM_numberEnd) ∈ zw := zw_m (zt_3 (i := 116) rfl) rfl
theorem zw_3_118 : (Cond.instanceMethod yM_numberEnd) ∈ zw := zw_m (zt_3 (i := 118) rfl) rfl
theorem zw_3_119 : (Cond.code yM_numberEnd prog_7_method_16_code 10 (some .int)) ∈ zw := zw_m (zt_3 (i := 119) rfl) rfl
theorem zw_3_120 : (Cond.methodLink "ShellSumModel" 95 yM_digitOf) ∈ zw := zw_m (zt_3 (i := 120) rfl) rfl
theorem zw_3_121 : (Cond.static yM_digitOf) ∈ zw := zw_m (zt_3 (i := 121) rfl) rfl
theorem zw_3_122 : (Cond.code yM_digitOf prog_7_method_15_code 1 (some .int)) ∈ zw := zw_m (zt_3 (i := 122) rfl) rfl
theorem zw_3_123 : (Cond.constantLong "ShellSumModel" 181 (-1)) ∈ zw := zw_m (zt_3 (i := 123) rfl) rfl
theorem zw_3_124 : (Cond.methodLink "ShellSumModel" 183 yM_given) ∈ zw := zw_m (zt_3 (i := 124) rfl) rfl
theorem zw_3_126 : (Cond.instanceMethod yM_given) ∈ zw := zw_m (zt_3 (i := 126) rfl) rfl
theorem zw_3_127 : (Cond.code yM_given prog_7_method_29_code 7 none) ∈ zw := zw_m (zt_3 (i := 127) rfl) rfl
theorem zw_3_128 : (Cond.methodLink "ShellSumModel" 159 yM_give) ∈ zw := zw_m (zt_3 (i := 128) rfl) rfl
theorem zw_3_130 : (Cond.instanceMethod yM_give) ∈ zw := zw_m (zt_3 (i := 130) rfl) rfl
theorem zw_3_131 : (Cond.code yM_give prog_7_method_18_code 11 none) ∈ zw := zw_m (zt_3 (i := 131) rfl) rfl
theorem zw_3_132 : (Cond.constantLong "ShellSumModel" 106 (10)) ∈ zw := zw_m (zt_3 (i := 132) rfl) rfl
theorem zw_3_133 : (Cond.methodLink "ShellSumLaw" 58 yM_count) ∈ zw := zw_m (zt_3 (i := 133) rfl) rfl
theorem zw_3_134 : (Cond.instanceMethod yM_count) ∈ zw := zw_m (zt_3 (i := 134) rfl) rfl
theorem zw_3_135 : (Cond.selects "ShellSumModel" yM_count yM_count) ∈ zw := zw_m (zt_3 (i := 135) rfl) rfl
theorem zw_3_136 : (Cond.code yM_count prog_7_method_36_code 3 (some .int)) ∈ zw := zw_m (zt_3 (i := 136) rfl) rfl
theorem zw_3_137 : (Cond.constantLong "ShellSumLaw" 19 (4294967295)) ∈ zw := zw_m (zt_3 (i := 137) rfl) rfl
theorem zw_3_138 : (Cond.sameMethod "java/lang/Throwable" "java/lang/Throwable" "fillInStackTrace" "(I)Ljava/lang/Throwable;") ∈ lw_tbl := zt_3 (i := 138) rfl
theorem zs_S_findOrAdd : Cond.selects "ShellSum$Names" yS_findOrAdd yS_findOrAdd ∈ zw := zw_m (zt_s (i := 0) rfl) rfl
theorem zs_S_find : Cond.selects "ShellSum$Names" yS_find yS_find ∈ zw := zw_m (zt_s (i := 1) rfl) rfl
theorem zs_N_isCalled : Cond.selects "ShellSum$Named" yN_isCalled yN_isCalled ∈ zw := zw_m (zt_s (i := 2) rfl) rfl
theorem zs_S_remove : Cond.selects "ShellSum$Names" yS_remove yS_remove ∈ zw := zw_m (zt_s (i := 3) rfl) rfl
theorem zs_R_manages : Cond.selects "ShellSum$Reckoner" yR_manages yR_manages ∈ zw := zw_m (zt_s (i := 4) rfl) rfl
theorem zs_R_skipBlanks : Cond.selects "ShellSum$Reckoner" yR_skipBlanks yR_skipBlanks ∈ zw := zw_m (zt_s (i := 5) rfl) rfl
theorem zs_R_charAt : Cond.selects "ShellSum$Reckoner" yR_charAt yR_charAt ∈ zw := zw_m (zt_s (i := 6) rfl) rfl
theorem zs_R_expression : Cond.selects "ShellSum$Reckoner" yR_expression yR_expression ∈ zw := zw_m (zt_s (i := 7) rfl) rfl
theorem zs_R_wordEnd : Cond.selects "ShellSum$Reckoner" yR_wordEnd yR_wordEnd ∈ zw := zw_m (zt_s (i := 8) rfl) rfl
theorem zs_R_assignmentSign : Cond.selects "ShellSum$Reckoner" yR_assignmentSign yR_assignmentSign ∈ zw := zw_m (zt_s (i := 9) rfl) rfl
theorem zs_R_assign : Cond.selects "ShellSum$Reckoner" yR_assign yR_assign ∈ zw := zw_m (zt_s (i := 11) rfl) rfl
theorem zs_R_nameValue : Cond.selects "ShellSum$Reckoner" yR_nameValue yR_nameValue ∈ zw := zw_m (zt_s (i := 12) rfl) rfl
theorem zs_N_writeDecimal : Cond.selects "ShellSum$Named" yN_writeDecimal yN_writeDecimal ∈ zw := zw_m (zt_s (i := 13) rfl) rfl
theorem zs_R_choice : Cond.selects "ShellSum$Reckoner" yR_choice yR_choice ∈ zw := zw_m (zt_s (i := 14) rfl) rfl
theorem zs_R_binary : Cond.selects "ShellSum$Reckoner" yR_binary yR_binary ∈ zw := zw_m (zt_s (i := 15) rfl) rfl
theorem zs_R_unary : Cond.selects "ShellSum$Reckoner" yR_unary yR_unary ∈ zw := zw_m (zt_s (i := 16) rfl) rfl
theorem zs_R_expect : Cond.selects "ShellSum$Reckoner" yR_expect yR_expect ∈ zw := zw_m (zt_s (i := 17) rfl) rfl
theorem zs_R_word : Cond.selects "ShellSum$Reckoner" yR_word yR_word ∈ zw := zw_m (zt_s (i := 18) rfl) rfl
theorem zs_R_signOfTwo : Cond.selects "ShellSum$Reckoner" yR_signOfTwo yR_signOfTwo ∈ zw := zw_m (zt_s (i := 19) rfl) rfl
theorem zs_R_settle : Cond.selects "ShellSum$Reckoner" yR_settle yR_settle ∈ zw := zw_m (zt_s (i := 20) rfl) rfl
theorem zs_R_join : Cond.selects "ShellSum$Reckoner" yR_join yR_join ∈ zw := zw_m (zt_s (i := 21) rfl) rfl
theorem zs_R_await : Cond.selects "ShellSum$Reckoner" yR_await yR_await ∈ zw := zw_m (zt_s (i := 22) rfl) rfl
theorem zs_M_placeFor : Cond.selects "ShellSumModel" yM_placeFor yM_placeFor ∈ zw := zw_m (zt_s (i := 23) rfl) rfl
theorem zs_M_find : Cond.selects "ShellSumModel" yM_find yM_find ∈ zw := zw_m (zt_s (i := 24) rfl) rfl
theorem zs_M_sign : Cond.selects "ShellSumModel" yM_sign yM_sign ∈ zw := zw_m (zt_s (i := 25) rfl) rfl
theorem zs_M_plain : Cond.selects "ShellSumModel" yM_plain yM_plain ∈ zw := zw_m (zt_s (i := 26) rfl) rfl
theorem zs_M_wait : Cond.selects "ShellSumModel" yM_wait yM_wait ∈ zw := zw_m (zt_s (i := 27) rfl) rfl
theorem zs_M_go : Cond.selects "ShellSumModel" yM_go yM_go ∈ zw := zw_m (zt_s (i := 28) rfl) rfl
theorem zs_M_aSum : Cond.selects "ShellSumModel" yM_aSum yM_aSum ∈ zw := zw_m (zt_s (i := 29) rfl) rfl
theorem zs_M_nameEnd : Cond.selects "ShellSumModel" yM_nameEnd yM_nameEnd ∈ zw := zw_m (zt_s (i := 30) rfl) rfl
theorem zs_M_gives : Cond.selects "ShellSumModel" yM_gives yM_gives ∈ zw := zw_m (zt_s (i := 31) rfl) rfl
theorem zs_M_at : Cond.selects "ShellSumModel" yM_at yM_at ∈ zw := zw_m (zt_s (i := 32) rfl) rfl
theorem zs_M_inner : Cond.selects "ShellSumModel" yM_inner yM_inner ∈ zw := zw_m (zt_s (i := 33) rfl) rfl
theorem zs_M_taken : Cond.selects "ShellSumModel" yM_taken yM_taken ∈ zw := zw_m (zt_s (i := 34) rfl) rfl
theorem zs_M_keep : Cond.selects "ShellSumModel" yM_keep yM_keep ∈ zw := zw_m (zt_s (i := 35) rfl) rfl
theorem zs_M_more : Cond.selects "ShellSumModel" yM_more yM_more ∈ zw := zw_m (zt_s (i := 36) rfl) rfl
theorem zs_M_rank : Cond.selects "ShellSumModel" yM_rank yM_rank ∈ zw := zw_m (zt_s (i := 37) rfl) rfl
theorem zs_M_joined : Cond.selects "ShellSumModel" yM_joined yM_joined ∈ zw := zw_m (zt_s (i := 38) rfl) rfl
theorem zs_M_term : Cond.selects "ShellSumModel" yM_term yM_term ∈ zw := zw_m (zt_s (i := 39) rfl) rfl
theorem zs_M_named : Cond.selects "ShellSumModel" yM_named yM_named ∈ zw := zw_m (zt_s (i := 40) rfl) rfl
theorem zs_M_numberEnd : Cond.selects "ShellSumModel" yM_numberEnd yM_numberEnd ∈ zw := zw_m (zt_s (i := 41) rfl) rfl
theorem zs_M_given : Cond.selects "ShellSumModel" yM_given yM_given ∈ zw := zw_m (zt_s (i := 42) rfl) rfl
theorem zs_M_give : Cond.selects "ShellSumModel" yM_give yM_give ∈ zw := zw_m (zt_s (i := 43) rfl) rfl
def zn : List Cond := [(Cond.methodLinkNest "ShellSum" 11 yR_init "ShellSum"), (Cond.methodLinkNest "ShellSum$Reckoner" 17 yS_init "ShellSum"), (Cond.fieldLinkNest "ShellSum" 85 "ShellSum$Names" "size" "I" "ShellSum"), (Cond.fieldLinkNest "ShellSum" 16 "ShellSum$Reckoner" "row" "[C" "ShellSum"), (Cond.fieldLinkNest "ShellSum" 21 "ShellSum$Reckoner" "names" "LShellSum$Names;" "ShellSum"), (Cond.fieldLinkNest "ShellSum" 61 "ShellSum$Reckoner" "result" "J" "ShellSum"), (Cond.methodLinkNest "ShellSum" 68 yS_findOrAdd "ShellSum"), (Cond.methodLinkNest "ShellSum$Names" 21 yN_isCalled "ShellSum"), (Cond.methodLinkNest "ShellSum$Names" 29 yN_init "ShellSum"), (Cond.fieldLinkNest "ShellSum" 74 "ShellSum$Named" "row" "[C" "ShellSum"), (Cond.fieldLinkNest "ShellSum$Reckoner" 139 "ShellSum$Named" "row" "[C" "ShellSum"), (Cond.fieldLinkNest "ShellSum" 77 "ShellSum$Named" "length" "I" "ShellSum"), (Cond.fieldLinkNest "ShellSum$Reckoner" 136 "ShellSum$Named" "length" "I" "ShellSum"), (Cond.methodLinkNest "ShellSum" 78 yS_remove "ShellSum"), (Cond.methodLinkNest "ShellSum" 82 yS_find "ShellSum"), (Cond.methodLinkNest "ShellSum" 50 yR_manages "ShellSum"), (Cond.methodLinkNest "ShellSum$Reckoner" 168 yA_isBlank "ShellSum"), (Cond.methodLinkNest "ShellSum$Reckoner" 60 yA_startsName "ShellSum"), (Cond.methodLinkNest "ShellSum$Reckoner" 171 yA_isOfWord "ShellSum"), (Cond.methodLinkNest "ShellSum$Reckoner" 95 yG_rankOf "ShellSum"), (Cond.castable "java/lang/IllegalStateException" "java/lang/IllegalStateException"), (Cond.declares (⟨"java/lang/RuntimeException", "<init>", "()V"⟩ : MethodName)), (Cond.declares (⟨"java/lang/RuntimeException", "<init>", "(Ljava/lang/String;)V"⟩ : MethodName)), (Cond.declares (⟨"java/lang/Exception", "<init>", "()V"⟩ : MethodName)), (Cond.declares (⟨"java/lang/Exception", "<init>", "(Ljava/lang/String;)V"⟩ : MethodName)), (Cond.declares (⟨"java/lang/Throwable", "<init>", "()V"⟩ : MethodName)), (Cond.declares (⟨"java/lang/Throwable", "<init>", "(Ljava/lang/String;)V"⟩ : MethodName)), (Cond.methodLinkNest "ShellSum$Reckoner" 132 yS_find "ShellSum"), (Cond.methodLinkNest "ShellSum$Reckoner" 122 yA_numberIn "ShellSum"), (Cond.methodLinkNest "ShellSum$Reckoner" 140 yG_apply "ShellSum"), (Cond.methodLinkNest "ShellSum$Reckoner" 144 yS_findOrAdd "ShellSum"), (Cond.methodLinkNest "ShellSum$Reckoner" 149 yN_writeDecimal "ShellSum"), (Cond.methodLinkNest "ShellSum$Reckoner" 119 yA_isDigit "ShellSum"), (Cond.methodLinkNest "ShellSum$Reckoner" 155 yG_isSettledBy "ShellSum")]
theorem zn_1_22 : (Cond.methodLinkNest "ShellSum" 11 yR_init "ShellSum") ∈ zn := List.mem_of_getElem? (i := 0) rfl
theorem zn_1_28 : (Cond.methodLinkNest "ShellSum$Reckoner" 17 yS_init "ShellSum") ∈ zn := List.mem_of_getElem? (i := 1) rfl
theorem zn_1_36 : (Cond.fieldLinkNest "ShellSum" 85 "ShellSum$Names" "size" "I" "ShellSum") ∈ zn := List.mem_of_getElem? (i := 2) rfl
theorem zn_1_44 : (Cond.fieldLinkNest "ShellSum" 16 "ShellSum$Reckoner" "row" "[C" "ShellSum") ∈ zn := List.mem_of_getElem? (i := 3) rfl
theorem zn_1_46 : (Cond.fieldLinkNest "ShellSum" 21 "ShellSum$Reckoner" "names" "LShellSum$Names;" "ShellSum") ∈ zn := List.mem_of_getElem? (i := 4) rfl
theorem zn_1_54 : (Cond.fieldLinkNest "ShellSum" 61 "ShellSum$Reckoner" "result" "J" "ShellSum") ∈ zn := List.mem_of_getElem? (i := 5) rfl
theorem zn_1_138 : (Cond.methodLinkNest "ShellSum" 68 yS_findOrAdd "ShellSum") ∈ zn := List.mem_of_getElem? (i := 6) rfl
theorem zn_1_146 : (Cond.methodLinkNest "ShellSum$Names" 21 yN_isCalled "ShellSum") ∈ zn := List.mem_of_getElem? (i := 7) rfl
theorem zn_1_151 : (Cond.methodLinkNest "ShellSum$Names" 29 yN_init "ShellSum") ∈ zn := List.mem_of_getElem? (i := 8) rfl
theorem zn_1_160 : (Cond.fieldLinkNest "ShellSum" 74 "ShellSum$Named" "row" "[C" "ShellSum") ∈ zn := List.mem_of_getElem? (i := 9) rfl
theorem zn_1_161 : (Cond.fieldLinkNest "ShellSum$Reckoner" 139 "ShellSum$Named" "row" "[C" "ShellSum") ∈ zn := List.mem_of_getElem? (i := 10) rfl
theorem zn_1_163 : (Cond.fieldLinkNest "ShellSum" 77 "ShellSum$Named" "length" "I" "ShellSum") ∈ zn := List.mem_of_getElem? (i := 11) rfl
theorem zn_1_164 : (Cond.fieldLinkNest "ShellSum$Reckoner" 136 "ShellSum$Named" "length" "I" "ShellSum") ∈ zn := List.mem_of_getElem? (i := 12) rfl
theorem zn_1_176 : (Cond.methodLinkNest "ShellSum" 78 yS_remove "ShellSum") ∈ zn := List.mem_of_getElem? (i := 13) rfl
theorem zn_1_184 : (Cond.methodLinkNest "ShellSum" 82 yS_find "ShellSum") ∈ zn := List.mem_of_getElem? (i := 14) rfl
theorem zn_1_197 : (Cond.methodLinkNest "ShellSum" 50 yR_manages "ShellSum") ∈ zn := List.mem_of_getElem? (i := 15) rfl
theorem zn_1_210 : (Cond.methodLinkNest "ShellSum$Reckoner" 168 yA_isBlank "ShellSum") ∈ zn := List.mem_of_getElem? (i := 16) rfl
theorem zn_1_215 : (Cond.methodLinkNest "ShellSum$Reckoner" 60 yA_startsName "ShellSum") ∈ zn := List.mem_of_getElem? (i := 17) rfl
theorem zn_1_220 : (Cond.methodLinkNest "ShellSum$Reckoner" 171 yA_isOfWord "ShellSum") ∈ zn := List.mem_of_getElem? (i := 18) rfl
theorem zn_1_228 : (Cond.methodLinkNest "ShellSum$Reckoner" 95 yG_rankOf "ShellSum") ∈ zn := List.mem_of_getElem? (i := 19) rfl
theorem zn_1_235 : (Cond.castable "java/lang/IllegalStateException" "java/lang/IllegalStateException") ∈ zn := List.mem_of_getElem? (i := 20) rfl
theorem zn_1_236 : (Cond.declares (⟨"java/lang/RuntimeException", "<init>", "()V"⟩ : MethodName)) ∈ zn := List.mem_of_getElem? (i := 21) rfl
theorem zn_1_237 : (Cond.declares (⟨"java/lang/RuntimeException", "<init>", "(Ljava/lang/String;)V"⟩ : MethodName)) ∈ zn := List.mem_of_getElem? (i := 22) rfl
theorem zn_1_238 : (Cond.declares (⟨"java/lang/Exception", "<init>", "()V"⟩ : MethodName)) ∈ zn := List.mem_of_getElem? (i := 23) rfl
theorem zn_1_239 : (Cond.declares (⟨"java/lang/Exception", "<init>", "(Ljava/lang/String;)V"⟩ : MethodName)) ∈ zn := List.mem_of_getElem? (i := 24) rfl
theorem zn_2_0 : (Cond.declares (⟨"java/lang/Throwable", "<init>", "()V"⟩ : MethodName)) ∈ zn := List.mem_of_getElem? (i := 25) rfl
theorem zn_2_1 : (Cond.declares (⟨"java/lang/Throwable", "<init>", "(Ljava/lang/String;)V"⟩ : MethodName)) ∈ zn := List.mem_of_getElem? (i := 26) rfl
theorem zn_2_67 : (Cond.methodLinkNest "ShellSum$Reckoner" 132 yS_find "ShellSum") ∈ zn := List.mem_of_getElem? (i := 27) rfl
theorem zn_2_68 : (Cond.methodLinkNest "ShellSum$Reckoner" 122 yA_numberIn "ShellSum") ∈ zn := List.mem_of_getElem? (i := 28) rfl
theorem zn_2_82 : (Cond.methodLinkNest "ShellSum$Reckoner" 140 yG_apply "ShellSum") ∈ zn := List.mem_of_getElem? (i := 29) rfl
theorem zn_2_95 : (Cond.methodLinkNest "ShellSum$Reckoner" 144 yS_findOrAdd "ShellSum") ∈ zn := List.mem_of_getElem? (i := 30) rfl
theorem zn_2_97 : (Cond.methodLinkNest "ShellSum$Reckoner" 149 yN_writeDecimal "ShellSum") ∈ zn := List.mem_of_getElem? (i := 31) rfl
theorem zn_2_131 : (Cond.methodLinkNest "ShellSum$Reckoner" 119 yA_isDigit "ShellSum") ∈ zn := List.mem_of_getElem? (i := 32) rfl
theorem zn_2_145 : (Cond.methodLinkNest "ShellSum$Reckoner" 155 yG_isSettledBy "ShellSum") ∈ zn := List.mem_of_getElem? (i := 33) rfl
theorem zn_t : ∀ w ∈ zn, w ∈ lw_tbl := List.forall_mem_cons.mpr ⟨zw_1_22, List.forall_mem_cons.mpr ⟨zw_1_28, List.forall_mem_cons.mpr ⟨zw_1_36, List.forall_mem_cons.mpr ⟨zw_1_44, List.forall_mem_cons.mpr ⟨zw_1_46, List.forall_mem_cons.mpr ⟨zw_1_54, List.forall_mem_cons.mpr ⟨zw_1_138, List.forall_mem_cons.mpr ⟨zw_1_146, List.forall_mem_cons.mpr ⟨zw_1_151, List.forall_mem_cons.mpr ⟨zw_1_160, List.forall_mem_cons.mpr ⟨zw_1_161, List.forall_mem_cons.mpr ⟨zw_1_163, List.forall_mem_cons.mpr ⟨zw_1_164, List.forall_mem_cons.mpr ⟨zw_1_176, List.forall_mem_cons.mpr ⟨zw_1_184, List.forall_mem_cons.mpr ⟨zw_1_197, List.forall_mem_cons.mpr ⟨zw_1_210, List.forall_mem_cons.mpr ⟨zw_1_215, List.forall_mem_cons.mpr ⟨zw_1_220, List.forall_mem_cons.mpr ⟨zw_1_228, List.forall_mem_cons.mpr ⟨zw_1_235, List.forall_mem_cons.mpr ⟨zw_1_236, List.forall_mem_cons.mpr ⟨zw_1_237, List.forall_mem_cons.mpr ⟨zw_1_238, List.forall_mem_cons.mpr ⟨zw_1_239, List.forall_mem_cons.mpr ⟨zw_2_0, List.forall_mem_cons.mpr ⟨zw_2_1, List.forall_mem_cons.mpr ⟨zw_2_67, List.forall_mem_cons.mpr ⟨zw_2_68, List.forall_mem_cons.mpr ⟨zw_2_82, List.forall_mem_cons.mpr ⟨zw_2_95, List.forall_mem_cons.mpr ⟨zw_2_97, List.forall_mem_cons.mpr ⟨zw_2_131, List.forall_mem_cons.mpr ⟨zw_2_145, fun _ h => absurd h List.not_mem_nil⟩⟩⟩⟩⟩⟩⟩⟩⟩⟩⟩⟩⟩⟩⟩⟩⟩⟩⟩⟩⟩⟩⟩⟩⟩⟩⟩⟩⟩⟩⟩⟩⟩⟩
theorem zn_on : ∀ w ∈ zn, w.onTables = true := List.forall_mem_cons.mpr ⟨rfl, List.forall_mem_cons.mpr ⟨rfl, List.forall_mem_cons.mpr ⟨rfl, List.forall_mem_cons.mpr ⟨rfl, List.forall_mem_cons.mpr ⟨rfl, List.forall_mem_cons.mpr ⟨rfl, List.forall_mem_cons.mpr ⟨rfl, List.forall_mem_cons.mpr ⟨rfl, List.forall_mem_cons.mpr ⟨rfl, List.forall_mem_cons.mpr ⟨rfl, List.forall_mem_cons.mpr ⟨rfl, List.forall_mem_cons.mpr ⟨rfl, List.forall_mem_cons.mpr ⟨rfl, List.forall_mem_cons.mpr ⟨rfl, List.forall_mem_cons.mpr ⟨rfl, List.forall_mem_cons.mpr ⟨rfl, List.forall_mem_cons.mpr ⟨rfl, List.forall_mem_cons.mpr ⟨rfl, List.forall_mem_cons.mpr ⟨rfl, List.forall_mem_cons.mpr ⟨rfl, List.forall_mem_cons.mpr ⟨rfl, List.forall_mem_cons.mpr ⟨rfl, List.forall_mem_cons.mpr ⟨rfl, List.forall_mem_cons.mpr ⟨rfl, List.forall_mem_cons.mpr ⟨rfl, List.forall_mem_cons.mpr ⟨rfl, List.forall_mem_cons.mpr ⟨rfl, List.forall_mem_cons.mpr ⟨rfl, List.forall_mem_cons.mpr ⟨rfl, List.forall_mem_cons.mpr ⟨rfl, List.forall_mem_cons.mpr ⟨rfl, List.forall_mem_cons.mpr ⟨rfl, List.forall_mem_cons.mpr ⟨rfl, List.forall_mem_cons.mpr ⟨rfl, fun _ h => absurd h List.not_mem_nil⟩⟩⟩⟩⟩⟩⟩⟩⟩⟩⟩⟩⟩⟩⟩⟩⟩⟩⟩⟩⟩⟩⟩⟩⟩⟩⟩⟩⟩⟩⟩⟩⟩⟩
/-- the words of zn hold at U -/
def zN (U : State) : Prop := ∀ w ∈ zn, va_Nw w U
theorem zN.warm {s U : State} (hW : s.WarmedH U.vm) (h : zN s) : zN U := fun w hw => (show ∀ w ∈ zn, va_Nw w s → va_Nw w U from List.forall_mem_cons.mpr ⟨va_Nw.warmM hW, List.forall_mem_cons.mpr ⟨va_Nw.warmM hW, List.forall_mem_cons.mpr ⟨va_Nw.warmF hW, List.forall_mem_cons.mpr ⟨va_Nw.warmF hW, List.forall_mem_cons.mpr ⟨va_Nw.warmF hW, List.forall_mem_cons.mpr ⟨va_Nw.warmF hW, List.forall_mem_cons.mpr ⟨va_Nw.warmM hW, List.forall_mem_cons.mpr ⟨va_Nw.warmM hW, List.forall_mem_cons.mpr ⟨va_Nw.warmM hW, List.forall_mem_cons.mpr ⟨va_Nw.warmF hW, List.forall_mem_cons.mpr ⟨va_Nw.warmF hW, List.forall_mem_cons.mpr ⟨va_Nw.warmF hW, List.forall_mem_cons.mpr ⟨va_Nw.warmF hW, List.forall_mem_cons.mpr ⟨va_Nw.warmM hW, List.forall_mem_cons.mpr ⟨va_Nw.warmM hW, List.forall_mem_cons.mpr ⟨va_Nw.warmM hW, List.forall_mem_cons.mpr ⟨va_Nw.warmM hW, List.forall_mem_cons.mpr ⟨va_Nw.warmM hW, List.forall_mem_cons.mpr ⟨va_Nw.warmM hW, List.forall_mem_cons.mpr ⟨va_Nw.warmM hW, List.forall_mem_cons.mpr ⟨va_Nw.warmC hW, List.forall_mem_cons.mpr ⟨va_Nw.warmD hW, List.forall_mem_cons.mpr ⟨va_Nw.warmD hW, List.forall_mem_cons.mpr ⟨va_Nw.warmD hW, List.forall_mem_cons.mpr ⟨va_Nw.warmD hW, List.forall_mem_cons.mpr ⟨va_Nw.warmD hW, List.forall_mem_cons.mpr ⟨va_Nw.warmD hW, List.forall_mem_cons.mpr ⟨va_Nw.warmM hW, List.forall_mem_cons.mpr ⟨va_Nw.warmM hW, List.forall_mem_cons.mpr ⟨va_Nw.warmM hW, List.forall_mem_cons.mpr ⟨va_Nw.warmM hW, List.forall_mem_cons.mpr ⟨va_Nw.warmM hW, List.forall_mem_cons.mpr ⟨va_Nw.warmM hW, List.forall_mem_cons.mpr ⟨va_Nw.warmM hW, fun _ h => absurd h List.not_mem_nil⟩⟩⟩⟩⟩⟩⟩⟩⟩⟩⟩⟩⟩⟩⟩⟩⟩⟩⟩⟩⟩⟩⟩⟩⟩⟩⟩⟩⟩⟩⟩⟩⟩⟩) w hw (h w hw)
theorem zu_A : ∀ w ∈ u_ws "ShellSum" TA 8, w ∈ zw := by
  show ∀ w ∈ [u_lay "ShellSum" TA 0, u_lay "ShellSum" TA 1, u_lay "ShellSum" TA 2, u_lay "ShellSum" TA 3, u_lay "ShellSum" TA 4, u_lay "ShellSum" TA 5, u_lay "ShellSum" TA 6, u_lay "ShellSum" TA 7], w ∈ zw
  exact List.forall_mem_cons.mpr ⟨zw_1_84, List.forall_mem_cons.mpr ⟨zw_1_86, List.forall_mem_cons.mpr ⟨zw_1_88, List.forall_mem_cons.mpr ⟨zw_1_90, List.forall_mem_cons.mpr ⟨zw_1_92, List.forall_mem_cons.mpr ⟨zw_1_94, List.forall_mem_cons.mpr ⟨zw_1_96, List.forall_mem_cons.mpr ⟨zw_1_98, fun _ h => absurd h List.not_mem_nil⟩⟩⟩⟩⟩⟩⟩⟩
theorem zu_N : ∀ w ∈ u_ws "ShellSum$Named" TN 3, w ∈ zw := by
  show ∀ w ∈ [u_lay "ShellSum$Named" TN 0, u_lay "ShellSum$Named" TN 1, u_lay "ShellSum$Named" TN 2], w ∈ zw
  exact List.forall_mem_cons.mpr ⟨zw_1_165, List.forall_mem_cons.mpr ⟨zw_1_167, List.forall_mem_cons.mpr ⟨zw_1_169, fun _ h => absurd h List.not_mem_nil⟩⟩⟩
theorem zu_S : ∀ w ∈ u_ws "ShellSum$Names" TS 2, w ∈ zw := by
  show ∀ w ∈ [u_lay "ShellSum$Names" TS 0, u_lay "ShellSum$Names" TS 1], w ∈ zw
  exact List.forall_mem_cons.mpr ⟨zw_1_37, List.forall_mem_cons.mpr ⟨zw_1_39, fun _ h => absurd h List.not_mem_nil⟩⟩
theorem zu_R : ∀ w ∈ u_ws "ShellSum$Reckoner" TR 9, w ∈ zw := by
  show ∀ w ∈ [u_lay "ShellSum$Reckoner" TR 0, u_lay "ShellSum$Reckoner" TR 1, u_lay "ShellSum$Reckoner" TR 2, u_lay "ShellSum$Reckoner" TR 3, u_lay "ShellSum$Reckoner" TR 4, u_lay "ShellSum$Reckoner" TR 5, u_lay "ShellSum$Reckoner" TR 6, u_lay "ShellSum$Reckoner" TR 7, u_lay "ShellSum$Reckoner" TR 8], w ∈ zw
  exact List.forall_mem_cons.mpr ⟨zw_1_55, List.forall_mem_cons.mpr ⟨zw_1_57, List.forall_mem_cons.mpr ⟨zw_1_59, List.forall_mem_cons.mpr ⟨zw_1_61, List.forall_mem_cons.mpr ⟨zw_1_63, List.forall_mem_cons.mpr ⟨zw_1_65, List.forall_mem_cons.mpr ⟨zw_1_67, List.forall_mem_cons.mpr ⟨zw_1_69, List.forall_mem_cons.mpr ⟨zw_1_71, fun _ h => absurd h List.not_mem_nil⟩⟩⟩⟩⟩⟩⟩⟩⟩
theorem zu_M : ∀ w ∈ u_ws "ShellSumModel" TM 26, w ∈ zw := by
  show ∀ w ∈ [u_lay "ShellSumModel" TM 0, u_lay "ShellSumModel" TM 1, u_lay "ShellSumModel" TM 2, u_lay "ShellSumModel" TM 3, u_lay "ShellSumModel" TM 4, u_lay "ShellSumModel" TM 5, u_lay "ShellSumModel" TM 6, u_lay "ShellSumModel" TM 7, u_lay "ShellSumModel" TM 8, u_lay "ShellSumModel" TM 9, u_lay "ShellSumModel" TM 10, u_lay "ShellSumModel" TM 11, u_lay "ShellSumModel" TM 12, u_lay "ShellSumModel" TM 13, u_lay "ShellSumModel" TM 14, u_lay "ShellSumModel" TM 15, u_lay "ShellSumModel" TM 16, u_lay "ShellSumModel" TM 17, u_lay "ShellSumModel" TM 18, u_lay "ShellSumModel" TM 19, u_lay "ShellSumModel" TM 20, u_lay "ShellSumModel" TM 21, u_lay "ShellSumModel" TM 22, u_lay "ShellSumModel" TM 23, u_lay "ShellSumModel" TM 24, u_lay "ShellSumModel" TM 25], w ∈ zw
  exact List.forall_mem_cons.mpr ⟨zw_2_186, List.forall_mem_cons.mpr ⟨zw_2_188, List.forall_mem_cons.mpr ⟨zw_2_190, List.forall_mem_cons.mpr ⟨zw_2_192, List.forall_mem_cons.mpr ⟨zw_2_194, List.forall_mem_cons.mpr ⟨zw_2_196, List.forall_mem_cons.mpr ⟨zw_2_198, List.forall_mem_cons.mpr ⟨zw_2_200, List.forall_mem_cons.mpr ⟨zw_2_202, List.forall_mem_cons.mpr ⟨zw_2_204, List.forall_mem_cons.mpr ⟨zw_2_206, List.forall_mem_cons.mpr ⟨zw_2_208, List.forall_mem_cons.mpr ⟨zw_2_210, List.forall_mem_cons.mpr ⟨zw_2_212, List.forall_mem_cons.mpr ⟨zw_2_214, List.forall_mem_cons.mpr ⟨zw_2_216, List.forall_mem_cons.mpr ⟨zw_2_218, List.forall_mem_cons.mpr ⟨zw_2_220, List.forall_mem_cons.mpr ⟨zw_2_222, List.forall_mem_cons.mpr ⟨zw_2_224, List.forall_mem_cons.mpr ⟨zw_2_226, List.forall_mem_cons.mpr ⟨zw_2_228, List.forall_mem_cons.mpr ⟨zw_2_230, List.forall_mem_cons.mpr ⟨zw_2_232, List.forall_mem_cons.mpr ⟨zw_2_234, List.forall_mem_cons.mpr ⟨zw_2_236, fun _ h => absurd h List.not_mem_nil⟩⟩⟩⟩⟩⟩⟩⟩⟩⟩⟩⟩⟩⟩⟩⟩⟩⟩⟩⟩⟩⟩⟩⟩⟩⟩
theorem zg_c {y : Cond} (hy : y ∈ zw) : GoodIn zw (y :: zw) := fun w h => (List.mem_cons.mp h).elim (fun e => e ▸ ⟨hy, good_of_word (zw_g hy)⟩) (fun h => ⟨h, good_of_word (zw_g h)⟩)
theorem zg_a {us ws : List Cond} (hu : ∀ w ∈ us, w ∈ zw) (hw : GoodIn zw ws) : GoodIn zw (us ++ ws) := fun w h => (List.mem_append.mp h).elim (fun h => ⟨hu w h, good_of_word (zw_g (hu w h))⟩) (hw w)
theorem zg_V {a b c d y : Cond} (ha : a ∈ zw) (hb : b ∈ zw) (hc : c ∈ zw) (hd : d ∈ zw) (hy : y ∈ zw) : GoodIn zw ([a, b, c, d] ++ (y :: zw)) := zg_a (List.forall_mem_cons.mpr ⟨ha, List.forall_mem_cons.mpr ⟨hb, List.forall_mem_cons.mpr ⟨hc, List.forall_mem_cons.mpr ⟨hd, fun _ h => absurd h List.not_mem_nil⟩⟩⟩⟩) (zg_c hy)
theorem zg_S {a b c y : Cond} (ha : a ∈ zw) (hb : b ∈ zw) (hc : c ∈ zw) (hy : y ∈ zw) : GoodIn zw ([a, b, c] ++ (y :: zw)) := zg_a (List.forall_mem_cons.mpr ⟨ha, List.forall_mem_cons.mpr ⟨hb, List.forall_mem_cons.mpr ⟨hc, fun _ h => absurd h List.not_mem_nil⟩⟩⟩) (zg_c hy)
abbrev wsA_init : List Cond := .code yA_init cA_init 1 none :: zw
abbrev wsR_init : List Cond := .code yR_init cR_init 1 none :: zw
abbrev wsS_init : List Cond := .code yS_init cS_init 1 none :: zw
abbrev wsA_text : List Cond := .code yA_text cA_text 4 (some .int) :: zw
abbrev wsA_areOfText : List Cond := .code yA_areOfText cA_areOfText 5 (some .boolean) :: zw
abbrev wsA_byteAt : List Cond := .code yA_byteAt cA_byteAt 4 (some .char) :: zw
abbrev wsA_isBlank : List Cond := .code yA_isBlank cA_isBlank 1 (some .boolean) :: zw
abbrev wsA_unpack : List Cond := .code yA_unpack cA_unpack 6 none :: zw
abbrev wsA_name : List Cond := .code yA_name cA_name 4 (some .boolean) :: zw
abbrev wsA_areName : List Cond := .code yA_areName cA_areName 4 (some .boolean) :: zw
abbrev wsA_startsName : List Cond := .code yA_startsName cA_startsName 1 (some .boolean) :: zw
abbrev wsA_isOfWord : List Cond := .code yA_isOfWord cA_isOfWord 1 (some .boolean) :: zw
abbrev wsA_isDigit : List Cond := .code yA_isDigit cA_isDigit 1 (some .boolean) :: zw
abbrev wsA_put : List Cond := .code yA_put cA_put 5 (some .boolean) :: zw
abbrev wsS_findOrAdd : List Cond := .code yS_findOrAdd cS_findOrAdd 6 (some (.object "ShellSum$Named")) :: zw
abbrev wsS_find : List Cond := .code yS_find cS_find 6 (some (.object "ShellSum$Named")) :: zw
abbrev wsN_isCalled : List Cond := .code yN_isCalled cN_isCalled 5 (some .boolean) :: zw
abbrev wsN_init : List Cond := .code yN_init cN_init 5 none :: zw
abbrev wsA_drop : List Cond := .code yA_drop cA_drop 1 (some .boolean) :: zw
abbrev wsS_remove : List Cond := .code yS_remove cS_remove 6 (some .boolean) :: zw
abbrev wsA_letter : List Cond := .code yA_letter cA_letter 3 (some .int) :: zw
abbrev wsA_count : List Cond := .code yA_count cA_count 3 (some .int) :: zw
abbrev wsL_value : List Cond := .codeWith yL_value cL_value 3 (some .int) [(0, 7, 10, 13)] :: zw
abbrev wsA_value : List Cond := .code yA_value cA_value 2 (some .long) :: zw
abbrev wsR_manages : List Cond := .codeWith yR_manages cR_manages 3 (some .boolean) [(42, 51, 54, 54)] :: zw
abbrev wsR_skipBlanks : List Cond := .code yR_skipBlanks cR_skipBlanks 2 none :: zw
abbrev wsR_charAt : List Cond := .code yR_charAt cR_charAt 2 (some .char) :: zw
abbrev wsR_expression : List Cond := .code yR_expression cR_expression 7 (some .long) :: zw
abbrev wsR_wordEnd : List Cond := .code yR_wordEnd cR_wordEnd 3 (some .int) :: zw
abbrev wsR_assignmentSign : List Cond := .code yR_assignmentSign cR_assignmentSign 4 (some .int) :: zw
abbrev wsR_isShift : List Cond := .code yR_isShift cR_isShift 1 (some .boolean) :: zw
abbrev wsG_rankOf : List Cond := .code yG_rankOf cG_rankOf 1 (some .int) :: zw
abbrev wsR_deeper : List Cond := .code yR_deeper cR_deeper 1 (some .int) :: zw
abbrev wsR_assign : List Cond := .code yR_assign cR_assign 9 (some .long) :: zw
abbrev wsR_nameValue : List Cond := .code yR_nameValue cR_nameValue 4 (some .long) :: zw
abbrev wsA_numberIn : List Cond := .code yA_numberIn cA_numberIn 9 (some .long) :: zw
abbrev wsA_baseOf : List Cond := .code yA_baseOf cA_baseOf 2 (some .int) :: zw
abbrev wsA_digitOf : List Cond := .code yA_digitOf cA_digitOf 1 (some .int) :: zw
abbrev wsG_apply : List Cond := .code yG_apply cG_apply 5 (some .long) :: zw
abbrev wsG_divide : List Cond := .code yG_divide cG_divide 5 (some .long) :: zw
abbrev wsG_holds : List Cond := .code yG_holds cG_holds 5 (some .boolean) :: zw
abbrev wsN_writeDecimal : List Cond := .code yN_writeDecimal cN_writeDecimal 6 none :: zw
abbrev wsN_decimalLength : List Cond := .code yN_decimalLength cN_decimalLength 5 (some .int) :: zw
abbrev wsR_choice : List Cond := .code yR_choice cR_choice 11 (some .long) :: zw
abbrev wsR_binary : List Cond := .code yR_binary cR_binary 9 (some .long) :: zw
abbrev wsR_unary : List Cond := .code yR_unary cR_unary 5 (some .long) :: zw
abbrev wsR_expect : List Cond := .code yR_expect cR_expect 2 none :: zw
abbrev wsR_word : List Cond := .code yR_word cR_word 3 (some .long) :: zw
abbrev wsR_signOfTwo : List Cond := .code yR_signOfTwo cR_signOfTwo 3 (some .int) :: zw
abbrev wsR_settle : List Cond := .code yR_settle cR_settle 9 (some .long) :: zw
abbrev wsR_join : List Cond := .code yR_join cR_join 6 (some .long) :: zw
abbrev wsG_isSettledBy : List Cond := .code yG_isSettledBy cG_isSettledBy 3 (some .boolean) :: zw
abbrev wsR_await : List Cond := .code yR_await cR_await 4 none :: zw
abbrev wsM_init : List Cond := .code yM_init cM_init 1 none :: zw
abbrev wsM_thrown : List Cond := .code yM_thrown cM_thrown 1 (some .int) :: zw
abbrev wsM_text : List Cond := .code yM_text cM_text 5 (some .int) :: zw
abbrev wsM_areTexts : List Cond := .code yM_areTexts cM_areTexts 5 (some .boolean) :: zw
abbrev wsM_byteOf : List Cond := .code yM_byteOf cM_byteOf 4 (some .int) :: zw
abbrev wsM_isText : List Cond := .code yM_isText cM_isText 1 (some .boolean) :: zw
abbrev wsM_name : List Cond := .code yM_name cM_name 6 (some .boolean) :: zw
abbrev wsM_isLetter : List Cond := .code yM_isLetter cM_isLetter 1 (some .boolean) :: zw
abbrev wsM_isDigit : List Cond := .code yM_isDigit cM_isDigit 1 (some .boolean) :: zw
abbrev wsM_put : List Cond := .code yM_put cM_put 6 (some .boolean) :: zw
abbrev wsM_placeFor : List Cond := .code yM_placeFor cM_placeFor 6 (some .int) :: zw
abbrev wsM_find : List Cond := .code yM_find cM_find 8 (some .int) :: zw
abbrev wsM_drop : List Cond := .code yM_drop cM_drop 2 (some .boolean) :: zw
abbrev wsM_letter : List Cond := .code yM_letter cM_letter 3 (some .int) :: zw
abbrev wsM_value : List Cond := .code yM_value cM_value 2 (some .long) :: zw
abbrev wsM_sign : List Cond := .code yM_sign cM_sign 1 (some .int) :: zw
abbrev wsM_plain : List Cond := .code yM_plain cM_plain 3 none :: zw
abbrev wsM_wait : List Cond := .code yM_wait cM_wait 7 none :: zw
abbrev wsM_go : List Cond := .code yM_go cM_go 12 none :: zw
abbrev wsM_aSum : List Cond := .code yM_aSum cM_aSum 7 none :: zw
abbrev wsM_nameEnd : List Cond := .code yM_nameEnd cM_nameEnd 2 (some .int) :: zw
abbrev wsM_gives : List Cond := .code yM_gives cM_gives 3 (some .int) :: zw
abbrev wsM_at : List Cond := .code yM_at cM_at 2 (some .int) :: zw
abbrev wsM_inner : List Cond := .code yM_inner cM_inner 1 none :: zw
abbrev wsM_taken : List Cond := .code yM_taken cM_taken 1 (some .long) :: zw
abbrev wsM_keep : List Cond := .code yM_keep cM_keep 3 none :: zw
abbrev wsM_more : List Cond := .code yM_more cM_more 9 none :: zw
abbrev wsM_rank : List Cond := .code yM_rank cM_rank 3 (some .int) :: zw
abbrev wsM_joined : List Cond := .code yM_joined cM_joined 9 (some .long) :: zw
abbrev wsM_term : List Cond := .code yM_term cM_term 4 none :: zw
abbrev wsM_named : List Cond := .code yM_named cM_named 7 (some .long) :: zw
abbrev wsM_numberEnd : List Cond := .code yM_numberEnd cM_numberEnd 10 (some .int) :: zw
abbrev wsM_digitOf : List Cond := .code yM_digitOf cM_digitOf 1 (some .int) :: zw
abbrev wsM_given : List Cond := .code yM_given cM_given 7 none :: zw
abbrev wsM_give : List Cond := .code yM_give cM_give 11 none :: zw
abbrev wsM_count : List Cond := .code yM_count cM_count 3 (some .int) :: zw
