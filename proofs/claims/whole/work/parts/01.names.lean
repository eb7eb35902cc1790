/-! NAMES: classes, fields, methods, words. Printed by wip/gen/names.py out of the listing and the Statement. -/
def RX0 : String := "PaperStates$Move"
def TX0 : u_T := fun k => match k with
  | 0 => ("PaperStates$Move", "notice", "I", true)
  | 1 => ("PaperStates$Move", "grams", "J", true)
  | 2 => ("PaperStates$Move", "day", "I", true)
  | 3 => ("PaperStates$Move", "carriers", "[I", true)
  | 4 => ("PaperStates$Move", "carrierCount", "I", false)
  | 5 => ("PaperStates$Move", "state", "I", false)
  | 6 => ("PaperStates$Move", "since", "I", false)
  | _ => ("PaperStates$Move", "marked", "Z", false)
def tyX0 : Nat → FieldType := fun k => match k with
  | 0 => .int
  | 1 => .long
  | 2 => .int
  | 3 => .array .int
  | 4 => .int
  | 5 => .int
  | 6 => .int
  | _ => .boolean
theorem nmX0 : ∀ a, a < 8 → ∀ b, b < 8 → a ≠ b → (TX0 a).2.1 ≠ (TX0 b).2.1 := by decide +kernel
theorem tyX0_ok : ∀ k, k < 8 → parseFieldDescriptor (TX0 k).2.2.1 = some (tyX0 k) := by decide +kernel
def RX1 : String := "PaperStates$Notice"
def TX1 : u_T := fun k => match k with
  | 0 => ("PaperStates$Notice", "grams", "J", true)
  | 1 => ("PaperStates$Notice", "from", "I", true)
  | 2 => ("PaperStates$Notice", "to", "I", true)
  | 3 => ("PaperStates$Notice", "answers", "[I", true)
  | 4 => ("PaperStates$Notice", "askedOn", "[I", true)
  | 5 => ("PaperStates$Notice", "daysOf", "[I", true)
  | _ => ("PaperStates$Notice", "cents", "J", false)
def tyX1 : Nat → FieldType := fun k => match k with
  | 0 => .long
  | 1 => .int
  | 2 => .int
  | 3 => .array .int
  | 4 => .array .int
  | 5 => .array .int
  | _ => .long
theorem nmX1 : ∀ a, a < 7 → ∀ b, b < 7 → a ≠ b → (TX1 a).2.1 ≠ (TX1 b).2.1 := by decide +kernel
theorem tyX1_ok : ∀ k, k < 7 → parseFieldDescriptor (TX1 k).2.2.1 = some (tyX1 k) := by decide +kernel
def RX2 : String := "PaperStates$Paper"
def TX2 : u_T := fun k => match k with
  | 0 => ("PaperStates$Paper", "row", "[B", true)
  | _ => ("PaperStates$Paper", "length", "I", false)
def tyX2 : Nat → FieldType := fun k => match k with
  | 0 => .array .byte
  | _ => .int
theorem nmX2 : ∀ a, a < 2 → ∀ b, b < 2 → a ≠ b → (TX2 a).2.1 ≠ (TX2 b).2.1 := by decide +kernel
theorem tyX2_ok : ∀ k, k < 2 → parseFieldDescriptor (TX2 k).2.2.1 = some (tyX2 k) := by decide +kernel
def RX3 : String := "PaperStates"
def TX3 : u_T := fun k => match k with
  | 0 => ("PaperStates", "notices", "[LPaperStates$Notice;", true)
  | 1 => ("PaperStates", "moves", "[LPaperStates$Move;", true)
  | 2 => ("PaperStates", "rights", "[Z", true)
  | 3 => ("PaperStates", "paper", "LPaperStates$Paper;", true)
  | 4 => ("PaperStates", "noticeCount", "I", false)
  | 5 => ("PaperStates", "moveCount", "I", false)
  | 6 => ("PaperStates", "today", "I", false)
  | _ => ("PaperStates", "limitDays", "I", false)
def tyX3 : Nat → FieldType := fun k => match k with
  | 0 => .array (.object "PaperStates$Notice")
  | 1 => .array (.object "PaperStates$Move")
  | 2 => .array .boolean
  | 3 => .object "PaperStates$Paper"
  | 4 => .int
  | 5 => .int
  | 6 => .int
  | _ => .int
theorem nmX3 : ∀ a, a < 8 → ∀ b, b < 8 → a ≠ b → (TX3 a).2.1 ≠ (TX3 b).2.1 := by decide +kernel
theorem tyX3_ok : ∀ k, k < 8 → parseFieldDescriptor (TX3 k).2.2.1 = some (tyX3 k) := by decide +kernel
def RX4 : String := "PaperStatesModel"
def TX4 : u_T := fun k => match k with
  | 0 => ("PaperStatesModel", "today", "I", false)
  | 1 => ("PaperStatesModel", "notices", "I", false)
  | 2 => ("PaperStatesModel", "weights", "[J", true)
  | 3 => ("PaperStatesModel", "froms", "[I", true)
  | 4 => ("PaperStatesModel", "tos", "[I", true)
  | 5 => ("PaperStatesModel", "cents", "[J", true)
  | 6 => ("PaperStatesModel", "has", "[Z", true)
  | 7 => ("PaperStatesModel", "days", "[I", true)
  | 8 => ("PaperStatesModel", "askedOn", "[I", true)
  | 9 => ("PaperStatesModel", "said", "[I", true)
  | 10 => ("PaperStatesModel", "moves", "I", false)
  | 11 => ("PaperStatesModel", "noticeOf", "[I", true)
  | 12 => ("PaperStatesModel", "grams", "[J", true)
  | 13 => ("PaperStatesModel", "moveDays", "[I", true)
  | 14 => ("PaperStatesModel", "states", "[I", true)
  | 15 => ("PaperStatesModel", "since", "[I", true)
  | 16 => ("PaperStatesModel", "marked", "[Z", true)
  | 17 => ("PaperStatesModel", "carrierCounts", "[I", true)
  | 18 => ("PaperStatesModel", "carriers", "[I", true)
  | 19 => ("PaperStatesModel", "rights", "[Z", true)
  | 20 => ("PaperStatesModel", "limit", "I", false)
  | 21 => ("PaperStatesModel", "rest", "I", false)
  | _ => ("PaperStatesModel", "looked", "I", false)
def tyX4 : Nat → FieldType := fun k => match k with
  | 0 => .int
  | 1 => .int
  | 2 => .array .long
  | 3 => .array .int
  | 4 => .array .int
  | 5 => .array .long
  | 6 => .array .boolean
  | 7 => .array .int
  | 8 => .array .int
  | 9 => .array .int
  | 10 => .int
  | 11 => .array .int
  | 12 => .array .long
  | 13 => .array .int
  | 14 => .array .int
  | 15 => .array .int
  | 16 => .array .boolean
  | 17 => .array .int
  | 18 => .array .int
  | 19 => .array .boolean
  | 20 => .int
  | 21 => .int
  | _ => .int
theorem nmX4 : ∀ a, a < 23 → ∀ b, b < 23 → a ≠ b → (TX4 a).2.1 ≠ (TX4 b).2.1 := by decide +kernel
theorem tyX4_ok : ∀ k, k < 23 → parseFieldDescriptor (TX4 k).2.2.1 = some (tyX4 k) := by decide +kernel
def RL : String := "PaperStatesLaw"
abbrev vwCl : List vw_C := [(RX0, TX0, 8), (RX1, TX1, 7), (RX2, TX2, 2), (RX3, TX3, 8), (RX4, TX4, 23)]
abbrev cX3_init : ByteArray := prog_1_method_1_code
def yX3_init : MethodName := ⟨RX3, "<init>", "()V"⟩
abbrev cX3_day : ByteArray := prog_1_method_2_code
def yX3_day : MethodName := ⟨RX3, "day", "(I)I"⟩
abbrev cX3_notice : ByteArray := prog_1_method_3_code
def yX3_notice : MethodName := ⟨RX3, "notice", "(JII)I"⟩
abbrev cX3_country : ByteArray := prog_1_method_4_code
def yX3_country : MethodName := ⟨RX3, "country", "(III)Z"⟩
abbrev cX3_says : ByteArray := prog_1_method_5_code
def yX3_says : MethodName := ⟨RX3, "says", "(IIZ)Z"⟩
abbrev cX3_state : ByteArray := prog_1_method_6_code
def yX3_state : MethodName := ⟨RX3, "state", "(I)I"⟩
abbrev cX3_move : ByteArray := prog_1_method_7_code
def yX3_move : MethodName := ⟨RX3, "move", "(IJI)I"⟩
abbrev cX3_moveState : ByteArray := prog_1_method_8_code
def yX3_moveState : MethodName := ⟨RX3, "moveState", "(I)I"⟩
abbrev cX3_right : ByteArray := prog_1_method_9_code
def yX3_right : MethodName := ⟨RX3, "right", "(IIZ)Z"⟩
abbrev cX3_may : ByteArray := prog_1_method_10_code
def yX3_may : MethodName := ⟨RX3, "may", "(II)Z"⟩
abbrev cX3_event : ByteArray := prog_1_method_11_code
def yX3_event : MethodName := ⟨RX3, "event", "(III)I"⟩
abbrev cX3_mark : ByteArray := prog_1_method_12_code
def yX3_mark : MethodName := ⟨RX3, "mark", "(III)Z"⟩
abbrev cX3_left : ByteArray := prog_1_method_13_code
def yX3_left : MethodName := ⟨RX3, "left", "(I)J"⟩
abbrev cX3_bank : ByteArray := prog_1_method_14_code
def yX3_bank : MethodName := ⟨RX3, "bank", "(IJ)Z"⟩
abbrev cX3_held : ByteArray := prog_1_method_15_code
def yX3_held : MethodName := ⟨RX3, "held", "(I)J"⟩
abbrev cX3_limit : ByteArray := prog_1_method_16_code
def yX3_limit : MethodName := ⟨RX3, "limit", "(I)Z"⟩
abbrev cX3_late : ByteArray := prog_1_method_17_code
def yX3_late : MethodName := ⟨RX3, "late", "(I)I"⟩
abbrev cX3_carrier : ByteArray := prog_1_method_18_code
def yX3_carrier : MethodName := ⟨RX3, "carrier", "(II)I"⟩
abbrev cX3_back : ByteArray := prog_1_method_19_code
def yX3_back : MethodName := ⟨RX3, "back", "(II)I"⟩
abbrev cX3_print : ByteArray := prog_1_method_20_code
def yX3_print : MethodName := ⟨RX3, "print", "(II)I"⟩
abbrev cX3_noticeAt : ByteArray := prog_1_method_21_code
def yX3_noticeAt : MethodName := ⟨RX3, "noticeAt", "(I)LPaperStates$Notice;"⟩
abbrev cX3_moveAt : ByteArray := prog_1_method_22_code
def yX3_moveAt : MethodName := ⟨RX3, "moveAt", "(I)LPaperStates$Move;"⟩
abbrev cX3_isPerson : ByteArray := prog_1_method_23_code
def yX3_isPerson : MethodName := ⟨RX3, "isPerson", "(I)Z"⟩
abbrev cX3_isEvent : ByteArray := prog_1_method_24_code
def yX3_isEvent : MethodName := ⟨RX3, "isEvent", "(I)Z"⟩
abbrev cX3_hasRight : ByteArray := prog_1_method_25_code
def yX3_hasRight : MethodName := ⟨RX3, "hasRight", "(II)Z"⟩
abbrev cX3_nextState : ByteArray := prog_1_method_26_code
def yX3_nextState : MethodName := ⟨RX3, "nextState", "(II)I"⟩
abbrev cX3_canBeTaken : ByteArray := prog_1_method_27_code
def yX3_canBeTaken : MethodName := ⟨RX3, "canBeTaken", "(LPaperStates$Move;)Z"⟩
abbrev cX3_isLate : ByteArray := prog_1_method_28_code
def yX3_isLate : MethodName := ⟨RX3, "isLate", "(LPaperStates$Move;)Z"⟩
abbrev cX3_gramsInMoves : ByteArray := prog_1_method_29_code
def yX3_gramsInMoves : MethodName := ⟨RX3, "gramsInMoves", "(I)J"⟩
abbrev cX3_gramsRecovered : ByteArray := prog_1_method_30_code
def yX3_gramsRecovered : MethodName := ⟨RX3, "gramsRecovered", "(I)J"⟩
abbrev cX3_shareUp : ByteArray := prog_1_method_31_code
def yX3_shareUp : MethodName := ⟨RX3, "shareUp", "(JJJ)J"⟩
abbrev cX3_writeHead : ByteArray := prog_1_method_32_code
def yX3_writeHead : MethodName := ⟨RX3, "writeHead", "(ILPaperStates$Notice;)V"⟩
abbrev cX3_writeMove : ByteArray := prog_1_method_33_code
def yX3_writeMove : MethodName := ⟨RX3, "writeMove", "(ILPaperStates$Move;)V"⟩
abbrev cX4_init : ByteArray := prog_6_method_1_code
def yX4_init : MethodName := ⟨RX4, "<init>", "()V"⟩
abbrev cX4_isIn : ByteArray := prog_6_method_3_code
def yX4_isIn : MethodName := ⟨RX4, "isIn", "(JJJ)Z"⟩
abbrev cX4_isNotice : ByteArray := prog_6_method_4_code
def yX4_isNotice : MethodName := ⟨RX4, "isNotice", "(I)Z"⟩
abbrev cX4_isMove : ByteArray := prog_6_method_5_code
def yX4_isMove : MethodName := ⟨RX4, "isMove", "(I)Z"⟩
abbrev cX4_isCountry : ByteArray := prog_6_method_6_code
def yX4_isCountry : MethodName := ⟨RX4, "isCountry", "(I)Z"⟩
abbrev cX4_isPerson : ByteArray := prog_6_method_7_code
def yX4_isPerson : MethodName := ⟨RX4, "isPerson", "(I)Z"⟩
abbrev cX4_isEvent : ByteArray := prog_6_method_8_code
def yX4_isEvent : MethodName := ⟨RX4, "isEvent", "(I)Z"⟩
abbrev cX4_isSilent : ByteArray := prog_6_method_9_code
def yX4_isSilent : MethodName := ⟨RX4, "isSilent", "(II)Z"⟩
abbrev cX4_day : ByteArray := prog_6_method_10_code
def yX4_day : MethodName := ⟨RX4, "day", "(I)I"⟩
abbrev cX4_notice : ByteArray := prog_6_method_11_code
def yX4_notice : MethodName := ⟨RX4, "notice", "(JII)I"⟩
abbrev cX4_country : ByteArray := prog_6_method_12_code
def yX4_country : MethodName := ⟨RX4, "country", "(III)Z"⟩
abbrev cX4_says : ByteArray := prog_6_method_13_code
def yX4_says : MethodName := ⟨RX4, "says", "(IIZ)Z"⟩
abbrev cX4_state : ByteArray := prog_6_method_14_code
def yX4_state : MethodName := ⟨RX4, "state", "(I)I"⟩
abbrev cX4_move : ByteArray := prog_6_method_15_code
def yX4_move : MethodName := ⟨RX4, "move", "(IJI)I"⟩
abbrev cX4_moveState : ByteArray := prog_6_method_16_code
def yX4_moveState : MethodName := ⟨RX4, "moveState", "(I)I"⟩
abbrev cX4_right : ByteArray := prog_6_method_17_code
def yX4_right : MethodName := ⟨RX4, "right", "(IIZ)Z"⟩
abbrev cX4_may : ByteArray := prog_6_method_18_code
def yX4_may : MethodName := ⟨RX4, "may", "(II)Z"⟩
abbrev cX4_leads : ByteArray := prog_6_method_19_code
def yX4_leads : MethodName := ⟨RX4, "leads", "(II)Z"⟩
abbrev cX4_event : ByteArray := prog_6_method_20_code
def yX4_event : MethodName := ⟨RX4, "event", "(III)I"⟩
abbrev cX4_mark : ByteArray := prog_6_method_21_code
def yX4_mark : MethodName := ⟨RX4, "mark", "(III)Z"⟩
abbrev cX4_left : ByteArray := prog_6_method_22_code
def yX4_left : MethodName := ⟨RX4, "left", "(I)J"⟩
abbrev cX4_bank : ByteArray := prog_6_method_23_code
def yX4_bank : MethodName := ⟨RX4, "bank", "(IJ)Z"⟩
abbrev cX4_held : ByteArray := prog_6_method_24_code
def yX4_held : MethodName := ⟨RX4, "held", "(I)J"⟩
abbrev cX4_limit : ByteArray := prog_6_method_25_code
def yX4_limit : MethodName := ⟨RX4, "limit", "(I)Z"⟩
abbrev cX4_late : ByteArray := prog_6_method_26_code
def yX4_late : MethodName := ⟨RX4, "late", "(I)I"⟩
abbrev cX4_carrier : ByteArray := prog_6_method_27_code
def yX4_carrier : MethodName := ⟨RX4, "carrier", "(II)I"⟩
abbrev cX4_back : ByteArray := prog_6_method_28_code
def yX4_back : MethodName := ⟨RX4, "back", "(II)I"⟩
abbrev cX4_put : ByteArray := prog_6_method_29_code
def yX4_put : MethodName := ⟨RX4, "put", "(I)V"⟩
abbrev cX4_putNumber : ByteArray := prog_6_method_30_code
def yX4_putNumber : MethodName := ⟨RX4, "putNumber", "(J)V"⟩
abbrev cX4_letterOf : ByteArray := prog_6_method_31_code
def yX4_letterOf : MethodName := ⟨RX4, "letterOf", "(I)I"⟩
abbrev cX4_print : ByteArray := prog_6_method_32_code
def yX4_print : MethodName := ⟨RX4, "print", "(II)I"⟩
abbrev cX0_init : ByteArray := prog_2_method_1_code
def yX0_init : MethodName := ⟨RX0, "<init>", "(IJII)V"⟩
abbrev cX0_enter : ByteArray := prog_2_method_2_code
def yX0_enter : MethodName := ⟨RX0, "enter", "(II)V"⟩
abbrev cX0_usesGrams : ByteArray := prog_2_method_3_code
def yX0_usesGrams : MethodName := ⟨RX0, "usesGrams", "()Z"⟩
abbrev cX0_addCarrier : ByteArray := prog_2_method_4_code
def yX0_addCarrier : MethodName := ⟨RX0, "addCarrier", "(I)I"⟩
abbrev cX0_carrierBack : ByteArray := prog_2_method_5_code
def yX0_carrierBack : MethodName := ⟨RX0, "carrierBack", "(I)I"⟩
abbrev cX0_letter : ByteArray := prog_2_method_6_code
def yX0_letter : MethodName := ⟨RX0, "letter", "()C"⟩
abbrev cX1_init : ByteArray := prog_3_method_1_code
def yX1_init : MethodName := ⟨RX1, "<init>", "(JII)V"⟩
abbrev cX1_covers : ByteArray := prog_3_method_2_code
def yX1_covers : MethodName := ⟨RX1, "covers", "(I)Z"⟩
abbrev cX1_ask : ByteArray := prog_3_method_3_code
def yX1_ask : MethodName := ⟨RX1, "ask", "(III)Z"⟩
abbrev cX1_answer : ByteArray := prog_3_method_4_code
def yX1_answer : MethodName := ⟨RX1, "answer", "(IZ)Z"⟩
abbrev cX1_agreeSilently : ByteArray := prog_3_method_5_code
def yX1_agreeSilently : MethodName := ⟨RX1, "agreeSilently", "(I)I"⟩
abbrev cX1_stateOn : ByteArray := prog_3_method_6_code
def yX1_stateOn : MethodName := ⟨RX1, "stateOn", "(I)I"⟩
abbrev cX1_countOf : ByteArray := prog_3_method_7_code
def yX1_countOf : MethodName := ⟨RX1, "countOf", "(I)I"⟩
abbrev cX2_init : ByteArray := prog_4_method_1_code
def yX2_init : MethodName := ⟨RX2, "<init>", "()V"⟩
abbrev cX2_clear : ByteArray := prog_4_method_2_code
def yX2_clear : MethodName := ⟨RX2, "clear", "()V"⟩
abbrev cX2_add : ByteArray := prog_4_method_3_code
def yX2_add : MethodName := ⟨RX2, "add", "(C)V"⟩
abbrev cX2_addNumber : ByteArray := prog_4_method_4_code
def yX2_addNumber : MethodName := ⟨RX2, "addNumber", "(J)V"⟩
abbrev cX2_byteAt : ByteArray := prog_4_method_5_code
def yX2_byteAt : MethodName := ⟨RX2, "byteAt", "(I)I"⟩
/-- the words that hold on in every state that a call can come to -/
def wg : List Cond := lw_tbl.filter goodWord
theorem wg_good {w : Cond} (h : w ∈ wg) : (w.onTables && w.keeps) = true ∨ ∃ ty, w = .arrayClass ty := good_of_word (List.mem_filter.mp h).2
theorem wg_t {w : Cond} {i : Nat} (h : tables_1[i]? = some w) (hg : goodWord w = true) : w ∈ wg := List.mem_filter.mpr ⟨List.mem_append_right _ (List.mem_of_getElem? h), hg⟩
theorem wg_s {w : Cond} {i : Nat} (h : (k2_sels lw_privs)[i]? = some w) (hg : goodWord w = true) : w ∈ wg := List.mem_filter.mpr ⟨List.mem_append_left _ (List.mem_of_getElem? h), hg⟩
theorem wg_in {ws : List Cond} (h : ∀ w ∈ ws, w ∈ wg) : GoodIn wg ws := fun w hw => ⟨h w hw, wg_good (h w hw)⟩
theorem wg_self : GoodIn wg wg := wg_in fun _ h => h
theorem wg_I {co : Cond} (h5 : co ∈ wg) : GoodIn wg (co :: wg) := wg_in fun w hw => by
  rcases List.mem_cons.mp hw with h | h
  · rw [h]; exact h5
  · exact h
theorem wg_V {own C : String} {idx : Nat} {y : MethodName} {co : Cond} (h1 : Cond.methodLink own idx y ∈ wg) (h2 : Cond.instanceMethod y ∈ wg) (h3 : Cond.selects C y y ∈ wg) (h4 : Cond.initialized C ∈ wg) (h5 : co ∈ wg) : GoodIn wg (wsV own idx C y (co :: wg)) := wg_in fun w hw => by
  simp only [wsV, List.cons_append, List.nil_append, List.mem_cons] at hw
  rcases hw with h | h | h | h | h | h
  · rw [h]; exact h1
  · rw [h]; exact h2
  · rw [h]; exact h3
  · rw [h]; exact h4
  · rw [h]; exact h5
  · exact h
theorem wg_S {own : String} {idx : Nat} {y : MethodName} {co : Cond} (h1 : Cond.methodLink own idx y ∈ wg) (h2 : Cond.static y ∈ wg) (h4 : Cond.initialized own ∈ wg) (h5 : co ∈ wg) : GoodIn wg (wsS own idx y (co :: wg)) := wg_in fun w hw => by
  simp only [wsS, List.cons_append, List.nil_append, List.mem_cons] at hw
  rcases hw with h | h | h | h | h
  · rw [h]; exact h1
  · rw [h]; exact h2
  · rw [h]; exact h4
  · rw [h]; exact h5
  · exact h
theorem mw_0 : Cond.initialized RL ∈ wg := wg_t (i := 0) (by decide +kernel) (by decide +kernel)
theorem mw_1 : Cond.initialized RX3 ∈ wg := wg_t (i := 1) (by decide +kernel) (by decide +kernel)
theorem mw_2 : Cond.initialized RX2 ∈ wg := wg_t (i := 2) (by decide +kernel) (by decide +kernel)
theorem mw_3 : Cond.initialized RX4 ∈ wg := wg_t (i := 3) (by decide +kernel) (by decide +kernel)
theorem mw_4 : Cond.initialized RX1 ∈ wg := wg_t (i := 4) (by decide +kernel) (by decide +kernel)
theorem mw_5 : Cond.initialized RX0 ∈ wg := wg_t (i := 5) (by decide +kernel) (by decide +kernel)
theorem mw_6 : Cond.classLink RL (7) RX3 ∈ wg := wg_t (i := 6) (by decide +kernel) (by decide +kernel)
theorem mw_7 : Cond.instantiable RX3 (8) ∈ wg := wg_t (i := 7) (by decide +kernel) (by decide +kernel)
theorem mw_8 : Cond.methodLink RL (9) yX3_init ∈ wg := wg_t (i := 8) (by decide +kernel) (by decide +kernel)
theorem mw_9 : Cond.instanceMethod yX3_init ∈ wg := wg_t (i := 9) (by decide +kernel) (by decide +kernel)
theorem mw_10 : Cond.code yX3_init prog_1_method_1_code (1) (Option.none : Option FieldType) ∈ wg := wg_t (i := 10) (by decide +kernel) (by decide +kernel)
theorem mw_11 : Cond.methodLink RX3 (3) objectInit ∈ wg := wg_t (i := 11) (by decide +kernel) (by decide +kernel)
theorem mw_12 : Cond.instanceMethod objectInit ∈ wg := wg_t (i := 12) (by decide +kernel) (by decide +kernel)
theorem mw_14 : Cond.classLink RX3 (9) RX1 ∈ wg := wg_t (i := 14) (by decide +kernel) (by decide +kernel)
theorem mw_16 : Cond.classLink RX3 (15) RX0 ∈ wg := wg_t (i := 16) (by decide +kernel) (by decide +kernel)
theorem mw_18 : Cond.classLink RX3 (25) RX2 ∈ wg := wg_t (i := 18) (by decide +kernel) (by decide +kernel)
theorem mw_19 : Cond.instantiable RX2 (2) ∈ wg := wg_t (i := 19) (by decide +kernel) (by decide +kernel)
theorem mw_21 : Cond.instanceMethod yX2_init ∈ wg := wg_t (i := 21) (by decide +kernel) (by decide +kernel)
theorem mw_22 : Cond.code yX2_init prog_4_method_1_code (1) (Option.none : Option FieldType) ∈ wg := wg_t (i := 22) (by decide +kernel) (by decide +kernel)
theorem mw_23 : Cond.methodLink RX2 (3) objectInit ∈ wg := wg_t (i := 23) (by decide +kernel) (by decide +kernel)
theorem mw_24 : Cond.fieldLink RX2 (9) "PaperStates$Paper" "row" "[B" ∈ wg := wg_t (i := 24) (by decide +kernel) (by decide +kernel)
theorem mw_25 : Cond.fieldLink RX2 (15) "PaperStates$Paper" "length" "I" ∈ wg := wg_t (i := 25) (by decide +kernel) (by decide +kernel)
theorem mw_31 : Cond.arrayClass FieldType.boolean ∈ wg := wg_t (i := 31) (by decide +kernel) (by decide +kernel)
theorem mw_32 : Cond.arrayClass FieldType.byte ∈ wg := wg_t (i := 32) (by decide +kernel) (by decide +kernel)
theorem mw_33 : Cond.fieldLink RX3 (11) "PaperStates" "notices" "[LPaperStates$Notice;" ∈ wg := wg_t (i := 33) (by decide +kernel) (by decide +kernel)
theorem mw_34 : Cond.fieldLink RX3 (17) "PaperStates" "moves" "[LPaperStates$Move;" ∈ wg := wg_t (i := 34) (by decide +kernel) (by decide +kernel)
theorem mw_35 : Cond.fieldLink RX3 (21) "PaperStates" "rights" "[Z" ∈ wg := wg_t (i := 35) (by decide +kernel) (by decide +kernel)
theorem mw_36 : Cond.fieldLink RX3 (28) "PaperStates" "paper" "LPaperStates$Paper;" ∈ wg := wg_t (i := 36) (by decide +kernel) (by decide +kernel)
theorem mw_37 : Cond.fieldLink RX3 (40) "PaperStates" "noticeCount" "I" ∈ wg := wg_t (i := 37) (by decide +kernel) (by decide +kernel)
theorem mw_38 : Cond.fieldLink RX3 (67) "PaperStates" "moveCount" "I" ∈ wg := wg_t (i := 38) (by decide +kernel) (by decide +kernel)
theorem mw_39 : Cond.fieldLink RX3 (36) "PaperStates" "today" "I" ∈ wg := wg_t (i := 39) (by decide +kernel) (by decide +kernel)
theorem mw_40 : Cond.fieldLink RX3 (32) "PaperStates" "limitDays" "I" ∈ wg := wg_t (i := 40) (by decide +kernel) (by decide +kernel)
theorem mw_58 : Cond.methodLink RL (13) yX3_day ∈ wg := wg_t (i := 58) (by decide +kernel) (by decide +kernel)
theorem mw_59 : Cond.instanceMethod yX3_day ∈ wg := wg_t (i := 59) (by decide +kernel) (by decide +kernel)
theorem mw_60 : Cond.selects RX3 yX3_day yX3_day ∈ wg := wg_t (i := 60) (by decide +kernel) (by decide +kernel)
theorem mw_61 : Cond.code yX3_day prog_1_method_2_code (5) (Option.some FieldType.int) ∈ wg := wg_t (i := 61) (by decide +kernel) (by decide +kernel)
theorem mw_62 : Cond.constant RX3 (39) (100000) ∈ wg := wg_t (i := 62) (by decide +kernel) (by decide +kernel)
theorem mw_63 : Cond.methodLink RX3 (43) yX3_noticeAt ∈ wg := wg_t (i := 63) (by decide +kernel) (by decide +kernel)
theorem mw_65 : Cond.instanceMethod yX3_noticeAt ∈ wg := wg_t (i := 65) (by decide +kernel) (by decide +kernel)
theorem mw_66 : Cond.code yX3_noticeAt prog_1_method_21_code (2) (Option.some (FieldType.object "PaperStates$Notice")) ∈ wg := wg_t (i := 66) (by decide +kernel) (by decide +kernel)
theorem mw_67 : Cond.methodLink RX3 (47) yX1_agreeSilently ∈ wg := wg_t (i := 67) (by decide +kernel) (by decide +kernel)
theorem mw_68 : Cond.instanceMethod yX1_agreeSilently ∈ wg := wg_t (i := 68) (by decide +kernel) (by decide +kernel)
theorem mw_69 : Cond.selects RX1 yX1_agreeSilently yX1_agreeSilently ∈ wg := wg_t (i := 69) (by decide +kernel) (by decide +kernel)
theorem mw_70 : Cond.code yX1_agreeSilently prog_3_method_5_code (4) (Option.some FieldType.int) ∈ wg := wg_t (i := 70) (by decide +kernel) (by decide +kernel)
theorem mw_71 : Cond.methodLink RL (20) yX3_notice ∈ wg := wg_t (i := 71) (by decide +kernel) (by decide +kernel)
theorem mw_72 : Cond.instanceMethod yX3_notice ∈ wg := wg_t (i := 72) (by decide +kernel) (by decide +kernel)
theorem mw_73 : Cond.selects RX3 yX3_notice yX3_notice ∈ wg := wg_t (i := 73) (by decide +kernel) (by decide +kernel)
theorem mw_74 : Cond.code yX3_notice prog_1_method_3_code (6) (Option.some FieldType.int) ∈ wg := wg_t (i := 74) (by decide +kernel) (by decide +kernel)
theorem mw_75 : Cond.constantLong RX3 (51) (1000000000) ∈ wg := wg_t (i := 75) (by decide +kernel) (by decide +kernel)
theorem mw_76 : Cond.instantiable RX1 (7) ∈ wg := wg_t (i := 76) (by decide +kernel) (by decide +kernel)
theorem mw_77 : Cond.methodLink RX3 (53) yX1_init ∈ wg := wg_t (i := 77) (by decide +kernel) (by decide +kernel)
theorem mw_78 : Cond.instanceMethod yX1_init ∈ wg := wg_t (i := 78) (by decide +kernel) (by decide +kernel)
theorem mw_79 : Cond.code yX1_init prog_3_method_1_code (5) (Option.none : Option FieldType) ∈ wg := wg_t (i := 79) (by decide +kernel) (by decide +kernel)
theorem mw_80 : Cond.methodLink RX1 (3) objectInit ∈ wg := wg_t (i := 80) (by decide +kernel) (by decide +kernel)
theorem mw_81 : Cond.fieldLink RX1 (21) "PaperStates$Notice" "grams" "J" ∈ wg := wg_t (i := 81) (by decide +kernel) (by decide +kernel)
theorem mw_82 : Cond.fieldLink RX3 (74) "PaperStates$Notice" "grams" "J" ∈ wg := wg_t (i := 82) (by decide +kernel) (by decide +kernel)
theorem mw_83 : Cond.fieldLink RX1 (25) "PaperStates$Notice" "from" "I" ∈ wg := wg_t (i := 83) (by decide +kernel) (by decide +kernel)
theorem mw_84 : Cond.fieldLink RX3 (181) "PaperStates$Notice" "from" "I" ∈ wg := wg_t (i := 84) (by decide +kernel) (by decide +kernel)
theorem mw_85 : Cond.fieldLink RX1 (29) "PaperStates$Notice" "to" "I" ∈ wg := wg_t (i := 85) (by decide +kernel) (by decide +kernel)
theorem mw_86 : Cond.fieldLink RX3 (184) "PaperStates$Notice" "to" "I" ∈ wg := wg_t (i := 86) (by decide +kernel) (by decide +kernel)
theorem mw_87 : Cond.fieldLink RX1 (9) "PaperStates$Notice" "answers" "[I" ∈ wg := wg_t (i := 87) (by decide +kernel) (by decide +kernel)
theorem mw_88 : Cond.fieldLink RX1 (15) "PaperStates$Notice" "askedOn" "[I" ∈ wg := wg_t (i := 88) (by decide +kernel) (by decide +kernel)
theorem mw_89 : Cond.fieldLink RX1 (18) "PaperStates$Notice" "daysOf" "[I" ∈ wg := wg_t (i := 89) (by decide +kernel) (by decide +kernel)
theorem mw_90 : Cond.fieldLink RX3 (120) "PaperStates$Notice" "cents" "J" ∈ wg := wg_t (i := 90) (by decide +kernel) (by decide +kernel)
theorem mw_106 : Cond.arrayClass FieldType.int ∈ wg := wg_t (i := 106) (by decide +kernel) (by decide +kernel)
theorem mw_107 : Cond.methodLink RL (25) yX3_country ∈ wg := wg_t (i := 107) (by decide +kernel) (by decide +kernel)
theorem mw_108 : Cond.instanceMethod yX3_country ∈ wg := wg_t (i := 108) (by decide +kernel) (by decide +kernel)
theorem mw_109 : Cond.selects RX3 yX3_country yX3_country ∈ wg := wg_t (i := 109) (by decide +kernel) (by decide +kernel)
theorem mw_110 : Cond.code yX3_country prog_1_method_4_code (5) (Option.some FieldType.boolean) ∈ wg := wg_t (i := 110) (by decide +kernel) (by decide +kernel)
theorem mw_111 : Cond.methodLink RX3 (56) yX1_ask ∈ wg := wg_t (i := 111) (by decide +kernel) (by decide +kernel)
theorem mw_112 : Cond.instanceMethod yX1_ask ∈ wg := wg_t (i := 112) (by decide +kernel) (by decide +kernel)
theorem mw_113 : Cond.selects RX1 yX1_ask yX1_ask ∈ wg := wg_t (i := 113) (by decide +kernel) (by decide +kernel)
theorem mw_114 : Cond.code yX1_ask prog_3_method_3_code (4) (Option.some FieldType.boolean) ∈ wg := wg_t (i := 114) (by decide +kernel) (by decide +kernel)
theorem mw_115 : Cond.methodLink RL (30) yX3_says ∈ wg := wg_t (i := 115) (by decide +kernel) (by decide +kernel)
theorem mw_116 : Cond.instanceMethod yX3_says ∈ wg := wg_t (i := 116) (by decide +kernel) (by decide +kernel)
theorem mw_117 : Cond.selects RX3 yX3_says yX3_says ∈ wg := wg_t (i := 117) (by decide +kernel) (by decide +kernel)
theorem mw_118 : Cond.code yX3_says prog_1_method_5_code (5) (Option.some FieldType.boolean) ∈ wg := wg_t (i := 118) (by decide +kernel) (by decide +kernel)
theorem mw_119 : Cond.methodLink RX3 (60) yX1_answer ∈ wg := wg_t (i := 119) (by decide +kernel) (by decide +kernel)
theorem mw_120 : Cond.instanceMethod yX1_answer ∈ wg := wg_t (i := 120) (by decide +kernel) (by decide +kernel)
theorem mw_121 : Cond.selects RX1 yX1_answer yX1_answer ∈ wg := wg_t (i := 121) (by decide +kernel) (by decide +kernel)
theorem mw_122 : Cond.code yX1_answer prog_3_method_4_code (3) (Option.some FieldType.boolean) ∈ wg := wg_t (i := 122) (by decide +kernel) (by decide +kernel)
theorem mw_123 : Cond.methodLink RL (35) yX3_state ∈ wg := wg_t (i := 123) (by decide +kernel) (by decide +kernel)
theorem mw_124 : Cond.instanceMethod yX3_state ∈ wg := wg_t (i := 124) (by decide +kernel) (by decide +kernel)
theorem mw_125 : Cond.selects RX3 yX3_state yX3_state ∈ wg := wg_t (i := 125) (by decide +kernel) (by decide +kernel)
theorem mw_126 : Cond.code yX3_state prog_1_method_6_code (3) (Option.some FieldType.int) ∈ wg := wg_t (i := 126) (by decide +kernel) (by decide +kernel)
theorem mw_127 : Cond.methodLink RX3 (64) yX1_stateOn ∈ wg := wg_t (i := 127) (by decide +kernel) (by decide +kernel)
theorem mw_128 : Cond.instanceMethod yX1_stateOn ∈ wg := wg_t (i := 128) (by decide +kernel) (by decide +kernel)
theorem mw_129 : Cond.selects RX1 yX1_stateOn yX1_stateOn ∈ wg := wg_t (i := 129) (by decide +kernel) (by decide +kernel)
theorem mw_130 : Cond.code yX1_stateOn prog_3_method_6_code (2) (Option.some FieldType.int) ∈ wg := wg_t (i := 130) (by decide +kernel) (by decide +kernel)
theorem mw_131 : Cond.methodLink RX1 (32) yX1_countOf ∈ wg := wg_t (i := 131) (by decide +kernel) (by decide +kernel)
theorem mw_133 : Cond.instanceMethod yX1_countOf ∈ wg := wg_t (i := 133) (by decide +kernel) (by decide +kernel)
theorem mw_134 : Cond.code yX1_countOf prog_3_method_7_code (4) (Option.some FieldType.int) ∈ wg := wg_t (i := 134) (by decide +kernel) (by decide +kernel)
theorem mw_135 : Cond.methodLink RL (39) yX3_move ∈ wg := wg_t (i := 135) (by decide +kernel) (by decide +kernel)
theorem mw_136 : Cond.instanceMethod yX3_move ∈ wg := wg_t (i := 136) (by decide +kernel) (by decide +kernel)
theorem mw_137 : Cond.selects RX3 yX3_move yX3_move ∈ wg := wg_t (i := 137) (by decide +kernel) (by decide +kernel)
theorem mw_138 : Cond.code yX3_move prog_1_method_7_code (7) (Option.some FieldType.int) ∈ wg := wg_t (i := 138) (by decide +kernel) (by decide +kernel)
theorem mw_139 : Cond.methodLink RX3 (70) yX1_covers ∈ wg := wg_t (i := 139) (by decide +kernel) (by decide +kernel)
theorem mw_140 : Cond.instanceMethod yX1_covers ∈ wg := wg_t (i := 140) (by decide +kernel) (by decide +kernel)
theorem mw_141 : Cond.selects RX1 yX1_covers yX1_covers ∈ wg := wg_t (i := 141) (by decide +kernel) (by decide +kernel)
theorem mw_142 : Cond.code yX1_covers prog_3_method_2_code (2) (Option.some FieldType.boolean) ∈ wg := wg_t (i := 142) (by decide +kernel) (by decide +kernel)
theorem mw_143 : Cond.methodLink RX3 (78) yX3_gramsInMoves ∈ wg := wg_t (i := 143) (by decide +kernel) (by decide +kernel)
theorem mw_145 : Cond.instanceMethod yX3_gramsInMoves ∈ wg := wg_t (i := 145) (by decide +kernel) (by decide +kernel)
theorem mw_146 : Cond.code yX3_gramsInMoves prog_1_method_29_code (6) (Option.some FieldType.long) ∈ wg := wg_t (i := 146) (by decide +kernel) (by decide +kernel)
theorem mw_147 : Cond.methodLink RX3 (85) yX3_moveAt ∈ wg := wg_t (i := 147) (by decide +kernel) (by decide +kernel)
theorem mw_149 : Cond.instanceMethod yX3_moveAt ∈ wg := wg_t (i := 149) (by decide +kernel) (by decide +kernel)
theorem mw_150 : Cond.code yX3_moveAt prog_1_method_22_code (2) (Option.some (FieldType.object "PaperStates$Move")) ∈ wg := wg_t (i := 150) (by decide +kernel) (by decide +kernel)
theorem mw_151 : Cond.methodLink RX3 (168) yX0_usesGrams ∈ wg := wg_t (i := 151) (by decide +kernel) (by decide +kernel)
theorem mw_152 : Cond.instanceMethod yX0_usesGrams ∈ wg := wg_t (i := 152) (by decide +kernel) (by decide +kernel)
theorem mw_153 : Cond.selects RX0 yX0_usesGrams yX0_usesGrams ∈ wg := wg_t (i := 153) (by decide +kernel) (by decide +kernel)
theorem mw_154 : Cond.code yX0_usesGrams prog_2_method_3_code (1) (Option.some FieldType.boolean) ∈ wg := wg_t (i := 154) (by decide +kernel) (by decide +kernel)
theorem mw_155 : Cond.instantiable RX0 (8) ∈ wg := wg_t (i := 155) (by decide +kernel) (by decide +kernel)
theorem mw_156 : Cond.methodLink RX3 (82) yX0_init ∈ wg := wg_t (i := 156) (by decide +kernel) (by decide +kernel)
theorem mw_157 : Cond.instanceMethod yX0_init ∈ wg := wg_t (i := 157) (by decide +kernel) (by decide +kernel)
theorem mw_158 : Cond.code yX0_init prog_2_method_1_code (6) (Option.none : Option FieldType) ∈ wg := wg_t (i := 158) (by decide +kernel) (by decide +kernel)
theorem mw_159 : Cond.methodLink RX0 (3) objectInit ∈ wg := wg_t (i := 159) (by decide +kernel) (by decide +kernel)
theorem mw_160 : Cond.fieldLink RX0 (15) "PaperStates$Move" "notice" "I" ∈ wg := wg_t (i := 160) (by decide +kernel) (by decide +kernel)
theorem mw_161 : Cond.fieldLink RX3 (148) "PaperStates$Move" "notice" "I" ∈ wg := wg_t (i := 161) (by decide +kernel) (by decide +kernel)
theorem mw_162 : Cond.fieldLink RX0 (19) "PaperStates$Move" "grams" "J" ∈ wg := wg_t (i := 162) (by decide +kernel) (by decide +kernel)
theorem mw_163 : Cond.fieldLink RX3 (172) "PaperStates$Move" "grams" "J" ∈ wg := wg_t (i := 163) (by decide +kernel) (by decide +kernel)
theorem mw_164 : Cond.fieldLink RX0 (23) "PaperStates$Move" "day" "I" ∈ wg := wg_t (i := 164) (by decide +kernel) (by decide +kernel)
theorem mw_165 : Cond.fieldLink RX3 (162) "PaperStates$Move" "day" "I" ∈ wg := wg_t (i := 165) (by decide +kernel) (by decide +kernel)
theorem mw_166 : Cond.fieldLink RX0 (9) "PaperStates$Move" "carriers" "[I" ∈ wg := wg_t (i := 166) (by decide +kernel) (by decide +kernel)
theorem mw_167 : Cond.fieldLink RX0 (32) "PaperStates$Move" "carrierCount" "I" ∈ wg := wg_t (i := 167) (by decide +kernel) (by decide +kernel)
theorem mw_168 : Cond.fieldLink RX0 (26) "PaperStates$Move" "state" "I" ∈ wg := wg_t (i := 168) (by decide +kernel) (by decide +kernel)
theorem mw_169 : Cond.fieldLink RX3 (89) "PaperStates$Move" "state" "I" ∈ wg := wg_t (i := 169) (by decide +kernel) (by decide +kernel)
theorem mw_170 : Cond.fieldLink RX0 (29) "PaperStates$Move" "since" "I" ∈ wg := wg_t (i := 170) (by decide +kernel) (by decide +kernel)
theorem mw_171 : Cond.fieldLink RX3 (165) "PaperStates$Move" "since" "I" ∈ wg := wg_t (i := 171) (by decide +kernel) (by decide +kernel)
theorem mw_172 : Cond.fieldLink RX3 (110) "PaperStates$Move" "marked" "Z" ∈ wg := wg_t (i := 172) (by decide +kernel) (by decide +kernel)
theorem mw_190 : Cond.methodLink RL (44) yX3_moveState ∈ wg := wg_t (i := 190) (by decide +kernel) (by decide +kernel)
theorem mw_191 : Cond.instanceMethod yX3_moveState ∈ wg := wg_t (i := 191) (by decide +kernel) (by decide +kernel)
theorem mw_192 : Cond.selects RX3 yX3_moveState yX3_moveState ∈ wg := wg_t (i := 192) (by decide +kernel) (by decide +kernel)
theorem mw_193 : Cond.code yX3_moveState prog_1_method_8_code (3) (Option.some FieldType.int) ∈ wg := wg_t (i := 193) (by decide +kernel) (by decide +kernel)
theorem mw_194 : Cond.methodLink RL (48) yX3_right ∈ wg := wg_t (i := 194) (by decide +kernel) (by decide +kernel)
theorem mw_195 : Cond.instanceMethod yX3_right ∈ wg := wg_t (i := 195) (by decide +kernel) (by decide +kernel)
theorem mw_196 : Cond.selects RX3 yX3_right yX3_right ∈ wg := wg_t (i := 196) (by decide +kernel) (by decide +kernel)
theorem mw_197 : Cond.code yX3_right prog_1_method_9_code (4) (Option.some FieldType.boolean) ∈ wg := wg_t (i := 197) (by decide +kernel) (by decide +kernel)
theorem mw_198 : Cond.methodLink RX3 (92) yX3_isPerson ∈ wg := wg_t (i := 198) (by decide +kernel) (by decide +kernel)
theorem mw_199 : Cond.static yX3_isPerson ∈ wg := wg_t (i := 199) (by decide +kernel) (by decide +kernel)
theorem mw_200 : Cond.code yX3_isPerson prog_1_method_23_code (1) (Option.some FieldType.boolean) ∈ wg := wg_t (i := 200) (by decide +kernel) (by decide +kernel)
theorem mw_201 : Cond.methodLink RX3 (95) yX3_isEvent ∈ wg := wg_t (i := 201) (by decide +kernel) (by decide +kernel)
theorem mw_202 : Cond.static yX3_isEvent ∈ wg := wg_t (i := 202) (by decide +kernel) (by decide +kernel)
theorem mw_203 : Cond.code yX3_isEvent prog_1_method_24_code (1) (Option.some FieldType.boolean) ∈ wg := wg_t (i := 203) (by decide +kernel) (by decide +kernel)
theorem mw_204 : Cond.methodLink RL (52) yX3_may ∈ wg := wg_t (i := 204) (by decide +kernel) (by decide +kernel)
theorem mw_205 : Cond.instanceMethod yX3_may ∈ wg := wg_t (i := 205) (by decide +kernel) (by decide +kernel)
theorem mw_206 : Cond.selects RX3 yX3_may yX3_may ∈ wg := wg_t (i := 206) (by decide +kernel) (by decide +kernel)
theorem mw_207 : Cond.code yX3_may prog_1_method_10_code (3) (Option.some FieldType.boolean) ∈ wg := wg_t (i := 207) (by decide +kernel) (by decide +kernel)
theorem mw_208 : Cond.methodLink RX3 (98) yX3_hasRight ∈ wg := wg_t (i := 208) (by decide +kernel) (by decide +kernel)
theorem mw_210 : Cond.instanceMethod yX3_hasRight ∈ wg := wg_t (i := 210) (by decide +kernel) (by decide +kernel)
theorem mw_211 : Cond.code yX3_hasRight prog_1_method_25_code (3) (Option.some FieldType.boolean) ∈ wg := wg_t (i := 211) (by decide +kernel) (by decide +kernel)
theorem mw_212 : Cond.methodLink RL (57) yX3_event ∈ wg := wg_t (i := 212) (by decide +kernel) (by decide +kernel)
theorem mw_213 : Cond.instanceMethod yX3_event ∈ wg := wg_t (i := 213) (by decide +kernel) (by decide +kernel)
theorem mw_214 : Cond.selects RX3 yX3_event yX3_event ∈ wg := wg_t (i := 214) (by decide +kernel) (by decide +kernel)
theorem mw_215 : Cond.code yX3_event prog_1_method_11_code (6) (Option.some FieldType.int) ∈ wg := wg_t (i := 215) (by decide +kernel) (by decide +kernel)
theorem mw_216 : Cond.methodLink RX3 (102) yX3_nextState ∈ wg := wg_t (i := 216) (by decide +kernel) (by decide +kernel)
theorem mw_217 : Cond.static yX3_nextState ∈ wg := wg_t (i := 217) (by decide +kernel) (by decide +kernel)
theorem mw_218 : Cond.code yX3_nextState prog_1_method_26_code (2) (Option.some FieldType.int) ∈ wg := wg_t (i := 218) (by decide +kernel) (by decide +kernel)
theorem mw_219 : Cond.fieldLink RX3 (158) "PaperStates" "LEADS" "[I" ∈ wg := wg_t (i := 219) (by decide +kernel) (by decide +kernel)
theorem mw_221 : Cond.methodLink RX3 (106) yX3_canBeTaken ∈ wg := wg_t (i := 221) (by decide +kernel) (by decide +kernel)
theorem mw_223 : Cond.instanceMethod yX3_canBeTaken ∈ wg := wg_t (i := 223) (by decide +kernel) (by decide +kernel)
theorem mw_224 : Cond.code yX3_canBeTaken prog_1_method_27_code (3) (Option.some FieldType.boolean) ∈ wg := wg_t (i := 224) (by decide +kernel) (by decide +kernel)
theorem mw_225 : Cond.methodLink RX3 (114) yX0_enter ∈ wg := wg_t (i := 225) (by decide +kernel) (by decide +kernel)
theorem mw_226 : Cond.instanceMethod yX0_enter ∈ wg := wg_t (i := 226) (by decide +kernel) (by decide +kernel)
theorem mw_227 : Cond.selects RX0 yX0_enter yX0_enter ∈ wg := wg_t (i := 227) (by decide +kernel) (by decide +kernel)
theorem mw_228 : Cond.code yX0_enter prog_2_method_2_code (3) (Option.none : Option FieldType) ∈ wg := wg_t (i := 228) (by decide +kernel) (by decide +kernel)
theorem mw_229 : Cond.methodLink RL (62) yX3_mark ∈ wg := wg_t (i := 229) (by decide +kernel) (by decide +kernel)
theorem mw_230 : Cond.instanceMethod yX3_mark ∈ wg := wg_t (i := 230) (by decide +kernel) (by decide +kernel)
theorem mw_231 : Cond.selects RX3 yX3_mark yX3_mark ∈ wg := wg_t (i := 231) (by decide +kernel) (by decide +kernel)
theorem mw_232 : Cond.code yX3_mark prog_1_method_12_code (5) (Option.some FieldType.boolean) ∈ wg := wg_t (i := 232) (by decide +kernel) (by decide +kernel)
theorem mw_233 : Cond.methodLink RL (66) yX3_left ∈ wg := wg_t (i := 233) (by decide +kernel) (by decide +kernel)
theorem mw_234 : Cond.instanceMethod yX3_left ∈ wg := wg_t (i := 234) (by decide +kernel) (by decide +kernel)
theorem mw_235 : Cond.selects RX3 yX3_left yX3_left ∈ wg := wg_t (i := 235) (by decide +kernel) (by decide +kernel)
theorem mw_236 : Cond.code yX3_left prog_1_method_13_code (3) (Option.some FieldType.long) ∈ wg := wg_t (i := 236) (by decide +kernel) (by decide +kernel)
theorem mw_237 : Cond.constantLong RX3 (118) (-1) ∈ wg := wg_t (i := 237) (by decide +kernel) (by decide +kernel)
theorem mw_238 : Cond.methodLink RL (71) yX3_bank ∈ wg := wg_t (i := 238) (by decide +kernel) (by decide +kernel)
theorem mw_239 : Cond.instanceMethod yX3_bank ∈ wg := wg_t (i := 239) (by decide +kernel) (by decide +kernel)
theorem mw_240 : Cond.selects RX3 yX3_bank yX3_bank ∈ wg := wg_t (i := 240) (by decide +kernel) (by decide +kernel)
theorem mw_241 : Cond.code yX3_bank prog_1_method_14_code (5) (Option.some FieldType.boolean) ∈ wg := wg_t (i := 241) (by decide +kernel) (by decide +kernel)
theorem mw_242 : Cond.constantLong RX3 (123) (10000000000) ∈ wg := wg_t (i := 242) (by decide +kernel) (by decide +kernel)
theorem mw_243 : Cond.methodLink RL (76) yX3_held ∈ wg := wg_t (i := 243) (by decide +kernel) (by decide +kernel)
theorem mw_244 : Cond.instanceMethod yX3_held ∈ wg := wg_t (i := 244) (by decide +kernel) (by decide +kernel)
theorem mw_245 : Cond.selects RX3 yX3_held yX3_held ∈ wg := wg_t (i := 245) (by decide +kernel) (by decide +kernel)
theorem mw_246 : Cond.code yX3_held prog_1_method_15_code (3) (Option.some FieldType.long) ∈ wg := wg_t (i := 246) (by decide +kernel) (by decide +kernel)
theorem mw_247 : Cond.methodLink RX3 (125) yX3_gramsRecovered ∈ wg := wg_t (i := 247) (by decide +kernel) (by decide +kernel)
theorem mw_249 : Cond.instanceMethod yX3_gramsRecovered ∈ wg := wg_t (i := 249) (by decide +kernel) (by decide +kernel)
theorem mw_250 : Cond.code yX3_gramsRecovered prog_1_method_30_code (6) (Option.some FieldType.long) ∈ wg := wg_t (i := 250) (by decide +kernel) (by decide +kernel)
theorem mw_251 : Cond.methodLink RX3 (128) yX3_shareUp ∈ wg := wg_t (i := 251) (by decide +kernel) (by decide +kernel)
theorem mw_252 : Cond.static yX3_shareUp ∈ wg := wg_t (i := 252) (by decide +kernel) (by decide +kernel)
theorem mw_253 : Cond.code yX3_shareUp prog_1_method_31_code (10) (Option.some FieldType.long) ∈ wg := wg_t (i := 253) (by decide +kernel) (by decide +kernel)
theorem mw_254 : Cond.methodLink RL (80) yX3_limit ∈ wg := wg_t (i := 254) (by decide +kernel) (by decide +kernel)
theorem mw_255 : Cond.instanceMethod yX3_limit ∈ wg := wg_t (i := 255) (by decide +kernel) (by decide +kernel)
theorem mw_256 : Cond.selects RX3 yX3_limit yX3_limit ∈ wg := wg_t (i := 256) (by decide +kernel) (by decide +kernel)
theorem mw_257 : Cond.code yX3_limit prog_1_method_16_code (2) (Option.some FieldType.boolean) ∈ wg := wg_t (i := 257) (by decide +kernel) (by decide +kernel)
theorem mw_258 : Cond.methodLink RL (85) yX3_late ∈ wg := wg_t (i := 258) (by decide +kernel) (by decide +kernel)
theorem mw_259 : Cond.instanceMethod yX3_late ∈ wg := wg_t (i := 259) (by decide +kernel) (by decide +kernel)
theorem mw_260 : Cond.selects RX3 yX3_late yX3_late ∈ wg := wg_t (i := 260) (by decide +kernel) (by decide +kernel)
theorem mw_261 : Cond.code yX3_late prog_1_method_17_code (5) (Option.some FieldType.int) ∈ wg := wg_t (i := 261) (by decide +kernel) (by decide +kernel)
theorem mw_262 : Cond.methodLink RX3 (132) yX3_isLate ∈ wg := wg_t (i := 262) (by decide +kernel) (by decide +kernel)
theorem mw_264 : Cond.instanceMethod yX3_isLate ∈ wg := wg_t (i := 264) (by decide +kernel) (by decide +kernel)
theorem mw_265 : Cond.code yX3_isLate prog_1_method_28_code (2) (Option.some FieldType.boolean) ∈ wg := wg_t (i := 265) (by decide +kernel) (by decide +kernel)
theorem mw_266 : Cond.methodLink RL (89) yX3_carrier ∈ wg := wg_t (i := 266) (by decide +kernel) (by decide +kernel)
theorem mw_267 : Cond.instanceMethod yX3_carrier ∈ wg := wg_t (i := 267) (by decide +kernel) (by decide +kernel)
theorem mw_268 : Cond.selects RX3 yX3_carrier yX3_carrier ∈ wg := wg_t (i := 268) (by decide +kernel) (by decide +kernel)
theorem mw_269 : Cond.code yX3_carrier prog_1_method_18_code (4) (Option.some FieldType.int) ∈ wg := wg_t (i := 269) (by decide +kernel) (by decide +kernel)
theorem mw_270 : Cond.methodLink RX3 (135) yX0_addCarrier ∈ wg := wg_t (i := 270) (by decide +kernel) (by decide +kernel)
theorem mw_271 : Cond.instanceMethod yX0_addCarrier ∈ wg := wg_t (i := 271) (by decide +kernel) (by decide +kernel)
theorem mw_272 : Cond.selects RX0 yX0_addCarrier yX0_addCarrier ∈ wg := wg_t (i := 272) (by decide +kernel) (by decide +kernel)
theorem mw_273 : Cond.code yX0_addCarrier prog_2_method_4_code (2) (Option.some FieldType.int) ∈ wg := wg_t (i := 273) (by decide +kernel) (by decide +kernel)
theorem mw_274 : Cond.methodLink RX0 (35) yX0_carrierBack ∈ wg := wg_t (i := 274) (by decide +kernel) (by decide +kernel)
theorem mw_275 : Cond.instanceMethod yX0_carrierBack ∈ wg := wg_t (i := 275) (by decide +kernel) (by decide +kernel)
theorem mw_276 : Cond.selects RX0 yX0_carrierBack yX0_carrierBack ∈ wg := wg_t (i := 276) (by decide +kernel) (by decide +kernel)
theorem mw_277 : Cond.code yX0_carrierBack prog_2_method_5_code (2) (Option.some FieldType.int) ∈ wg := wg_t (i := 277) (by decide +kernel) (by decide +kernel)
theorem mw_278 : Cond.methodLink RL (94) yX3_back ∈ wg := wg_t (i := 278) (by decide +kernel) (by decide +kernel)
theorem mw_279 : Cond.instanceMethod yX3_back ∈ wg := wg_t (i := 279) (by decide +kernel) (by decide +kernel)
theorem mw_280 : Cond.selects RX3 yX3_back yX3_back ∈ wg := wg_t (i := 280) (by decide +kernel) (by decide +kernel)
theorem mw_281 : Cond.code yX3_back prog_1_method_19_code (4) (Option.some FieldType.int) ∈ wg := wg_t (i := 281) (by decide +kernel) (by decide +kernel)
theorem mw_282 : Cond.methodLink RX3 (138) yX0_carrierBack ∈ wg := wg_t (i := 282) (by decide +kernel) (by decide +kernel)
theorem mw_283 : Cond.methodLink RL (98) yX3_print ∈ wg := wg_t (i := 283) (by decide +kernel) (by decide +kernel)
theorem mw_284 : Cond.instanceMethod yX3_print ∈ wg := wg_t (i := 284) (by decide +kernel) (by decide +kernel)
theorem mw_285 : Cond.selects RX3 yX3_print yX3_print ∈ wg := wg_t (i := 285) (by decide +kernel) (by decide +kernel)
theorem mw_286 : Cond.code yX3_print prog_1_method_20_code (6) (Option.some FieldType.int) ∈ wg := wg_t (i := 286) (by decide +kernel) (by decide +kernel)
theorem mw_287 : Cond.methodLink RX3 (141) yX2_clear ∈ wg := wg_t (i := 287) (by decide +kernel) (by decide +kernel)
theorem mw_288 : Cond.instanceMethod yX2_clear ∈ wg := wg_t (i := 288) (by decide +kernel) (by decide +kernel)
theorem mw_289 : Cond.selects RX2 yX2_clear yX2_clear ∈ wg := wg_t (i := 289) (by decide +kernel) (by decide +kernel)
theorem mw_290 : Cond.code yX2_clear prog_4_method_2_code (1) (Option.none : Option FieldType) ∈ wg := wg_t (i := 290) (by decide +kernel) (by decide +kernel)
theorem mw_291 : Cond.methodLink RX3 (144) yX3_writeHead ∈ wg := wg_t (i := 291) (by decide +kernel) (by decide +kernel)
theorem mw_293 : Cond.instanceMethod yX3_writeHead ∈ wg := wg_t (i := 293) (by decide +kernel) (by decide +kernel)
theorem mw_294 : Cond.code yX3_writeHead prog_1_method_32_code (3) (Option.none : Option FieldType) ∈ wg := wg_t (i := 294) (by decide +kernel) (by decide +kernel)
theorem mw_295 : Cond.methodLink RX3 (173) yX2_addNumber ∈ wg := wg_t (i := 295) (by decide +kernel) (by decide +kernel)
theorem mw_296 : Cond.instanceMethod yX2_addNumber ∈ wg := wg_t (i := 296) (by decide +kernel) (by decide +kernel)
theorem mw_297 : Cond.selects RX2 yX2_addNumber yX2_addNumber ∈ wg := wg_t (i := 297) (by decide +kernel) (by decide +kernel)
theorem mw_298 : Cond.code yX2_addNumber prog_4_method_4_code (8) (Option.none : Option FieldType) ∈ wg := wg_t (i := 298) (by decide +kernel) (by decide +kernel)
theorem mw_299 : Cond.constantLong RX2 (19) (1000000000) ∈ wg := wg_t (i := 299) (by decide +kernel) (by decide +kernel)
theorem mw_300 : Cond.constantLong RX2 (21) (10) ∈ wg := wg_t (i := 300) (by decide +kernel) (by decide +kernel)
theorem mw_301 : Cond.constantLong RX2 (23) (48) ∈ wg := wg_t (i := 301) (by decide +kernel) (by decide +kernel)
theorem mw_302 : Cond.methodLink RX2 (25) yX2_add ∈ wg := wg_t (i := 302) (by decide +kernel) (by decide +kernel)
theorem mw_303 : Cond.instanceMethod yX2_add ∈ wg := wg_t (i := 303) (by decide +kernel) (by decide +kernel)
theorem mw_304 : Cond.selects RX2 yX2_add yX2_add ∈ wg := wg_t (i := 304) (by decide +kernel) (by decide +kernel)
theorem mw_305 : Cond.code yX2_add prog_4_method_3_code (2) (Option.none : Option FieldType) ∈ wg := wg_t (i := 305) (by decide +kernel) (by decide +kernel)
theorem mw_306 : Cond.methodLink RX3 (177) yX2_add ∈ wg := wg_t (i := 306) (by decide +kernel) (by decide +kernel)
theorem mw_307 : Cond.methodLink RX3 (151) yX3_writeMove ∈ wg := wg_t (i := 307) (by decide +kernel) (by decide +kernel)
theorem mw_309 : Cond.instanceMethod yX3_writeMove ∈ wg := wg_t (i := 309) (by decide +kernel) (by decide +kernel)
theorem mw_310 : Cond.code yX3_writeMove prog_1_method_33_code (3) (Option.none : Option FieldType) ∈ wg := wg_t (i := 310) (by decide +kernel) (by decide +kernel)
theorem mw_311 : Cond.methodLink RX3 (187) yX0_letter ∈ wg := wg_t (i := 311) (by decide +kernel) (by decide +kernel)
theorem mw_312 : Cond.instanceMethod yX0_letter ∈ wg := wg_t (i := 312) (by decide +kernel) (by decide +kernel)
theorem mw_313 : Cond.selects RX0 yX0_letter yX0_letter ∈ wg := wg_t (i := 313) (by decide +kernel) (by decide +kernel)
theorem mw_314 : Cond.code yX0_letter prog_2_method_6_code (1) (Option.some FieldType.char) ∈ wg := wg_t (i := 314) (by decide +kernel) (by decide +kernel)
theorem mw_317 : Cond.methodLink RX3 (155) yX2_byteAt ∈ wg := wg_t (i := 317) (by decide +kernel) (by decide +kernel)
theorem mw_318 : Cond.instanceMethod yX2_byteAt ∈ wg := wg_t (i := 318) (by decide +kernel) (by decide +kernel)
theorem mw_319 : Cond.selects RX2 yX2_byteAt yX2_byteAt ∈ wg := wg_t (i := 319) (by decide +kernel) (by decide +kernel)
theorem mw_320 : Cond.code yX2_byteAt prog_4_method_5_code (2) (Option.some FieldType.int) ∈ wg := wg_t (i := 320) (by decide +kernel) (by decide +kernel)
theorem mw_321 : Cond.classLink RL (10) RX4 ∈ wg := wg_t (i := 321) (by decide +kernel) (by decide +kernel)
theorem mw_322 : Cond.instantiable RX4 (23) ∈ wg := wg_t (i := 322) (by decide +kernel) (by decide +kernel)
theorem mw_323 : Cond.methodLink RL (12) yX4_init ∈ wg := wg_t (i := 323) (by decide +kernel) (by decide +kernel)
theorem mw_324 : Cond.instanceMethod yX4_init ∈ wg := wg_t (i := 324) (by decide +kernel) (by decide +kernel)
theorem mw_325 : Cond.code yX4_init prog_6_method_1_code (1) (Option.none : Option FieldType) ∈ wg := wg_t (i := 325) (by decide +kernel) (by decide +kernel)
theorem mw_326 : Cond.methodLink RX4 (1) objectInit ∈ wg := wg_t (i := 326) (by decide +kernel) (by decide +kernel)
theorem mw_327 : Cond.fieldLink RX4 (73) "PaperStatesModel" "today" "I" ∈ wg := wg_t (i := 327) (by decide +kernel) (by decide +kernel)
theorem mw_328 : Cond.fieldLink RX4 (67) "PaperStatesModel" "notices" "I" ∈ wg := wg_t (i := 328) (by decide +kernel) (by decide +kernel)
theorem mw_329 : Cond.fieldLink RX4 (7) "PaperStatesModel" "weights" "[J" ∈ wg := wg_t (i := 329) (by decide +kernel) (by decide +kernel)
theorem mw_330 : Cond.fieldLink RX4 (13) "PaperStatesModel" "froms" "[I" ∈ wg := wg_t (i := 330) (by decide +kernel) (by decide +kernel)
theorem mw_331 : Cond.fieldLink RX4 (17) "PaperStatesModel" "tos" "[I" ∈ wg := wg_t (i := 331) (by decide +kernel) (by decide +kernel)
theorem mw_332 : Cond.fieldLink RX4 (20) "PaperStatesModel" "cents" "[J" ∈ wg := wg_t (i := 332) (by decide +kernel) (by decide +kernel)
theorem mw_333 : Cond.fieldLink RX4 (23) "PaperStatesModel" "has" "[Z" ∈ wg := wg_t (i := 333) (by decide +kernel) (by decide +kernel)
theorem mw_334 : Cond.fieldLink RX4 (27) "PaperStatesModel" "days" "[I" ∈ wg := wg_t (i := 334) (by decide +kernel) (by decide +kernel)
theorem mw_335 : Cond.fieldLink RX4 (30) "PaperStatesModel" "askedOn" "[I" ∈ wg := wg_t (i := 335) (by decide +kernel) (by decide +kernel)
theorem mw_336 : Cond.fieldLink RX4 (33) "PaperStatesModel" "said" "[I" ∈ wg := wg_t (i := 336) (by decide +kernel) (by decide +kernel)
theorem mw_337 : Cond.fieldLink RX4 (70) "PaperStatesModel" "moves" "I" ∈ wg := wg_t (i := 337) (by decide +kernel) (by decide +kernel)
theorem mw_338 : Cond.fieldLink RX4 (36) "PaperStatesModel" "noticeOf" "[I" ∈ wg := wg_t (i := 338) (by decide +kernel) (by decide +kernel)
theorem mw_339 : Cond.fieldLink RX4 (39) "PaperStatesModel" "grams" "[J" ∈ wg := wg_t (i := 339) (by decide +kernel) (by decide +kernel)
theorem mw_340 : Cond.fieldLink RX4 (42) "PaperStatesModel" "moveDays" "[I" ∈ wg := wg_t (i := 340) (by decide +kernel) (by decide +kernel)
theorem mw_341 : Cond.fieldLink RX4 (45) "PaperStatesModel" "states" "[I" ∈ wg := wg_t (i := 341) (by decide +kernel) (by decide +kernel)
theorem mw_342 : Cond.fieldLink RX4 (48) "PaperStatesModel" "since" "[I" ∈ wg := wg_t (i := 342) (by decide +kernel) (by decide +kernel)
theorem mw_343 : Cond.fieldLink RX4 (51) "PaperStatesModel" "marked" "[Z" ∈ wg := wg_t (i := 343) (by decide +kernel) (by decide +kernel)
theorem mw_344 : Cond.fieldLink RX4 (54) "PaperStatesModel" "carrierCounts" "[I" ∈ wg := wg_t (i := 344) (by decide +kernel) (by decide +kernel)
theorem mw_345 : Cond.fieldLink RX4 (57) "PaperStatesModel" "carriers" "[I" ∈ wg := wg_t (i := 345) (by decide +kernel) (by decide +kernel)
theorem mw_346 : Cond.fieldLink RX4 (60) "PaperStatesModel" "rights" "[Z" ∈ wg := wg_t (i := 346) (by decide +kernel) (by decide +kernel)
theorem mw_347 : Cond.fieldLink RX4 (63) "PaperStatesModel" "limit" "I" ∈ wg := wg_t (i := 347) (by decide +kernel) (by decide +kernel)
theorem mw_348 : Cond.fieldLink RX4 (126) "PaperStatesModel" "rest" "I" ∈ wg := wg_t (i := 348) (by decide +kernel) (by decide +kernel)
theorem mw_349 : Cond.fieldLink RX4 (129) "PaperStatesModel" "looked" "I" ∈ wg := wg_t (i := 349) (by decide +kernel) (by decide +kernel)
theorem mw_397 : Cond.arrayClass FieldType.long ∈ wg := wg_t (i := 397) (by decide +kernel) (by decide +kernel)
theorem mw_398 : Cond.methodLink RL (17) yX4_day ∈ wg := wg_t (i := 398) (by decide +kernel) (by decide +kernel)
theorem mw_399 : Cond.instanceMethod yX4_day ∈ wg := wg_t (i := 399) (by decide +kernel) (by decide +kernel)
theorem mw_400 : Cond.selects RX4 yX4_day yX4_day ∈ wg := wg_t (i := 400) (by decide +kernel) (by decide +kernel)
theorem mw_401 : Cond.code yX4_day prog_6_method_10_code (4) (Option.some FieldType.int) ∈ wg := wg_t (i := 401) (by decide +kernel) (by decide +kernel)
theorem mw_402 : Cond.constantLong RX4 (76) (100000) ∈ wg := wg_t (i := 402) (by decide +kernel) (by decide +kernel)
theorem mw_403 : Cond.methodLink RX4 (78) yX4_isIn ∈ wg := wg_t (i := 403) (by decide +kernel) (by decide +kernel)
theorem mw_404 : Cond.static yX4_isIn ∈ wg := wg_t (i := 404) (by decide +kernel) (by decide +kernel)
theorem mw_405 : Cond.code yX4_isIn prog_6_method_3_code (6) (Option.some FieldType.boolean) ∈ wg := wg_t (i := 405) (by decide +kernel) (by decide +kernel)
theorem mw_406 : Cond.methodLink RX4 (82) yX4_isSilent ∈ wg := wg_t (i := 406) (by decide +kernel) (by decide +kernel)
theorem mw_408 : Cond.instanceMethod yX4_isSilent ∈ wg := wg_t (i := 408) (by decide +kernel) (by decide +kernel)
theorem mw_409 : Cond.code yX4_isSilent prog_6_method_9_code (3) (Option.some FieldType.boolean) ∈ wg := wg_t (i := 409) (by decide +kernel) (by decide +kernel)
theorem mw_410 : Cond.methodLink RL (24) yX4_notice ∈ wg := wg_t (i := 410) (by decide +kernel) (by decide +kernel)
theorem mw_411 : Cond.instanceMethod yX4_notice ∈ wg := wg_t (i := 411) (by decide +kernel) (by decide +kernel)
theorem mw_412 : Cond.selects RX4 yX4_notice yX4_notice ∈ wg := wg_t (i := 412) (by decide +kernel) (by decide +kernel)
theorem mw_413 : Cond.code yX4_notice prog_6_method_11_code (5) (Option.some FieldType.int) ∈ wg := wg_t (i := 413) (by decide +kernel) (by decide +kernel)
theorem mw_414 : Cond.constantLong RX4 (86) (1000000000) ∈ wg := wg_t (i := 414) (by decide +kernel) (by decide +kernel)
theorem mw_415 : Cond.methodLink RL (29) yX4_country ∈ wg := wg_t (i := 415) (by decide +kernel) (by decide +kernel)
theorem mw_416 : Cond.instanceMethod yX4_country ∈ wg := wg_t (i := 416) (by decide +kernel) (by decide +kernel)
theorem mw_417 : Cond.selects RX4 yX4_country yX4_country ∈ wg := wg_t (i := 417) (by decide +kernel) (by decide +kernel)
theorem mw_418 : Cond.code yX4_country prog_6_method_12_code (5) (Option.some FieldType.boolean) ∈ wg := wg_t (i := 418) (by decide +kernel) (by decide +kernel)
theorem mw_419 : Cond.methodLink RX4 (88) yX4_isNotice ∈ wg := wg_t (i := 419) (by decide +kernel) (by decide +kernel)
theorem mw_421 : Cond.instanceMethod yX4_isNotice ∈ wg := wg_t (i := 421) (by decide +kernel) (by decide +kernel)
theorem mw_422 : Cond.code yX4_isNotice prog_6_method_4_code (2) (Option.some FieldType.boolean) ∈ wg := wg_t (i := 422) (by decide +kernel) (by decide +kernel)
theorem mw_423 : Cond.methodLink RX4 (92) yX4_isCountry ∈ wg := wg_t (i := 423) (by decide +kernel) (by decide +kernel)
theorem mw_424 : Cond.static yX4_isCountry ∈ wg := wg_t (i := 424) (by decide +kernel) (by decide +kernel)
theorem mw_425 : Cond.code yX4_isCountry prog_6_method_6_code (1) (Option.some FieldType.boolean) ∈ wg := wg_t (i := 425) (by decide +kernel) (by decide +kernel)
theorem mw_426 : Cond.constantLong RX4 (95) (1000) ∈ wg := wg_t (i := 426) (by decide +kernel) (by decide +kernel)
theorem mw_427 : Cond.methodLink RL (34) yX4_says ∈ wg := wg_t (i := 427) (by decide +kernel) (by decide +kernel)
theorem mw_428 : Cond.instanceMethod yX4_says ∈ wg := wg_t (i := 428) (by decide +kernel) (by decide +kernel)
theorem mw_429 : Cond.selects RX4 yX4_says yX4_says ∈ wg := wg_t (i := 429) (by decide +kernel) (by decide +kernel)
theorem mw_430 : Cond.code yX4_says prog_6_method_13_code (5) (Option.some FieldType.boolean) ∈ wg := wg_t (i := 430) (by decide +kernel) (by decide +kernel)
theorem mw_431 : Cond.methodLink RL (38) yX4_state ∈ wg := wg_t (i := 431) (by decide +kernel) (by decide +kernel)
theorem mw_432 : Cond.instanceMethod yX4_state ∈ wg := wg_t (i := 432) (by decide +kernel) (by decide +kernel)
theorem mw_433 : Cond.selects RX4 yX4_state yX4_state ∈ wg := wg_t (i := 433) (by decide +kernel) (by decide +kernel)
theorem mw_434 : Cond.code yX4_state prog_6_method_14_code (7) (Option.some FieldType.int) ∈ wg := wg_t (i := 434) (by decide +kernel) (by decide +kernel)
theorem mw_435 : Cond.methodLink RL (43) yX4_move ∈ wg := wg_t (i := 435) (by decide +kernel) (by decide +kernel)
theorem mw_436 : Cond.instanceMethod yX4_move ∈ wg := wg_t (i := 436) (by decide +kernel) (by decide +kernel)
theorem mw_437 : Cond.selects RX4 yX4_move yX4_move ∈ wg := wg_t (i := 437) (by decide +kernel) (by decide +kernel)
theorem mw_438 : Cond.code yX4_move prog_6_method_15_code (5) (Option.some FieldType.int) ∈ wg := wg_t (i := 438) (by decide +kernel) (by decide +kernel)
theorem mw_439 : Cond.methodLink RX4 (97) yX4_state ∈ wg := wg_t (i := 439) (by decide +kernel) (by decide +kernel)
theorem mw_440 : Cond.methodLink RX4 (101) yX4_left ∈ wg := wg_t (i := 440) (by decide +kernel) (by decide +kernel)
theorem mw_441 : Cond.instanceMethod yX4_left ∈ wg := wg_t (i := 441) (by decide +kernel) (by decide +kernel)
theorem mw_442 : Cond.selects RX4 yX4_left yX4_left ∈ wg := wg_t (i := 442) (by decide +kernel) (by decide +kernel)
theorem mw_443 : Cond.code yX4_left prog_6_method_22_code (6) (Option.some FieldType.long) ∈ wg := wg_t (i := 443) (by decide +kernel) (by decide +kernel)
theorem mw_444 : Cond.constantLong RX4 (120) (-1) ∈ wg := wg_t (i := 444) (by decide +kernel) (by decide +kernel)
theorem mw_445 : Cond.methodLink RL (47) yX4_moveState ∈ wg := wg_t (i := 445) (by decide +kernel) (by decide +kernel)
theorem mw_446 : Cond.instanceMethod yX4_moveState ∈ wg := wg_t (i := 446) (by decide +kernel) (by decide +kernel)
theorem mw_447 : Cond.selects RX4 yX4_moveState yX4_moveState ∈ wg := wg_t (i := 447) (by decide +kernel) (by decide +kernel)
theorem mw_448 : Cond.code yX4_moveState prog_6_method_16_code (2) (Option.some FieldType.int) ∈ wg := wg_t (i := 448) (by decide +kernel) (by decide +kernel)
theorem mw_449 : Cond.methodLink RX4 (105) yX4_isMove ∈ wg := wg_t (i := 449) (by decide +kernel) (by decide +kernel)
theorem mw_451 : Cond.instanceMethod yX4_isMove ∈ wg := wg_t (i := 451) (by decide +kernel) (by decide +kernel)
theorem mw_452 : Cond.code yX4_isMove prog_6_method_5_code (2) (Option.some FieldType.boolean) ∈ wg := wg_t (i := 452) (by decide +kernel) (by decide +kernel)
theorem mw_453 : Cond.methodLink RL (51) yX4_right ∈ wg := wg_t (i := 453) (by decide +kernel) (by decide +kernel)
theorem mw_454 : Cond.instanceMethod yX4_right ∈ wg := wg_t (i := 454) (by decide +kernel) (by decide +kernel)
theorem mw_455 : Cond.selects RX4 yX4_right yX4_right ∈ wg := wg_t (i := 455) (by decide +kernel) (by decide +kernel)
theorem mw_456 : Cond.code yX4_right prog_6_method_17_code (4) (Option.some FieldType.boolean) ∈ wg := wg_t (i := 456) (by decide +kernel) (by decide +kernel)
theorem mw_457 : Cond.methodLink RX4 (108) yX4_isPerson ∈ wg := wg_t (i := 457) (by decide +kernel) (by decide +kernel)
theorem mw_458 : Cond.static yX4_isPerson ∈ wg := wg_t (i := 458) (by decide +kernel) (by decide +kernel)
theorem mw_459 : Cond.code yX4_isPerson prog_6_method_7_code (1) (Option.some FieldType.boolean) ∈ wg := wg_t (i := 459) (by decide +kernel) (by decide +kernel)
theorem mw_460 : Cond.methodLink RX4 (111) yX4_isEvent ∈ wg := wg_t (i := 460) (by decide +kernel) (by decide +kernel)
theorem mw_461 : Cond.static yX4_isEvent ∈ wg := wg_t (i := 461) (by decide +kernel) (by decide +kernel)
theorem mw_462 : Cond.code yX4_isEvent prog_6_method_8_code (1) (Option.some FieldType.boolean) ∈ wg := wg_t (i := 462) (by decide +kernel) (by decide +kernel)
theorem mw_463 : Cond.methodLink RL (56) yX4_may ∈ wg := wg_t (i := 463) (by decide +kernel) (by decide +kernel)
theorem mw_464 : Cond.instanceMethod yX4_may ∈ wg := wg_t (i := 464) (by decide +kernel) (by decide +kernel)
theorem mw_465 : Cond.selects RX4 yX4_may yX4_may ∈ wg := wg_t (i := 465) (by decide +kernel) (by decide +kernel)
theorem mw_466 : Cond.code yX4_may prog_6_method_18_code (3) (Option.some FieldType.boolean) ∈ wg := wg_t (i := 466) (by decide +kernel) (by decide +kernel)
theorem mw_467 : Cond.methodLink RL (61) yX4_event ∈ wg := wg_t (i := 467) (by decide +kernel) (by decide +kernel)
theorem mw_468 : Cond.instanceMethod yX4_event ∈ wg := wg_t (i := 468) (by decide +kernel) (by decide +kernel)
theorem mw_469 : Cond.selects RX4 yX4_event yX4_event ∈ wg := wg_t (i := 469) (by decide +kernel) (by decide +kernel)
theorem mw_470 : Cond.code yX4_event prog_6_method_20_code (4) (Option.some FieldType.int) ∈ wg := wg_t (i := 470) (by decide +kernel) (by decide +kernel)
theorem mw_471 : Cond.methodLink RX4 (114) yX4_may ∈ wg := wg_t (i := 471) (by decide +kernel) (by decide +kernel)
theorem mw_472 : Cond.methodLink RX4 (117) yX4_leads ∈ wg := wg_t (i := 472) (by decide +kernel) (by decide +kernel)
theorem mw_473 : Cond.static yX4_leads ∈ wg := wg_t (i := 473) (by decide +kernel) (by decide +kernel)
theorem mw_474 : Cond.code yX4_leads prog_6_method_19_code (2) (Option.some FieldType.boolean) ∈ wg := wg_t (i := 474) (by decide +kernel) (by decide +kernel)
theorem mw_475 : Cond.methodLink RL (65) yX4_mark ∈ wg := wg_t (i := 475) (by decide +kernel) (by decide +kernel)
theorem mw_476 : Cond.instanceMethod yX4_mark ∈ wg := wg_t (i := 476) (by decide +kernel) (by decide +kernel)
theorem mw_477 : Cond.selects RX4 yX4_mark yX4_mark ∈ wg := wg_t (i := 477) (by decide +kernel) (by decide +kernel)
theorem mw_478 : Cond.code yX4_mark prog_6_method_21_code (4) (Option.some FieldType.boolean) ∈ wg := wg_t (i := 478) (by decide +kernel) (by decide +kernel)
theorem mw_479 : Cond.methodLink RL (70) yX4_left ∈ wg := wg_t (i := 479) (by decide +kernel) (by decide +kernel)
theorem mw_480 : Cond.methodLink RL (75) yX4_bank ∈ wg := wg_t (i := 480) (by decide +kernel) (by decide +kernel)
theorem mw_481 : Cond.instanceMethod yX4_bank ∈ wg := wg_t (i := 481) (by decide +kernel) (by decide +kernel)
theorem mw_482 : Cond.selects RX4 yX4_bank yX4_bank ∈ wg := wg_t (i := 482) (by decide +kernel) (by decide +kernel)
theorem mw_483 : Cond.code yX4_bank prog_6_method_23_code (4) (Option.some FieldType.boolean) ∈ wg := wg_t (i := 483) (by decide +kernel) (by decide +kernel)
theorem mw_484 : Cond.constantLong RX4 (122) (10000000000) ∈ wg := wg_t (i := 484) (by decide +kernel) (by decide +kernel)
theorem mw_485 : Cond.methodLink RL (79) yX4_held ∈ wg := wg_t (i := 485) (by decide +kernel) (by decide +kernel)
theorem mw_486 : Cond.instanceMethod yX4_held ∈ wg := wg_t (i := 486) (by decide +kernel) (by decide +kernel)
theorem mw_487 : Cond.selects RX4 yX4_held yX4_held ∈ wg := wg_t (i := 487) (by decide +kernel) (by decide +kernel)
theorem mw_488 : Cond.code yX4_held prog_6_method_24_code (8) (Option.some FieldType.long) ∈ wg := wg_t (i := 488) (by decide +kernel) (by decide +kernel)
theorem mw_489 : Cond.methodLink RL (84) yX4_limit ∈ wg := wg_t (i := 489) (by decide +kernel) (by decide +kernel)
theorem mw_490 : Cond.instanceMethod yX4_limit ∈ wg := wg_t (i := 490) (by decide +kernel) (by decide +kernel)
theorem mw_491 : Cond.selects RX4 yX4_limit yX4_limit ∈ wg := wg_t (i := 491) (by decide +kernel) (by decide +kernel)
theorem mw_492 : Cond.code yX4_limit prog_6_method_25_code (2) (Option.some FieldType.boolean) ∈ wg := wg_t (i := 492) (by decide +kernel) (by decide +kernel)
theorem mw_493 : Cond.methodLink RL (88) yX4_late ∈ wg := wg_t (i := 493) (by decide +kernel) (by decide +kernel)
theorem mw_494 : Cond.instanceMethod yX4_late ∈ wg := wg_t (i := 494) (by decide +kernel) (by decide +kernel)
theorem mw_495 : Cond.selects RX4 yX4_late yX4_late ∈ wg := wg_t (i := 495) (by decide +kernel) (by decide +kernel)
theorem mw_496 : Cond.code yX4_late prog_6_method_26_code (4) (Option.some FieldType.int) ∈ wg := wg_t (i := 496) (by decide +kernel) (by decide +kernel)
theorem mw_497 : Cond.methodLink RL (93) yX4_carrier ∈ wg := wg_t (i := 497) (by decide +kernel) (by decide +kernel)
theorem mw_498 : Cond.instanceMethod yX4_carrier ∈ wg := wg_t (i := 498) (by decide +kernel) (by decide +kernel)
theorem mw_499 : Cond.selects RX4 yX4_carrier yX4_carrier ∈ wg := wg_t (i := 499) (by decide +kernel) (by decide +kernel)
theorem mw_500 : Cond.code yX4_carrier prog_6_method_27_code (4) (Option.some FieldType.int) ∈ wg := wg_t (i := 500) (by decide +kernel) (by decide +kernel)
theorem mw_501 : Cond.constantLong RX4 (124) (99) ∈ wg := wg_t (i := 501) (by decide +kernel) (by decide +kernel)
theorem mw_502 : Cond.methodLink RL (97) yX4_back ∈ wg := wg_t (i := 502) (by decide +kernel) (by decide +kernel)
theorem mw_503 : Cond.instanceMethod yX4_back ∈ wg := wg_t (i := 503) (by decide +kernel) (by decide +kernel)
theorem mw_504 : Cond.selects RX4 yX4_back yX4_back ∈ wg := wg_t (i := 504) (by decide +kernel) (by decide +kernel)
theorem mw_505 : Cond.code yX4_back prog_6_method_28_code (3) (Option.some FieldType.int) ∈ wg := wg_t (i := 505) (by decide +kernel) (by decide +kernel)
theorem mw_506 : Cond.methodLink RL (101) yX4_print ∈ wg := wg_t (i := 506) (by decide +kernel) (by decide +kernel)
theorem mw_507 : Cond.instanceMethod yX4_print ∈ wg := wg_t (i := 507) (by decide +kernel) (by decide +kernel)
theorem mw_508 : Cond.selects RX4 yX4_print yX4_print ∈ wg := wg_t (i := 508) (by decide +kernel) (by decide +kernel)
theorem mw_509 : Cond.code yX4_print prog_6_method_32_code (4) (Option.some FieldType.int) ∈ wg := wg_t (i := 509) (by decide +kernel) (by decide +kernel)
theorem mw_510 : Cond.methodLink RX4 (142) yX4_putNumber ∈ wg := wg_t (i := 510) (by decide +kernel) (by decide +kernel)
theorem mw_512 : Cond.instanceMethod yX4_putNumber ∈ wg := wg_t (i := 512) (by decide +kernel) (by decide +kernel)
theorem mw_513 : Cond.code yX4_putNumber prog_6_method_30_code (5) (Option.none : Option FieldType) ∈ wg := wg_t (i := 513) (by decide +kernel) (by decide +kernel)
theorem mw_514 : Cond.constantLong RX4 (132) (9) ∈ wg := wg_t (i := 514) (by decide +kernel) (by decide +kernel)
theorem mw_515 : Cond.constantLong RX4 (134) (10) ∈ wg := wg_t (i := 515) (by decide +kernel) (by decide +kernel)
theorem mw_516 : Cond.constantLong RX4 (136) (48) ∈ wg := wg_t (i := 516) (by decide +kernel) (by decide +kernel)
theorem mw_517 : Cond.methodLink RX4 (138) yX4_put ∈ wg := wg_t (i := 517) (by decide +kernel) (by decide +kernel)
theorem mw_519 : Cond.instanceMethod yX4_put ∈ wg := wg_t (i := 519) (by decide +kernel) (by decide +kernel)
theorem mw_520 : Cond.code yX4_put prog_6_method_29_code (2) (Option.none : Option FieldType) ∈ wg := wg_t (i := 520) (by decide +kernel) (by decide +kernel)
theorem mw_521 : Cond.methodLink RX4 (146) yX4_letterOf ∈ wg := wg_t (i := 521) (by decide +kernel) (by decide +kernel)
theorem mw_522 : Cond.static yX4_letterOf ∈ wg := wg_t (i := 522) (by decide +kernel) (by decide +kernel)
theorem mw_523 : Cond.code yX4_letterOf prog_6_method_31_code (1) (Option.some FieldType.int) ∈ wg := wg_t (i := 523) (by decide +kernel) (by decide +kernel)
theorem mw_524 : Cond.constantLong RL (18) (4294967295) ∈ wg := wg_t (i := 524) (by decide +kernel) (by decide +kernel)
theorem mw_525 : Cond.arrayClass FieldType.char ∈ wg := wg_t (i := 525) (by decide +kernel) (by decide +kernel)
theorem mw_obj : Cond.code objectInit ⟨#[0xb1]⟩ 1 none ∈ wg := wg_t (i := 13) (by decide +kernel) (by decide +kernel)
theorem ms_0 : Cond.selects RX3 yX3_noticeAt yX3_noticeAt ∈ wg := wg_s (i := 0) (by decide +kernel) (by decide +kernel)
theorem ms_1 : Cond.selects RX1 yX1_countOf yX1_countOf ∈ wg := wg_s (i := 1) (by decide +kernel) (by decide +kernel)
theorem ms_2 : Cond.selects RX3 yX3_gramsInMoves yX3_gramsInMoves ∈ wg := wg_s (i := 2) (by decide +kernel) (by decide +kernel)
theorem ms_3 : Cond.selects RX3 yX3_moveAt yX3_moveAt ∈ wg := wg_s (i := 3) (by decide +kernel) (by decide +kernel)
theorem ms_4 : Cond.selects RX3 yX3_hasRight yX3_hasRight ∈ wg := wg_s (i := 4) (by decide +kernel) (by decide +kernel)
theorem ms_5 : Cond.selects RX3 yX3_canBeTaken yX3_canBeTaken ∈ wg := wg_s (i := 5) (by decide +kernel) (by decide +kernel)
theorem ms_6 : Cond.selects RX3 yX3_gramsRecovered yX3_gramsRecovered ∈ wg := wg_s (i := 6) (by decide +kernel) (by decide +kernel)
theorem ms_7 : Cond.selects RX3 yX3_isLate yX3_isLate ∈ wg := wg_s (i := 7) (by decide +kernel) (by decide +kernel)
theorem ms_8 : Cond.selects RX3 yX3_writeHead yX3_writeHead ∈ wg := wg_s (i := 8) (by decide +kernel) (by decide +kernel)
theorem ms_9 : Cond.selects RX3 yX3_writeMove yX3_writeMove ∈ wg := wg_s (i := 9) (by decide +kernel) (by decide +kernel)
theorem ms_10 : Cond.selects RX4 yX4_isSilent yX4_isSilent ∈ wg := wg_s (i := 10) (by decide +kernel) (by decide +kernel)
theorem ms_11 : Cond.selects RX4 yX4_isNotice yX4_isNotice ∈ wg := wg_s (i := 11) (by decide +kernel) (by decide +kernel)
theorem ms_12 : Cond.selects RX4 yX4_isMove yX4_isMove ∈ wg := wg_s (i := 12) (by decide +kernel) (by decide +kernel)
theorem ms_13 : Cond.selects RX4 yX4_putNumber yX4_putNumber ∈ wg := wg_s (i := 13) (by decide +kernel) (by decide +kernel)
theorem ms_14 : Cond.selects RX4 yX4_put yX4_put ∈ wg := wg_s (i := 14) (by decide +kernel) (by decide +kernel)
theorem inX0 : ∀ w ∈ u_ws RX0 TX0 8, w ∈ wg := by
  intro w hw
  refine List.mem_filter.mpr ⟨List.mem_append_right _ ?_, ?_⟩
  · exact (show ∀ w ∈ u_ws RX0 TX0 8, w ∈ tables_1 by decide +kernel) w hw
  · exact (show ∀ w ∈ u_ws RX0 TX0 8, goodWord w = true by decide +kernel) w hw
theorem inX1 : ∀ w ∈ u_ws RX1 TX1 7, w ∈ wg := by
  intro w hw
  refine List.mem_filter.mpr ⟨List.mem_append_right _ ?_, ?_⟩
  · exact (show ∀ w ∈ u_ws RX1 TX1 7, w ∈ tables_1 by decide +kernel) w hw
  · exact (show ∀ w ∈ u_ws RX1 TX1 7, goodWord w = true by decide +kernel) w hw
theorem inX2 : ∀ w ∈ u_ws RX2 TX2 2, w ∈ wg := by
  intro w hw
  refine List.mem_filter.mpr ⟨List.mem_append_right _ ?_, ?_⟩
  · exact (show ∀ w ∈ u_ws RX2 TX2 2, w ∈ tables_1 by decide +kernel) w hw
  · exact (show ∀ w ∈ u_ws RX2 TX2 2, goodWord w = true by decide +kernel) w hw
theorem inX3 : ∀ w ∈ u_ws RX3 TX3 8, w ∈ wg := by
  intro w hw
  refine List.mem_filter.mpr ⟨List.mem_append_right _ ?_, ?_⟩
  · exact (show ∀ w ∈ u_ws RX3 TX3 8, w ∈ tables_1 by decide +kernel) w hw
  · exact (show ∀ w ∈ u_ws RX3 TX3 8, goodWord w = true by decide +kernel) w hw
theorem inX4 : ∀ w ∈ u_ws RX4 TX4 23, w ∈ wg := by
  intro w hw
  refine List.mem_filter.mpr ⟨List.mem_append_right _ ?_, ?_⟩
  · exact (show ∀ w ∈ u_ws RX4 TX4 23, w ∈ tables_1 by decide +kernel) w hw
  · exact (show ∀ w ∈ u_ws RX4 TX4 23, goodWord w = true by decide +kernel) w hw
