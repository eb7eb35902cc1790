section
-- ===== PART A: goes FIRST, ahead of the names: the tables' words, and 'selects' of the private methods out of them =====
/-- a private method of a class that the tables say can be made, by its rows of tables_1 -/
def lw_okq (q : MethodName × Nat) : Prop := (q.1.cls ≠ "java/lang/invoke/MethodHandle" ∧ q.1.cls ≠ "java/lang/invoke/VarHandle") ∧ Cond.instantiable q.1.cls q.2 ∈ tables_1 ∧ Cond.privateMethod q.1 ∈ tables_1 ∧ Cond.instanceMethod q.1 ∈ tables_1
theorem lw_p0 : lw_okq (⟨"PaperStates", "noticeAt", "(I)LPaperStates$Notice;"⟩, 8) := ⟨⟨by decide +kernel, by decide +kernel⟩, List.mem_of_getElem? (i := 7) (by decide +kernel), List.mem_of_getElem? (i := 64) (by decide +kernel), List.mem_of_getElem? (i := 65) (by decide +kernel)⟩
theorem lw_p1 : lw_okq (⟨"PaperStates$Notice", "countOf", "(I)I"⟩, 7) := ⟨⟨by decide +kernel, by decide +kernel⟩, List.mem_of_getElem? (i := 76) (by decide +kernel), List.mem_of_getElem? (i := 132) (by decide +kernel), List.mem_of_getElem? (i := 133) (by decide +kernel)⟩
theorem lw_p2 : lw_okq (⟨"PaperStates", "gramsInMoves", "(I)J"⟩, 8) := ⟨⟨by decide +kernel, by decide +kernel⟩, List.mem_of_getElem? (i := 7) (by decide +kernel), List.mem_of_getElem? (i := 144) (by decide +kernel), List.mem_of_getElem? (i := 145) (by decide +kernel)⟩
theorem lw_p3 : lw_okq (⟨"PaperStates", "moveAt", "(I)LPaperStates$Move;"⟩, 8) := ⟨⟨by decide +kernel, by decide +kernel⟩, List.mem_of_getElem? (i := 7) (by decide +kernel), List.mem_of_getElem? (i := 148) (by decide +kernel), List.mem_of_getElem? (i := 149) (by decide +kernel)⟩
theorem lw_p4 : lw_okq (⟨"PaperStates", "hasRight", "(II)Z"⟩, 8) := ⟨⟨by decide +kernel, by decide +kernel⟩, List.mem_of_getElem? (i := 7) (by decide +kernel), List.mem_of_getElem? (i := 209) (by decide +kernel), List.mem_of_getElem? (i := 210) (by decide +kernel)⟩
theorem lw_p5 : lw_okq (⟨"PaperStates", "canBeTaken", "(LPaperStates$Move;)Z"⟩, 8) := ⟨⟨by decide +kernel, by decide +kernel⟩, List.mem_of_getElem? (i := 7) (by decide +kernel), List.mem_of_getElem? (i := 222) (by decide +kernel), List.mem_of_getElem? (i := 223) (by decide +kernel)⟩
theorem lw_p6 : lw_okq (⟨"PaperStates", "gramsRecovered", "(I)J"⟩, 8) := ⟨⟨by decide +kernel, by decide +kernel⟩, List.mem_of_getElem? (i := 7) (by decide +kernel), List.mem_of_getElem? (i := 248) (by decide +kernel), List.mem_of_getElem? (i := 249) (by decide +kernel)⟩
theorem lw_p7 : lw_okq (⟨"PaperStates", "isLate", "(LPaperStates$Move;)Z"⟩, 8) := ⟨⟨by decide +kernel, by decide +kernel⟩, List.mem_of_getElem? (i := 7) (by decide +kernel), List.mem_of_getElem? (i := 263) (by decide +kernel), List.mem_of_getElem? (i := 264) (by decide +kernel)⟩
theorem lw_p8 : lw_okq (⟨"PaperStates", "writeHead", "(ILPaperStates$Notice;)V"⟩, 8) := ⟨⟨by decide +kernel, by decide +kernel⟩, List.mem_of_getElem? (i := 7) (by decide +kernel), List.mem_of_getElem? (i := 292) (by decide +kernel), List.mem_of_getElem? (i := 293) (by decide +kernel)⟩
theorem lw_p9 : lw_okq (⟨"PaperStates", "writeMove", "(ILPaperStates$Move;)V"⟩, 8) := ⟨⟨by decide +kernel, by decide +kernel⟩, List.mem_of_getElem? (i := 7) (by decide +kernel), List.mem_of_getElem? (i := 308) (by decide +kernel), List.mem_of_getElem? (i := 309) (by decide +kernel)⟩
theorem lw_p10 : lw_okq (⟨"PaperStatesModel", "isSilent", "(II)Z"⟩, 23) := ⟨⟨by decide +kernel, by decide +kernel⟩, List.mem_of_getElem? (i := 322) (by decide +kernel), List.mem_of_getElem? (i := 407) (by decide +kernel), List.mem_of_getElem? (i := 408) (by decide +kernel)⟩
theorem lw_p11 : lw_okq (⟨"PaperStatesModel", "isNotice", "(I)Z"⟩, 23) := ⟨⟨by decide +kernel, by decide +kernel⟩, List.mem_of_getElem? (i := 322) (by decide +kernel), List.mem_of_getElem? (i := 420) (by decide +kernel), List.mem_of_getElem? (i := 421) (by decide +kernel)⟩
theorem lw_p12 : lw_okq (⟨"PaperStatesModel", "isMove", "(I)Z"⟩, 23) := ⟨⟨by decide +kernel, by decide +kernel⟩, List.mem_of_getElem? (i := 322) (by decide +kernel), List.mem_of_getElem? (i := 450) (by decide +kernel), List.mem_of_getElem? (i := 451) (by decide +kernel)⟩
theorem lw_p13 : lw_okq (⟨"PaperStatesModel", "putNumber", "(J)V"⟩, 23) := ⟨⟨by decide +kernel, by decide +kernel⟩, List.mem_of_getElem? (i := 322) (by decide +kernel), List.mem_of_getElem? (i := 511) (by decide +kernel), List.mem_of_getElem? (i := 512) (by decide +kernel)⟩
theorem lw_p14 : lw_okq (⟨"PaperStatesModel", "put", "(I)V"⟩, 23) := ⟨⟨by decide +kernel, by decide +kernel⟩, List.mem_of_getElem? (i := 322) (by decide +kernel), List.mem_of_getElem? (i := 518) (by decide +kernel), List.mem_of_getElem? (i := 519) (by decide +kernel)⟩
def lw_privs_1 : List (MethodName × Nat) := [(⟨"PaperStates", "noticeAt", "(I)LPaperStates$Notice;"⟩, 8), (⟨"PaperStates$Notice", "countOf", "(I)I"⟩, 7), (⟨"PaperStates", "gramsInMoves", "(I)J"⟩, 8), (⟨"PaperStates", "moveAt", "(I)LPaperStates$Move;"⟩, 8), (⟨"PaperStates", "hasRight", "(II)Z"⟩, 8), (⟨"PaperStates", "canBeTaken", "(LPaperStates$Move;)Z"⟩, 8), (⟨"PaperStates", "gramsRecovered", "(I)J"⟩, 8), (⟨"PaperStates", "isLate", "(LPaperStates$Move;)Z"⟩, 8), (⟨"PaperStates", "writeHead", "(ILPaperStates$Notice;)V"⟩, 8), (⟨"PaperStates", "writeMove", "(ILPaperStates$Move;)V"⟩, 8), (⟨"PaperStatesModel", "isSilent", "(II)Z"⟩, 23), (⟨"PaperStatesModel", "isNotice", "(I)Z"⟩, 23), (⟨"PaperStatesModel", "isMove", "(I)Z"⟩, 23), (⟨"PaperStatesModel", "putNumber", "(J)V"⟩, 23), (⟨"PaperStatesModel", "put", "(I)V"⟩, 23)]
theorem lw_r1 : ∀ q ∈ lw_privs_1, lw_okq q := List.forall_mem_cons.mpr ⟨lw_p0, List.forall_mem_cons.mpr ⟨lw_p1, List.forall_mem_cons.mpr ⟨lw_p2, List.forall_mem_cons.mpr ⟨lw_p3, List.forall_mem_cons.mpr ⟨lw_p4, List.forall_mem_cons.mpr ⟨lw_p5, List.forall_mem_cons.mpr ⟨lw_p6, List.forall_mem_cons.mpr ⟨lw_p7, List.forall_mem_cons.mpr ⟨lw_p8, List.forall_mem_cons.mpr ⟨lw_p9, List.forall_mem_cons.mpr ⟨lw_p10, List.forall_mem_cons.mpr ⟨lw_p11, List.forall_mem_cons.mpr ⟨lw_p12, List.forall_mem_cons.mpr ⟨lw_p13, List.forall_mem_cons.mpr ⟨lw_p14, fun _ h => absurd h List.not_mem_nil⟩⟩⟩⟩⟩⟩⟩⟩⟩⟩⟩⟩⟩⟩⟩
def lw_privs : List (MethodName × Nat) := lw_privs_1
def lw_tbl : List Cond := k2_sels lw_privs ++ tables_1
theorem lw_privs_ok : ∀ q ∈ lw_privs, lw_okq q := lw_r1
end
section
/-! NAMES: classes, fields, methods, words. Printed by wip/gen/names.py out of the listing and the Statement. -/
def RX0 : String := "PaperStates$Move"
def TX0 : u_T := fun k => match k with
  | 0 => ("PaperStates$Move", "notice", "I", true)
  | 1 => ("PaperStates$Move", "grams", "J", true)
  | 2 => ("PaperStates$Move", "day", "I", true)
  | 3 => ("PaperStates$Move", "carriers", "[I", true)
  | 4 => ("PaperStates$Move", "carrierCount", "I", false)
  | 5 => ("PaperStates$Move", "state", "I", false)
  | 6 => ("PaperStates$Move", "since", "I", false)
  | _ => ("PaperStates$Move", "marked", "Z", false)
def tyX0 : Nat → FieldType := fun k => match k with
  | 0 => .int
  | 1 => .long
  | 2 => .int
  | 3 => .array .int
  | 4 => .int
  | 5 => .int
  | 6 => .int
  | _ => .boolean
theorem nmX0 : ∀ a, a < 8 → ∀ b, b < 8 → a ≠ b → (TX0 a).2.1 ≠ (TX0 b).2.1 := by decide +kernel
theorem tyX0_ok : ∀ k, k < 8 → parseFieldDescriptor (TX0 k).2.2.1 = some (tyX0 k) := by decide +kernel
def RX1 : String := "PaperStates$Notice"
def TX1 : u_T := fun k => match k with
  | 0 => ("PaperStates$Notice", "grams", "J", true)
  | 1 => ("PaperStates$Notice", "from", "I", true)
  | 2 => ("PaperStates$Notice", "to", "I", true)
  | 3 => ("PaperStates$Notice", "answers", "[I", true)
  | 4 => ("PaperStates$Notice", "askedOn", "[I", true)
  | 5 => ("PaperStates$Notice", "daysOf", "[I", true)
  | _ => ("PaperStates$Notice", "cents", "J", false)
def tyX1 : Nat → FieldType := fun k => match k with
  | 0 => .long
  | 1 => .int
  | 2 => .int
  | 3 => .array .int
  | 4 => .array .int
  | 5 => .array .int
  | _ => .long
theorem nmX1 : ∀ a, a < 7 → ∀ b, b < 7 → a ≠ b → (TX1 a).2.1 ≠ (TX1 b).2.1 := by decide +kernel
theorem tyX1_ok : ∀ k, k < 7 → parseFieldDescriptor (TX1 k).2.2.1 = some (tyX1 k) := by decide +kernel
def RX2 : String := "PaperStates$Paper"
def TX2 : u_T := fun k => match k with
  | 0 => ("PaperStates$Paper", "row", "[B", true)
  | _ => ("PaperStates$Paper", "length", "I", false)
def tyX2 : Nat → FieldType := fun k => match k with
  | 0 => .array .byte
  | _ => .int
theorem nmX2 : ∀ a, a < 2 → ∀ b, b < 2 → a ≠ b → (TX2 a).2.1 ≠ (TX2 b).2.1 := by decide +kernel
theorem tyX2_ok : ∀ k, k < 2 → parseFieldDescriptor (TX2 k).2.2.1 = some (tyX2 k) := by decide +kernel
def RX3 : String := "PaperStates"
def TX3 : u_T := fun k => match k with
  | 0 => ("PaperStates", "notices", "[LPaperStates$Notice;", true)
  | 1 => ("PaperStates", "moves", "[LPaperStates$Move;", true)
  | 2 => ("PaperStates", "rights", "[Z", true)
  | 3 => ("PaperStates", "paper", "LPaperStates$Paper;", true)
  | 4 => ("PaperStates", "noticeCount", "I", false)
  | 5 => ("PaperStates", "moveCount", "I", false)
  | 6 => ("PaperStates", "today", "I", false)
  | _ => ("PaperStates", "limitDays", "I", false)
def tyX3 : Nat → FieldType := fun k => match k with
  | 0 => .array (.object "PaperStates$Notice")
  | 1 => .array (.object "PaperStates$Move")
  | 2 => .array .boolean
  | 3 => .object "PaperStates$Paper"
  | 4 => .int
  | 5 => .int
  | 6 => .int
  | _ => .int
theorem nmX3 : ∀ a, a < 8 → ∀ b, b < 8 → a ≠ b → (TX3 a).2.1 ≠ (TX3 b).2.1 := by decide +kernel
theorem tyX3_ok : ∀ k, k < 8 → parseFieldDescriptor (TX3 k).2.2.1 = some (tyX3 k) := by decide +kernel
def RX4 : String := "PaperStatesModel"
def TX4 : u_T := fun k => match k with
  | 0 => ("PaperStatesModel", "today", "I", false)
  | 1 => ("PaperStatesModel", "notices", "I", false)
  | 2 => ("PaperStatesModel", "weights", "[J", true)
  | 3 => ("PaperStatesModel", "froms", "[I", true)
  | 4 => ("PaperStatesModel", "tos", "[I", true)
  | 5 => ("PaperStatesModel", "cents", "[J", true)
  | 6 => ("PaperStatesModel", "has", "[Z", true)
  | 7 => ("PaperStatesModel", "days", "[I", true)
  | 8 => ("PaperStatesModel", "askedOn", "[I", true)
  | 9 => ("PaperStatesModel", "said", "[I", true)
  | 10 => ("PaperStatesModel", "moves", "I", false)
  | 11 => ("PaperStatesModel", "noticeOf", "[I", true)
  | 12 => ("PaperStatesModel", "grams", "[J", true)
  | 13 => ("PaperStatesModel", "moveDays", "[I", true)
  | 14 => ("PaperStatesModel", "states", "[I", true)
  | 15 => ("PaperStatesModel", "since", "[I", true)
  | 16 => ("PaperStatesModel", "marked", "[Z", true)
  | 17 => ("PaperStatesModel", "carrierCounts", "[I", true)
  | 18 => ("PaperStatesModel", "carriers", "[I", true)
  | 19 => ("PaperStatesModel", "rights", "[Z", true)
  | 20 => ("PaperStatesModel", "limit", "I", false)
  | 21 => ("PaperStatesModel", "rest", "I", false)
  | _ => ("PaperStatesModel", "looked", "I", false)
def tyX4 : Nat → FieldType := fun k => match k with
  | 0 => .int
  | 1 => .int
  | 2 => .array .long
  | 3 => .array .int
  | 4 => .array .int
  | 5 => .array .long
  | 6 => .array .boolean
  | 7 => .array .int
  | 8 => .array .int
  | 9 => .array .int
  | 10 => .int
  | 11 => .array .int
  | 12 => .array .long
  | 13 => .array .int
  | 14 => .array .int
  | 15 => .array .int
  | 16 => .array .boolean
  | 17 => .array .int
  | 18 => .array .int
  | 19 => .array .boolean
  | 20 => .int
  | 21 => .int
  | _ => .int
theorem nmX4 : ∀ a, a < 23 → ∀ b, b < 23 → a ≠ b → (TX4 a).2.1 ≠ (TX4 b).2.1 := by decide +kernel
theorem tyX4_ok : ∀ k, k < 23 → parseFieldDescriptor (TX4 k).2.2.1 = some (tyX4 k) := by decide +kernel
def RL : String := "PaperStatesLaw"
abbrev vwCl : List vw_C := [(RX0, TX0, 8), (RX1, TX1, 7), (RX2, TX2, 2), (RX3, TX3, 8), (RX4, TX4, 23)]
abbrev cX3_init : ByteArray := prog_1_method_1_code
def yX3_init : MethodName := ⟨RX3, "<init>", "()V"⟩
abbrev cX3_day : ByteArray := prog_1_method_2_code
def yX3_day : MethodName := ⟨RX3, "day", "(I)I"⟩
abbrev cX3_notice : ByteArray := prog_1_method_3_code
def yX3_notice : MethodName := ⟨RX3, "notice", "(JII)I"⟩
abbrev cX3_country : ByteArray := prog_1_method_4_code
def yX3_country : MethodName := ⟨RX3, "country", "(III)Z"⟩
abbrev cX3_says : ByteArray := prog_1_method_5_code
def yX3_says : MethodName := ⟨RX3, "says", "(IIZ)Z"⟩
abbrev cX3_state : ByteArray := prog_1_method_6_code
def yX3_state : MethodName := ⟨RX3, "state", "(I)I"⟩
abbrev cX3_move : ByteArray := prog_1_method_7_code
def yX3_move : MethodName := ⟨RX3, "move", "(IJI)I"⟩
abbrev cX3_moveState : ByteArray := prog_1_method_8_code
def yX3_moveState : MethodName := ⟨RX3, "moveState", "(I)I"⟩
abbrev cX3_right : ByteArray := prog_1_method_9_code
def yX3_right : MethodName := ⟨RX3, "right", "(IIZ)Z"⟩
abbrev cX3_may : ByteArray := prog_1_method_10_code
def yX3_may : MethodName := ⟨RX3, "may", "(II)Z"⟩
abbrev cX3_event : ByteArray := prog_1_method_11_code
def yX3_event : MethodName := ⟨RX3, "event", "(III)I"⟩
abbrev cX3_mark : ByteArray := prog_1_method_12_code
def yX3_mark : MethodName := ⟨RX3, "mark", "(III)Z"⟩
abbrev cX3_left : ByteArray := prog_1_method_13_code
def yX3_left : MethodName := ⟨RX3, "left", "(I)J"⟩
abbrev cX3_bank : ByteArray := prog_1_method_14_code
def yX3_bank : MethodName := ⟨RX3, "bank", "(IJ)Z"⟩
abbrev cX3_held : ByteArray := prog_1_method_15_code
def yX3_held : MethodName := ⟨RX3, "held", "(I)J"⟩
abbrev cX3_limit : ByteArray := prog_1_method_16_code
def yX3_limit : MethodName := ⟨RX3, "limit", "(I)Z"⟩
abbrev cX3_late : ByteArray := prog_1_method_17_code
def yX3_late : MethodName := ⟨RX3, "late", "(I)I"⟩
abbrev cX3_carrier : ByteArray := prog_1_method_18_code
def yX3_carrier : MethodName := ⟨RX3, "carrier", "(II)I"⟩
abbrev cX3_back : ByteArray := prog_1_method_19_code
def yX3_back : MethodName := ⟨RX3, "back", "(II)I"⟩
abbrev cX3_print : ByteArray := prog_1_method_20_code
def yX3_print : MethodName := ⟨RX3, "print", "(II)I"⟩
abbrev cX3_noticeAt : ByteArray := prog_1_method_21_code
def yX3_noticeAt : MethodName := ⟨RX3, "noticeAt", "(I)LPaperStates$Notice;"⟩
abbrev cX3_moveAt : ByteArray := prog_1_method_22_code
def yX3_moveAt : MethodName := ⟨RX3, "moveAt", "(I)LPaperStates$Move;"⟩
abbrev cX3_isPerson : ByteArray := prog_1_method_23_code
def yX3_isPerson : MethodName := ⟨RX3, "isPerson", "(I)Z"⟩
abbrev cX3_isEvent : ByteArray := prog_1_method_24_code
def yX3_isEvent : MethodName := ⟨RX3, "isEvent", "(I)Z"⟩
abbrev cX3_hasRight : ByteArray := prog_1_method_25_code
def yX3_hasRight : MethodName := ⟨RX3, "hasRight", "(II)Z"⟩
abbrev cX3_nextState : ByteArray := prog_1_method_26_code
def yX3_nextState : MethodName := ⟨RX3, "nextState", "(II)I"⟩
abbrev cX3_canBeTaken : ByteArray := prog_1_method_27_code
def yX3_canBeTaken : MethodName := ⟨RX3, "canBeTaken", "(LPaperStates$Move;)Z"⟩
abbrev cX3_isLate : ByteArray := prog_1_method_28_code
def yX3_isLate : MethodName := ⟨RX3, "isLate", "(LPaperStates$Move;)Z"⟩
abbrev cX3_gramsInMoves : ByteArray := prog_1_method_29_code
def yX3_gramsInMoves : MethodName := ⟨RX3, "gramsInMoves", "(I)J"⟩
abbrev cX3_gramsRecovered : ByteArray := prog_1_method_30_code
def yX3_gramsRecovered : MethodName := ⟨RX3, "gramsRecovered", "(I)J"⟩
abbrev cX3_shareUp : ByteArray := prog_1_method_31_code
def yX3_shareUp : MethodName := ⟨RX3, "shareUp", "(JJJ)J"⟩
abbrev cX3_writeHead : ByteArray := prog_1_method_32_code
def yX3_writeHead : MethodName := ⟨RX3, "writeHead", "(ILPaperStates$Notice;)V"⟩
abbrev cX3_writeMove : ByteArray := prog_1_method_33_code
def yX3_writeMove : MethodName := ⟨RX3, "writeMove", "(ILPaperStates$Move;)V"⟩
abbrev cX4_init : ByteArray := prog_6_method_1_code
def yX4_init : MethodName := ⟨RX4, "<init>", "()V"⟩
abbrev cX4_isIn : ByteArray := prog_6_method_3_code
def yX4_isIn : MethodName := ⟨RX4, "isIn", "(JJJ)Z"⟩
abbrev cX4_isNotice : ByteArray := prog_6_method_4_code
def yX4_isNotice : MethodName := ⟨RX4, "isNotice", "(I)Z"⟩
abbrev cX4_isMove : ByteArray := prog_6_method_5_code
def yX4_isMove : MethodName := ⟨RX4, "isMove", "(I)Z"⟩
abbrev cX4_isCountry : ByteArray := prog_6_method_6_code
def yX4_isCountry : MethodName := ⟨RX4, "isCountry", "(I)Z"⟩
abbrev cX4_isPerson : ByteArray := prog_6_method_7_code
def yX4_isPerson : MethodName := ⟨RX4, "isPerson", "(I)Z"⟩
abbrev cX4_isEvent : ByteArray := prog_6_method_8_code
def yX4_isEvent : MethodName := ⟨RX4, "isEvent", "(I)Z"⟩
abbrev cX4_isSilent : ByteArray := prog_6_method_9_code
def yX4_isSilent : MethodName := ⟨RX4, "isSilent", "(II)Z"⟩
abbrev cX4_day : ByteArray := prog_6_method_10_code
def yX4_day : MethodName := ⟨RX4, "day", "(I)I"⟩
abbrev cX4_notice : ByteArray := prog_6_method_11_code
def yX4_notice : MethodName := ⟨RX4, "notice", "(JII)I"⟩
abbrev cX4_country : ByteArray := prog_6_method_12_code
def yX4_country : MethodName := ⟨RX4, "country", "(III)Z"⟩
abbrev cX4_says : ByteArray := prog_6_method_13_code
def yX4_says : MethodName := ⟨RX4, "says", "(IIZ)Z"⟩
abbrev cX4_state : ByteArray := prog_6_method_14_code
def yX4_state : MethodName := ⟨RX4, "state", "(I)I"⟩
abbrev cX4_move : ByteArray := prog_6_method_15_code
def yX4_move : MethodName := ⟨RX4, "move", "(IJI)I"⟩
abbrev cX4_moveState : ByteArray := prog_6_method_16_code
def yX4_moveState : MethodName := ⟨RX4, "moveState", "(I)I"⟩
abbrev cX4_right : ByteArray := prog_6_method_17_code
def yX4_right : MethodName := ⟨RX4, "right", "(IIZ)Z"⟩
abbrev cX4_may : ByteArray := prog_6_method_18_code
def yX4_may : MethodName := ⟨RX4, "may", "(II)Z"⟩
abbrev cX4_leads : ByteArray := prog_6_method_19_code
def yX4_leads : MethodName := ⟨RX4, "leads", "(II)Z"⟩
abbrev cX4_event : ByteArray := prog_6_method_20_code
def yX4_event : MethodName := ⟨RX4, "event", "(III)I"⟩
abbrev cX4_mark : ByteArray := prog_6_method_21_code
def yX4_mark : MethodName := ⟨RX4, "mark", "(III)Z"⟩
abbrev cX4_left : ByteArray := prog_6_method_22_code
def yX4_left : MethodName := ⟨RX4, "left", "(I)J"⟩
abbrev cX4_bank : ByteArray := prog_6_method_23_code
def yX4_bank : MethodName := ⟨RX4, "bank", "(IJ)Z"⟩
abbrev cX4_held : ByteArray := prog_6_method_24_code
def yX4_held : MethodName := ⟨RX4, "held", "(I)J"⟩
abbrev cX4_limit : ByteArray := prog_6_method_25_code
def yX4_limit : MethodName := ⟨RX4, "limit", "(I)Z"⟩
abbrev cX4_late : ByteArray := prog_6_method_26_code
def yX4_late : MethodName := ⟨RX4, "late", "(I)I"⟩
abbrev cX4_carrier : ByteArray := prog_6_method_27_code
def yX4_carrier : MethodName := ⟨RX4, "carrier", "(II)I"⟩
abbrev cX4_back : ByteArray := prog_6_method_28_code
def yX4_back : MethodName := ⟨RX4, "back", "(II)I"⟩
abbrev cX4_put : ByteArray := prog_6_method_29_code
def yX4_put : MethodName := ⟨RX4, "put", "(I)V"⟩
abbrev cX4_putNumber : ByteArray := prog_6_method_30_code
def yX4_putNumber : MethodName := ⟨RX4, "putNumber", "(J)V"⟩
abbrev cX4_letterOf : ByteArray := prog_6_method_31_code
def yX4_letterOf : MethodName := ⟨RX4, "letterOf", "(I)I"⟩
abbrev cX4_print : ByteArray := prog_6_method_32_code
def yX4_print : MethodName := ⟨RX4, "print", "(II)I"⟩
abbrev cX0_init : ByteArray := prog_2_method_1_code
def yX0_init : MethodName := ⟨RX0, "<init>", "(IJII)V"⟩
abbrev cX0_enter : ByteArray := prog_2_method_2_code
def yX0_enter : MethodName := ⟨RX0, "enter", "(II)V"⟩
abbrev cX0_usesGrams : ByteArray := prog_2_method_3_code
def yX0_usesGrams : MethodName := ⟨RX0, "usesGrams", "()Z"⟩
abbrev cX0_addCarrier : ByteArray := prog_2_method_4_code
def yX0_addCarrier : MethodName := ⟨RX0, "addCarrier", "(I)I"⟩
abbrev cX0_carrierBack : ByteArray := prog_2_method_5_code
def yX0_carrierBack : MethodName := ⟨RX0, "carrierBack", "(I)I"⟩
abbrev cX0_letter : ByteArray := prog_2_method_6_code
def yX0_letter : MethodName := ⟨RX0, "letter", "()C"⟩
abbrev cX1_init : ByteArray := prog_3_method_1_code
def yX1_init : MethodName := ⟨RX1, "<init>", "(JII)V"⟩
abbrev cX1_covers : ByteArray := prog_3_method_2_code
def yX1_covers : MethodName := ⟨RX1, "covers", "(I)Z"⟩
abbrev cX1_ask : ByteArray := prog_3_method_3_code
def yX1_ask : MethodName := ⟨RX1, "ask", "(III)Z"⟩
abbrev cX1_answer : ByteArray := prog_3_method_4_code
def yX1_answer : MethodName := ⟨RX1, "answer", "(IZ)Z"⟩
abbrev cX1_agreeSilently : ByteArray := prog_3_method_5_code
def yX1_agreeSilently : MethodName := ⟨RX1, "agreeSilently", "(I)I"⟩
abbrev cX1_stateOn : ByteArray := prog_3_method_6_code
def yX1_stateOn : MethodName := ⟨RX1, "stateOn", "(I)I"⟩
abbrev cX1_countOf : ByteArray := prog_3_method_7_code
def yX1_countOf : MethodName := ⟨RX1, "countOf", "(I)I"⟩
abbrev cX2_init : ByteArray := prog_4_method_1_code
def yX2_init : MethodName := ⟨RX2, "<init>", "()V"⟩
abbrev cX2_clear : ByteArray := prog_4_method_2_code
def yX2_clear : MethodName := ⟨RX2, "clear", "()V"⟩
abbrev cX2_add : ByteArray := prog_4_method_3_code
def yX2_add : MethodName := ⟨RX2, "add", "(C)V"⟩
abbrev cX2_addNumber : ByteArray := prog_4_method_4_code
def yX2_addNumber : MethodName := ⟨RX2, "addNumber", "(J)V"⟩
abbrev cX2_byteAt : ByteArray := prog_4_method_5_code
def yX2_byteAt : MethodName := ⟨RX2, "byteAt", "(I)I"⟩
/-- the words that hold on in every state that a call can come to -/
def wg : List Cond := lw_tbl.filter goodWord
theorem wg_good {w : Cond} (h : w ∈ wg) : (w.onTables && w.keeps) = true ∨ ∃ ty, w = .arrayClass ty := good_of_word (List.mem_filter.mp h).2
theorem wg_t {w : Cond} {i : Nat} (h : tables_1[i]? = some w) (hg : goodWord w = true) : w ∈ wg := List.mem_filter.mpr ⟨List.mem_append_right _ (List.mem_of_getElem? h), hg⟩
theorem wg_s {w : Cond} {i : Nat} (h : (k2_sels lw_privs)[i]? = some w) (hg : goodWord w = true) : w ∈ wg := List.mem_filter.mpr ⟨List.mem_append_left _ (List.mem_of_getElem? h), hg⟩
theorem wg_in {ws : List Cond} (h : ∀ w ∈ ws, w ∈ wg) : GoodIn wg ws := fun w hw => ⟨h w hw, wg_good (h w hw)⟩
theorem wg_self : GoodIn wg wg := wg_in fun _ h => h
theorem wg_I {co : Cond} (h5 : co ∈ wg) : GoodIn wg (co :: wg) := wg_in fun w hw => by
  rcases List.mem_cons.mp hw with h | h
  · rw [h]; exact h5
  · exact h
theorem wg_V {own C : String} {idx : Nat} {y : MethodName} {co : Cond} (h1 : Cond.methodLink own idx y ∈ wg) (h2 : Cond.instanceMethod y ∈ wg) (h3 : Cond.selects C y y ∈ wg) (h4 : Cond.initialized C ∈ wg) (h5 : co ∈ wg) : GoodIn wg (wsV own idx C y (co :: wg)) := wg_in fun w hw => by
  simp only [wsV, List.cons_append, List.nil_append, List.mem_cons] at hw
  rcases hw with h | h | h | h | h | h
  · rw [h]; exact h1
  · rw [h]; exact h2
  · rw [h]; exact h3
  · rw [h]; exact h4
  · rw [h]; exact h5
  · exact h
theorem wg_S {own : String} {idx : Nat} {y : MethodName} {co : Cond} (h1 : Cond.methodLink own idx y ∈ wg) (h2 : Cond.static y ∈ wg) (h4 : Cond.initialized own ∈ wg) (h5 : co ∈ wg) : GoodIn wg (wsS own idx y (co :: wg)) := wg_in fun w hw => by
  simp only [wsS, List.cons_append, List.nil_append, List.mem_cons] at hw
  rcases hw with h | h | h | h | h
  · rw [h]; exact h1
  · rw [h]; exact h2
  · rw [h]; exact h4
  · rw [h]; exact h5
  · exact h
theorem mw_0 : Cond.initialized RL ∈ wg := wg_t (i := 0) (by decide +kernel) (by decide +kernel)
theorem mw_1 : Cond.initialized RX3 ∈ wg := wg_t (i := 1) (by decide +kernel) (by decide +kernel)
theorem mw_2 : Cond.initialized RX2 ∈ wg := wg_t (i := 2) (by decide +kernel) (by decide +kernel)
theorem mw_3 : Cond.initialized RX4 ∈ wg := wg_t (i := 3) (by decide +kernel) (by decide +kernel)
theorem mw_4 : Cond.initialized RX1 ∈ wg := wg_t (i := 4) (by decide +kernel) (by decide +kernel)
theorem mw_5 : Cond.initialized RX0 ∈ wg := wg_t (i := 5) (by decide +kernel) (by decide +kernel)
theorem mw_6 : Cond.classLink RL (7) RX3 ∈ wg := wg_t (i := 6) (by decide +kernel) (by decide +kernel)
theorem mw_7 : Cond.instantiable RX3 (8) ∈ wg := wg_t (i := 7) (by decide +kernel) (by decide +kernel)
theorem mw_8 : Cond.methodLink RL (9) yX3_init ∈ wg := wg_t (i := 8) (by decide +kernel) (by decide +kernel)
theorem mw_9 : Cond.instanceMethod yX3_init ∈ wg := wg_t (i := 9) (by decide +kernel) (by decide +kernel)
theorem mw_10 : Cond.code yX3_init prog_1_method_1_code (1) (Option.none : Option FieldType) ∈ wg := wg_t (i := 10) (by decide +kernel) (by decide +kernel)
theorem mw_11 : Cond.methodLink RX3 (3) objectInit ∈ wg := wg_t (i := 11) (by decide +kernel) (by decide +kernel)
theorem mw_12 : Cond.instanceMethod objectInit ∈ wg := wg_t (i := 12) (by decide +kernel) (by decide +kernel)
theorem mw_14 : Cond.classLink RX3 (9) RX1 ∈ wg := wg_t (i := 14) (by decide +kernel) (by decide +kernel)
theorem mw_16 : Cond.classLink RX3 (15) RX0 ∈ wg := wg_t (i := 16) (by decide +kernel) (by decide +kernel)
theorem mw_18 : Cond.classLink RX3 (25) RX2 ∈ wg := wg_t (i := 18) (by decide +kernel) (by decide +kernel)
theorem mw_19 : Cond.instantiable RX2 (2) ∈ wg := wg_t (i := 19) (by decide +kernel) (by decide +kernel)
theorem mw_21 : Cond.instanceMethod yX2_init ∈ wg := wg_t (i := 21) (by decide +kernel) (by decide +kernel)
theorem mw_22 : Cond.code yX2_init prog_4_method_1_code (1) (Option.none : Option FieldType) ∈ wg := wg_t (i := 22) (by decide +kernel) (by decide +kernel)
theorem mw_23 : Cond.methodLink RX2 (3) objectInit ∈ wg := wg_t (i := 23) (by decide +kernel) (by decide +kernel)
theorem mw_24 : Cond.fieldLink RX2 (9) "PaperStates$Paper" "row" "[B" ∈ wg := wg_t (i := 24) (by decide +kernel) (by decide +kernel)
theorem mw_25 : Cond.fieldLink RX2 (15) "PaperStates$Paper" "length" "I" ∈ wg := wg_t (i := 25) (by decide +kernel) (by decide +kernel)
theorem mw_31 : Cond.arrayClass FieldType.boolean ∈ wg := wg_t (i := 31) (by decide +kernel) (by decide +kernel)
theorem mw_32 : Cond.arrayClass FieldType.byte ∈ wg := wg_t (i := 32) (by decide +kernel) (by decide +kernel)
theorem mw_33 : Cond.fieldLink RX3 (11) "PaperStates" "notices" "[LPaperStates$Notice;" ∈ wg := wg_t (i := 33) (by decide +kernel) (by decide +kernel)
theorem mw_34 : Cond.fieldLink RX3 (17) "PaperStates" "moves" "[LPaperStates$Move;" ∈ wg := wg_t (i := 34) (by decide +kernel) (by decide +kernel)
theorem mw_35 : Cond.fieldLink RX3 (21) "PaperStates" "rights" "[Z" ∈ wg := wg_t (i := 35) (by decide +kernel) (by decide +kernel)
theorem mw_36 : Cond.fieldLink RX3 (28) "PaperStates" "paper" "LPaperStates$Paper;" ∈ wg := wg_t (i := 36) (by decide +kernel) (by decide +kernel)
theorem mw_37 : Cond.fieldLink RX3 (40) "PaperStates" "noticeCount" "I" ∈ wg := wg_t (i := 37) (by decide +kernel) (by decide +kernel)
theorem mw_38 : Cond.fieldLink RX3 (67) "PaperStates" "moveCount" "I" ∈ wg := wg_t (i := 38) (by decide +kernel) (by decide +kernel)
theorem mw_39 : Cond.fieldLink RX3 (36) "PaperStates" "today" "I" ∈ wg := wg_t (i := 39) (by decide +kernel) (by decide +kernel)
theorem mw_40 : Cond.fieldLink RX3 (32) "PaperStates" "limitDays" "I" ∈ wg := wg_t (i := 40) (by decide +kernel) (by decide +kernel)
theorem mw_58 : Cond.methodLink RL (13) yX3_day ∈ wg := wg_t (i := 58) (by decide +kernel) (by decide +kernel)
theorem mw_59 : Cond.instanceMethod yX3_day ∈ wg := wg_t (i := 59) (by decide +kernel) (by decide +kernel)
theorem mw_60 : Cond.selects RX3 yX3_day yX3_day ∈ wg := wg_t (i := 60) (by decide +kernel) (by decide +kernel)
theorem mw_61 : Cond.code yX3_day prog_1_method_2_code (5) (Option.some FieldType.int) ∈ wg := wg_t (i := 61) (by decide +kernel) (by decide +kernel)
theorem mw_62 : Cond.constant RX3 (39) (100000) ∈ wg := wg_t (i := 62) (by decide +kernel) (by decide +kernel)
theorem mw_63 : Cond.methodLink RX3 (43) yX3_noticeAt ∈ wg := wg_t (i := 63) (by decide +kernel) (by decide +kernel)
theorem mw_65 : Cond.instanceMethod yX3_noticeAt ∈ wg := wg_t (i := 65) (by decide +kernel) (by decide +kernel)
theorem mw_66 : Cond.code yX3_noticeAt prog_1_method_21_code (2) (Option.some (FieldType.object "PaperStates$Notice")) ∈ wg := wg_t (i := 66) (by decide +kernel) (by decide +kernel)
theorem mw_67 : Cond.methodLink RX3 (47) yX1_agreeSilently ∈ wg := wg_t (i := 67) (by decide +kernel) (by decide +kernel)
theorem mw_68 : Cond.instanceMethod yX1_agreeSilently ∈ wg := wg_t (i := 68) (by decide +kernel) (by decide +kernel)
theorem mw_69 : Cond.selects RX1 yX1_agreeSilently yX1_agreeSilently ∈ wg := wg_t (i := 69) (by decide +kernel) (by decide +kernel)
theorem mw_70 : Cond.code yX1_agreeSilently prog_3_method_5_code (4) (Option.some FieldType.int) ∈ wg := wg_t (i := 70) (by decide +kernel) (by decide +kernel)
theorem mw_71 : Cond.methodLink RL (20) yX3_notice ∈ wg := wg_t (i := 71) (by decide +kernel) (by decide +kernel)
theorem mw_72 : Cond.instanceMethod yX3_notice ∈ wg := wg_t (i := 72) (by decide +kernel) (by decide +kernel)
theorem mw_73 : Cond.selects RX3 yX3_notice yX3_notice ∈ wg := wg_t (i := 73) (by decide +kernel) (by decide +kernel)
theorem mw_74 : Cond.code yX3_notice prog_1_method_3_code (6) (Option.some FieldType.int) ∈ wg := wg_t (i := 74) (by decide +kernel) (by decide +kernel)
theorem mw_75 : Cond.constantLong RX3 (51) (1000000000) ∈ wg := wg_t (i := 75) (by decide +kernel) (by decide +kernel)
theorem mw_76 : Cond.instantiable RX1 (7) ∈ wg := wg_t (i := 76) (by decide +kernel) (by decide +kernel)
theorem mw_77 : Cond.methodLink RX3 (53) yX1_init ∈ wg := wg_t (i := 77) (by decide +kernel) (by decide +kernel)
theorem mw_78 : Cond.instanceMethod yX1_init ∈ wg := wg_t (i := 78) (by decide +kernel) (by decide +kernel)
theorem mw_79 : Cond.code yX1_init prog_3_method_1_code (5) (Option.none : Option FieldType) ∈ wg := wg_t (i := 79) (by decide +kernel) (by decide +kernel)
theorem mw_80 : Cond.methodLink RX1 (3) objectInit ∈ wg := wg_t (i := 80) (by decide +kernel) (by decide +kernel)
theorem mw_81 : Cond.fieldLink RX1 (21) "PaperStates$Notice" "grams" "J" ∈ wg := wg_t (i := 81) (by decide +kernel) (by decide +kernel)
theorem mw_82 : Cond.fieldLink RX3 (74) "PaperStates$Notice" "grams" "J" ∈ wg := wg_t (i := 82) (by decide +kernel) (by decide +kernel)
theorem mw_83 : Cond.fieldLink RX1 (25) "PaperStates$Notice" "from" "I" ∈ wg := wg_t (i := 83) (by decide +kernel) (by decide +kernel)
theorem mw_84 : Cond.fieldLink RX3 (181) "PaperStates$Notice" "from" "I" ∈ wg := wg_t (i := 84) (by decide +kernel) (by decide +kernel)
theorem mw_85 : Cond.fieldLink RX1 (29) "PaperStates$Notice" "to" "I" ∈ wg := wg_t (i := 85) (by decide +kernel) (by decide +kernel)
theorem mw_86 : Cond.fieldLink RX3 (184) "PaperStates$Notice" "to" "I" ∈ wg := wg_t (i := 86) (by decide +kernel) (by decide +kernel)
theorem mw_87 : Cond.fieldLink RX1 (9) "PaperStates$Notice" "answers" "[I" ∈ wg := wg_t (i := 87) (by decide +kernel) (by decide +kernel)
theorem mw_88 : Cond.fieldLink RX1 (15) "PaperStates$Notice" "askedOn" "[I" ∈ wg := wg_t (i := 88) (by decide +kernel) (by decide +kernel)
theorem mw_89 : Cond.fieldLink RX1 (18) "PaperStates$Notice" "daysOf" "[I" ∈ wg := wg_t (i := 89) (by decide +kernel) (by decide +kernel)
theorem mw_90 : Cond.fieldLink RX3 (120) "PaperStates$Notice" "cents" "J" ∈ wg := wg_t (i := 90) (by decide +kernel) (by decide +kernel)
theorem mw_106 : Cond.arrayClass FieldType.int ∈ wg := wg_t (i := 106) (by decide +kernel) (by decide +kernel)
theorem mw_107 : Cond.methodLink RL (25) yX3_country ∈ wg := wg_t (i := 107) (by decide +kernel) (by decide +kernel)
theorem mw_108 : Cond.instanceMethod yX3_country ∈ wg := wg_t (i := 108) (by decide +kernel) (by decide +kernel)
theorem mw_109 : Cond.selects RX3 yX3_country yX3_country ∈ wg := wg_t (i := 109) (by decide +kernel) (by decide +kernel)
theorem mw_110 : Cond.code yX3_country prog_1_method_4_code (5) (Option.some FieldType.boolean) ∈ wg := wg_t (i := 110) (by decide +kernel) (by decide +kernel)
theorem mw_111 : Cond.methodLink RX3 (56) yX1_ask ∈ wg := wg_t (i := 111) (by decide +kernel) (by decide +kernel)
theorem mw_112 : Cond.instanceMethod yX1_ask ∈ wg := wg_t (i := 112) (by decide +kernel) (by decide +kernel)
theorem mw_113 : Cond.selects RX1 yX1_ask yX1_ask ∈ wg := wg_t (i := 113) (by decide +kernel) (by decide +kernel)
theorem mw_114 : Cond.code yX1_ask prog_3_method_3_code (4) (Option.some FieldType.boolean) ∈ wg := wg_t (i := 114) (by decide +kernel) (by decide +kernel)
theorem mw_115 : Cond.methodLink RL (30) yX3_says ∈ wg := wg_t (i := 115) (by decide +kernel) (by decide +kernel)
theorem mw_116 : Cond.instanceMethod yX3_says ∈ wg := wg_t (i := 116) (by decide +kernel) (by decide +kernel)
theorem mw_117 : Cond.selects RX3 yX3_says yX3_says ∈ wg := wg_t (i := 117) (by decide +kernel) (by decide +kernel)
theorem mw_118 : Cond.code yX3_says prog_1_method_5_code (5) (Option.some FieldType.boolean) ∈ wg := wg_t (i := 118) (by decide +kernel) (by decide +kernel)
theorem mw_119 : Cond.methodLink RX3 (60) yX1_answer ∈ wg := wg_t (i := 119) (by decide +kernel) (by decide +kernel)
theorem mw_120 : Cond.instanceMethod yX1_answer ∈ wg := wg_t (i := 120) (by decide +kernel) (by decide +kernel)
theorem mw_121 : Cond.selects RX1 yX1_answer yX1_answer ∈ wg := wg_t (i := 121) (by decide +kernel) (by decide +kernel)
theorem mw_122 : Cond.code yX1_answer prog_3_method_4_code (3) (Option.some FieldType.boolean) ∈ wg := wg_t (i := 122) (by decide +kernel) (by decide +kernel)
theorem mw_123 : Cond.methodLink RL (35) yX3_state ∈ wg := wg_t (i := 123) (by decide +kernel) (by decide +kernel)
theorem mw_124 : Cond.instanceMethod yX3_state ∈ wg := wg_t (i := 124) (by decide +kernel) (by decide +kernel)
theorem mw_125 : Cond.selects RX3 yX3_state yX3_state ∈ wg := wg_t (i := 125) (by decide +kernel) (by decide +kernel)
theorem mw_126 : Cond.code yX3_state prog_1_method_6_code (3) (Option.some FieldType.int) ∈ wg := wg_t (i := 126) (by decide +kernel) (by decide +kernel)
theorem mw_127 : Cond.methodLink RX3 (64) yX1_stateOn ∈ wg := wg_t (i := 127) (by decide +kernel) (by decide +kernel)
theorem mw_128 : Cond.instanceMethod yX1_stateOn ∈ wg := wg_t (i := 128) (by decide +kernel) (by decide +kernel)
theorem mw_129 : Cond.selects RX1 yX1_stateOn yX1_stateOn ∈ wg := wg_t (i := 129) (by decide +kernel) (by decide +kernel)
theorem mw_130 : Cond.code yX1_stateOn prog_3_method_6_code (2) (Option.some FieldType.int) ∈ wg := wg_t (i := 130) (by decide +kernel) (by decide +kernel)
theorem mw_131 : Cond.methodLink RX1 (32) yX1_countOf ∈ wg := wg_t (i := 131) (by decide +kernel) (by decide +kernel)
theorem mw_133 : Cond.instanceMethod yX1_countOf ∈ wg := wg_t (i := 133) (by decide +kernel) (by decide +kernel)
theorem mw_134 : Cond.code yX1_countOf prog_3_method_7_code (4) (Option.some FieldType.int) ∈ wg := wg_t (i := 134) (by decide +kernel) (by decide +kernel)
theorem mw_135 : Cond.methodLink RL (39) yX3_move ∈ wg := wg_t (i := 135) (by decide +kernel) (by decide +kernel)
theorem mw_136 : Cond.instanceMethod yX3_move ∈ wg := wg_t (i := 136) (by decide +kernel) (by decide +kernel)
theorem mw_137 : Cond.selects RX3 yX3_move yX3_move ∈ wg := wg_t (i := 137) (by decide +kernel) (by decide +kernel)
theorem mw_138 : Cond.code yX3_move prog_1_method_7_code (7) (Option.some FieldType.int) ∈ wg := wg_t (i := 138) (by decide +kernel) (by decide +kernel)
theorem mw_139 : Cond.methodLink RX3 (70) yX1_covers ∈ wg := wg_t (i := 139) (by decide +kernel) (by decide +kernel)
theorem mw_140 : Cond.instanceMethod yX1_covers ∈ wg := wg_t (i := 140) (by decide +kernel) (by decide +kernel)
theorem mw_141 : Cond.selects RX1 yX1_covers yX1_covers ∈ wg := wg_t (i := 141) (by decide +kernel) (by decide +kernel)
theorem mw_142 : Cond.code yX1_covers prog_3_method_2_code (2) (Option.some FieldType.boolean) ∈ wg := wg_t (i := 142) (by decide +kernel) (by decide +kernel)
theorem mw_143 : Cond.methodLink RX3 (78) yX3_gramsInMoves ∈ wg := wg_t (i := 143) (by decide +kernel) (by decide +kernel)
theorem mw_145 : Cond.instanceMethod yX3_gramsInMoves ∈ wg := wg_t (i := 145) (by decide +kernel) (by decide +kernel)
theorem mw_146 : Cond.code yX3_gramsInMoves prog_1_method_29_code (6) (Option.some FieldType.long) ∈ wg := wg_t (i := 146) (by decide +kernel) (by decide +kernel)
theorem mw_147 : Cond.methodLink RX3 (85) yX3_moveAt ∈ wg := wg_t (i := 147) (by decide +kernel) (by decide +kernel)
theorem mw_149 : Cond.instanceMethod yX3_moveAt ∈ wg := wg_t (i := 149) (by decide +kernel) (by decide +kernel)
theorem mw_150 : Cond.code yX3_moveAt prog_1_method_22_code (2) (Option.some (FieldType.object "PaperStates$Move")) ∈ wg := wg_t (i := 150) (by decide +kernel) (by decide +kernel)
theorem mw_151 : Cond.methodLink RX3 (168) yX0_usesGrams ∈ wg := wg_t (i := 151) (by decide +kernel) (by decide +kernel)
theorem mw_152 : Cond.instanceMethod yX0_usesGrams ∈ wg := wg_t (i := 152) (by decide +kernel) (by decide +kernel)
theorem mw_153 : Cond.selects RX0 yX0_usesGrams yX0_usesGrams ∈ wg := wg_t (i := 153) (by decide +kernel) (by decide +kernel)
theorem mw_154 : Cond.code yX0_usesGrams prog_2_method_3_code (1) (Option.some FieldType.boolean) ∈ wg := wg_t (i := 154) (by decide +kernel) (by decide +kernel)
theorem mw_155 : Cond.instantiable RX0 (8) ∈ wg := wg_t (i := 155) (by decide +kernel) (by decide +kernel)
theorem mw_156 : Cond.methodLink RX3 (82) yX0_init ∈ wg := wg_t (i := 156) (by decide +kernel) (by decide +kernel)
theorem mw_157 : Cond.instanceMethod yX0_init ∈ wg := wg_t (i := 157) (by decide +kernel) (by decide +kernel)
theorem mw_158 : Cond.code yX0_init prog_2_method_1_code (6) (Option.none : Option FieldType) ∈ wg := wg_t (i := 158) (by decide +kernel) (by decide +kernel)
theorem mw_159 : Cond.methodLink RX0 (3) objectInit ∈ wg := wg_t (i := 159) (by decide +kernel) (by decide +kernel)
theorem mw_160 : Cond.fieldLink RX0 (15) "PaperStates$Move" "notice" "I" ∈ wg := wg_t (i := 160) (by decide +kernel) (by decide +kernel)
theorem mw_161 : Cond.fieldLink RX3 (148) "PaperStates$Move" "notice" "I" ∈ wg := wg_t (i := 161) (by decide +kernel) (by decide +kernel)
theorem mw_162 : Cond.fieldLink RX0 (19) "PaperStates$Move" "grams" "J" ∈ wg := wg_t (i := 162) (by decide +kernel) (by decide +kernel)
theorem mw_163 : Cond.fieldLink RX3 (172) "PaperStates$Move" "grams" "J" ∈ wg := wg_t (i := 163) (by decide +kernel) (by decide +kernel)
theorem mw_164 : Cond.fieldLink RX0 (23) "PaperStates$Move" "day" "I" ∈ wg := wg_t (i := 164) (by decide +kernel) (by decide +kernel)
theorem mw_165 : Cond.fieldLink RX3 (162) "PaperStates$Move" "day" "I" ∈ wg := wg_t (i := 165) (by decide +kernel) (by decide +kernel)
theorem mw_166 : Cond.fieldLink RX0 (9) "PaperStates$Move" "carriers" "[I" ∈ wg := wg_t (i := 166) (by decide +kernel) (by decide +kernel)
theorem mw_167 : Cond.fieldLink RX0 (32) "PaperStates$Move" "carrierCount" "I" ∈ wg := wg_t (i := 167) (by decide +kernel) (by decide +kernel)
theorem mw_168 : Cond.fieldLink RX0 (26) "PaperStates$Move" "state" "I" ∈ wg := wg_t (i := 168) (by decide +kernel) (by decide +kernel)
theorem mw_169 : Cond.fieldLink RX3 (89) "PaperStates$Move" "state" "I" ∈ wg := wg_t (i := 169) (by decide +kernel) (by decide +kernel)
theorem mw_170 : Cond.fieldLink RX0 (29) "PaperStates$Move" "since" "I" ∈ wg := wg_t (i := 170) (by decide +kernel) (by decide +kernel)
theorem mw_171 : Cond.fieldLink RX3 (165) "PaperStates$Move" "since" "I" ∈ wg := wg_t (i := 171) (by decide +kernel) (by decide +kernel)
theorem mw_172 : Cond.fieldLink RX3 (110) "PaperStates$Move" "marked" "Z" ∈ wg := wg_t (i := 172) (by decide +kernel) (by decide +kernel)
theorem mw_190 : Cond.methodLink RL (44) yX3_moveState ∈ wg := wg_t (i := 190) (by decide +kernel) (by decide +kernel)
theorem mw_191 : Cond.instanceMethod yX3_moveState ∈ wg := wg_t (i := 191) (by decide +kernel) (by decide +kernel)
theorem mw_192 : Cond.selects RX3 yX3_moveState yX3_moveState ∈ wg := wg_t (i := 192) (by decide +kernel) (by decide +kernel)
theorem mw_193 : Cond.code yX3_moveState prog_1_method_8_code (3) (Option.some FieldType.int) ∈ wg := wg_t (i := 193) (by decide +kernel) (by decide +kernel)
theorem mw_194 : Cond.methodLink RL (48) yX3_right ∈ wg := wg_t (i := 194) (by decide +kernel) (by decide +kernel)
theorem mw_195 : Cond.instanceMethod yX3_right ∈ wg := wg_t (i := 195) (by decide +kernel) (by decide +kernel)
theorem mw_196 : Cond.selects RX3 yX3_right yX3_right ∈ wg := wg_t (i := 196) (by decide +kernel) (by decide +kernel)
theorem mw_197 : Cond.code yX3_right prog_1_method_9_code (4) (Option.some FieldType.boolean) ∈ wg := wg_t (i := 197) (by decide +kernel) (by decide +kernel)
theorem mw_198 : Cond.methodLink RX3 (92) yX3_isPerson ∈ wg := wg_t (i := 198) (by decide +kernel) (by decide +kernel)
theorem mw_199 : Cond.static yX3_isPerson ∈ wg := wg_t (i := 199) (by decide +kernel) (by decide +kernel)
theorem mw_200 : Cond.code yX3_isPerson prog_1_method_23_code (1) (Option.some FieldType.boolean) ∈ wg := wg_t (i := 200) (by decide +kernel) (by decide +kernel)
theorem mw_201 : Cond.methodLink RX3 (95) yX3_isEvent ∈ wg := wg_t (i := 201) (by decide +kernel) (by decide +kernel)
theorem mw_202 : Cond.static yX3_isEvent ∈ wg := wg_t (i := 202) (by decide +kernel) (by decide +kernel)
theorem mw_203 : Cond.code yX3_isEvent prog_1_method_24_code (1) (Option.some FieldType.boolean) ∈ wg := wg_t (i := 203) (by decide +kernel) (by decide +kernel)
theorem mw_204 : Cond.methodLink RL (52) yX3_may ∈ wg := wg_t (i := 204) (by decide +kernel) (by decide +kernel)
theorem mw_205 : Cond.instanceMethod yX3_may ∈ wg := wg_t (i := 205) (by decide +kernel) (by decide +kernel)
theorem mw_206 : Cond.selects RX3 yX3_may yX3_may ∈ wg := wg_t (i := 206) (by decide +kernel) (by decide +kernel)
theorem mw_207 : Cond.code yX3_may prog_1_method_10_code (3) (Option.some FieldType.boolean) ∈ wg := wg_t (i := 207) (by decide +kernel) (by decide +kernel)
theorem mw_208 : Cond.methodLink RX3 (98) yX3_hasRight ∈ wg := wg_t (i := 208) (by decide +kernel) (by decide +kernel)
theorem mw_210 : Cond.instanceMethod yX3_hasRight ∈ wg := wg_t (i := 210) (by decide +kernel) (by decide +kernel)
theorem mw_211 : Cond.code yX3_hasRight prog_1_method_25_code (3) (Option.some FieldType.boolean) ∈ wg := wg_t (i := 211) (by decide +kernel) (by decide +kernel)
theorem mw_212 : Cond.methodLink RL (57) yX3_event ∈ wg := wg_t (i := 212) (by decide +kernel) (by decide +kernel)
theorem mw_213 : Cond.instanceMethod yX3_event ∈ wg := wg_t (i := 213) (by decide +kernel) (by decide +kernel)
theorem mw_214 : Cond.selects RX3 yX3_event yX3_event ∈ wg := wg_t (i := 214) (by decide +kernel) (by decide +kernel)
theorem mw_215 : Cond.code yX3_event prog_1_method_11_code (6) (Option.some FieldType.int) ∈ wg := wg_t (i := 215) (by decide +kernel) (by decide +kernel)
theorem mw_216 : Cond.methodLink RX3 (102) yX3_nextState ∈ wg := wg_t (i := 216) (by decide +kernel) (by decide +kernel)
theorem mw_217 : Cond.static yX3_nextState ∈ wg := wg_t (i := 217) (by decide +kernel) (by decide +kernel)
theorem mw_218 : Cond.code yX3_nextState prog_1_method_26_code (2) (Option.some FieldType.int) ∈ wg := wg_t (i := 218) (by decide +kernel) (by decide +kernel)
theorem mw_219 : Cond.fieldLink RX3 (158) "PaperStates" "LEADS" "[I" ∈ wg := wg_t (i := 219) (by decide +kernel) (by decide +kernel)
theorem mw_221 : Cond.methodLink RX3 (106) yX3_canBeTaken ∈ wg := wg_t (i := 221) (by decide +kernel) (by decide +kernel)
theorem mw_223 : Cond.instanceMethod yX3_canBeTaken ∈ wg := wg_t (i := 223) (by decide +kernel) (by decide +kernel)
theorem mw_224 : Cond.code yX3_canBeTaken prog_1_method_27_code (3) (Option.some FieldType.boolean) ∈ wg := wg_t (i := 224) (by decide +kernel) (by decide +kernel)
theorem mw_225 : Cond.methodLink RX3 (114) yX0_enter ∈ wg := wg_t (i := 225) (by decide +kernel) (by decide +kernel)
theorem mw_226 : Cond.instanceMethod yX0_enter ∈ wg := wg_t (i := 226) (by decide +kernel) (by decide +kernel)
theorem mw_227 : Cond.selects RX0 yX0_enter yX0_enter ∈ wg := wg_t (i := 227) (by decide +kernel) (by decide +kernel)
theorem mw_228 : Cond.code yX0_enter prog_2_method_2_code (3) (Option.none : Option FieldType) ∈ wg := wg_t (i := 228) (by decide +kernel) (by decide +kernel)
theorem mw_229 : Cond.methodLink RL (62) yX3_mark ∈ wg := wg_t (i := 229) (by decide +kernel) (by decide +kernel)
theorem mw_230 : Cond.instanceMethod yX3_mark ∈ wg := wg_t (i := 230) (by decide +kernel) (by decide +kernel)
theorem mw_231 : Cond.selects RX3 yX3_mark yX3_mark ∈ wg := wg_t (i := 231) (by decide +kernel) (by decide +kernel)
theorem mw_232 : Cond.code yX3_mark prog_1_method_12_code (5) (Option.some FieldType.boolean) ∈ wg := wg_t (i := 232) (by decide +kernel) (by decide +kernel)
theorem mw_233 : Cond.methodLink RL (66) yX3_left ∈ wg := wg_t (i := 233) (by decide +kernel) (by decide +kernel)
theorem mw_234 : Cond.instanceMethod yX3_left ∈ wg := wg_t (i := 234) (by decide +kernel) (by decide +kernel)
theorem mw_235 : Cond.selects RX3 yX3_left yX3_left ∈ wg := wg_t (i := 235) (by decide +kernel) (by decide +kernel)
theorem mw_236 : Cond.code yX3_left prog_1_method_13_code (3) (Option.some FieldType.long) ∈ wg := wg_t (i := 236) (by decide +kernel) (by decide +kernel)
theorem mw_237 : Cond.constantLong RX3 (118) (-1) ∈ wg := wg_t (i := 237) (by decide +kernel) (by decide +kernel)
theorem mw_238 : Cond.methodLink RL (71) yX3_bank ∈ wg := wg_t (i := 238) (by decide +kernel) (by decide +kernel)
theorem mw_239 : Cond.instanceMethod yX3_bank ∈ wg := wg_t (i := 239) (by decide +kernel) (by decide +kernel)
theorem mw_240 : Cond.selects RX3 yX3_bank yX3_bank ∈ wg := wg_t (i := 240) (by decide +kernel) (by decide +kernel)
theorem mw_241 : Cond.code yX3_bank prog_1_method_14_code (5) (Option.some FieldType.boolean) ∈ wg := wg_t (i := 241) (by decide +kernel) (by decide +kernel)
theorem mw_242 : Cond.constantLong RX3 (123) (10000000000) ∈ wg := wg_t (i := 242) (by decide +kernel) (by decide +kernel)
theorem mw_243 : Cond.methodLink RL (76) yX3_held ∈ wg := wg_t (i := 243) (by decide +kernel) (by decide +kernel)
theorem mw_244 : Cond.instanceMethod yX3_held ∈ wg := wg_t (i := 244) (by decide +kernel) (by decide +kernel)
theorem mw_245 : Cond.selects RX3 yX3_held yX3_held ∈ wg := wg_t (i := 245) (by decide +kernel) (by decide +kernel)
theorem mw_246 : Cond.code yX3_held prog_1_method_15_code (3) (Option.some FieldType.long) ∈ wg := wg_t (i := 246) (by decide +kernel) (by decide +kernel)
theorem mw_247 : Cond.methodLink RX3 (125) yX3_gramsRecovered ∈ wg := wg_t (i := 247) (by decide +kernel) (by decide +kernel)
theorem mw_249 : Cond.instanceMethod yX3_gramsRecovered ∈ wg := wg_t (i := 249) (by decide +kernel) (by decide +kernel)
theorem mw_250 : Cond.code yX3_gramsRecovered prog_1_method_30_code (6) (Option.some FieldType.long) ∈ wg := wg_t (i := 250) (by decide +kernel) (by decide +kernel)
theorem mw_251 : Cond.methodLink RX3 (128) yX3_shareUp ∈ wg := wg_t (i := 251) (by decide +kernel) (by decide +kernel)
theorem mw_252 : Cond.static yX3_shareUp ∈ wg := wg_t (i := 252) (by decide +kernel) (by decide +kernel)
theorem mw_253 : Cond.code yX3_shareUp prog_1_method_31_code (10) (Option.some FieldType.long) ∈ wg := wg_t (i := 253) (by decide +kernel) (by decide +kernel)
theorem mw_254 : Cond.methodLink RL (80) yX3_limit ∈ wg := wg_t (i := 254) (by decide +kernel) (by decide +kernel)
theorem mw_255 : Cond.instanceMethod yX3_limit ∈ wg := wg_t (i := 255) (by decide +kernel) (by decide +kernel)
theorem mw_256 : Cond.selects RX3 yX3_limit yX3_limit ∈ wg := wg_t (i := 256) (by decide +kernel) (by decide +kernel)
theorem mw_257 : Cond.code yX3_limit prog_1_method_16_code (2) (Option.some FieldType.boolean) ∈ wg := wg_t (i := 257) (by decide +kernel) (by decide +kernel)
theorem mw_258 : Cond.methodLink RL (85) yX3_late ∈ wg := wg_t (i := 258) (by decide +kernel) (by decide +kernel)
theorem mw_259 : Cond.instanceMethod yX3_late ∈ wg := wg_t (i := 259) (by decide +kernel) (by decide +kernel)
theorem mw_260 : Cond.selects RX3 yX3_late yX3_late ∈ wg := wg_t (i := 260) (by decide +kernel) (by decide +kernel)
theorem mw_261 : Cond.code yX3_late prog_1_method_17_code (5) (Option.some FieldType.int) ∈ wg := wg_t (i := 261) (by decide +kernel) (by decide +kernel)
theorem mw_262 : Cond.methodLink RX3 (132) yX3_isLate ∈ wg := wg_t (i := 262) (by decide +kernel) (by decide +kernel)
theorem mw_264 : Cond.instanceMethod yX3_isLate ∈ wg := wg_t (i := 264) (by decide +kernel) (by decide +kernel)
theorem mw_265 : Cond.code yX3_isLate prog_1_method_28_code (2) (Option.some FieldType.boolean) ∈ wg := wg_t (i := 265) (by decide +kernel) (by decide +kernel)
theorem mw_266 : Cond.methodLink RL (89) yX3_carrier ∈ wg := wg_t (i := 266) (by decide +kernel) (by decide +kernel)
theorem mw_267 : Cond.instanceMethod yX3_carrier ∈ wg := wg_t (i := 267) (by decide +kernel) (by decide +kernel)
theorem mw_268 : Cond.selects RX3 yX3_carrier yX3_carrier ∈ wg := wg_t (i := 268) (by decide +kernel) (by decide +kernel)
theorem mw_269 : Cond.code yX3_carrier prog_1_method_18_code (4) (Option.some FieldType.int) ∈ wg := wg_t (i := 269) (by decide +kernel) (by decide +kernel)
theorem mw_270 : Cond.methodLink RX3 (135) yX0_addCarrier ∈ wg := wg_t (i := 270) (by decide +kernel) (by decide +kernel)
theorem mw_271 : Cond.instanceMethod yX0_addCarrier ∈ wg := wg_t (i := 271) (by decide +kernel) (by decide +kernel)
theorem mw_272 : Cond.selects RX0 yX0_addCarrier yX0_addCarrier ∈ wg := wg_t (i := 272) (by decide +kernel) (by decide +kernel)
theorem mw_273 : Cond.code yX0_addCarrier prog_2_method_4_code (2) (Option.some FieldType.int) ∈ wg := wg_t (i := 273) (by decide +kernel) (by decide +kernel)
theorem mw_274 : Cond.methodLink RX0 (35) yX0_carrierBack ∈ wg := wg_t (i := 274) (by decide +kernel) (by decide +kernel)
theorem mw_275 : Cond.instanceMethod yX0_carrierBack ∈ wg := wg_t (i := 275) (by decide +kernel) (by decide +kernel)
theorem mw_276 : Cond.selects RX0 yX0_carrierBack yX0_carrierBack ∈ wg := wg_t (i := 276) (by decide +kernel) (by decide +kernel)
theorem mw_277 : Cond.code yX0_carrierBack prog_2_method_5_code (2) (Option.some FieldType.int) ∈ wg := wg_t (i := 277) (by decide +kernel) (by decide +kernel)
theorem mw_278 : Cond.methodLink RL (94) yX3_back ∈ wg := wg_t (i := 278) (by decide +kernel) (by decide +kernel)
theorem mw_279 : Cond.instanceMethod yX3_back ∈ wg := wg_t (i := 279) (by decide +kernel) (by decide +kernel)
theorem mw_280 : Cond.selects RX3 yX3_back yX3_back ∈ wg := wg_t (i := 280) (by decide +kernel) (by decide +kernel)
theorem mw_281 : Cond.code yX3_back prog_1_method_19_code (4) (Option.some FieldType.int) ∈ wg := wg_t (i := 281) (by decide +kernel) (by decide +kernel)
theorem mw_282 : Cond.methodLink RX3 (138) yX0_carrierBack ∈ wg := wg_t (i := 282) (by decide +kernel) (by decide +kernel)
theorem mw_283 : Cond.methodLink RL (98) yX3_print ∈ wg := wg_t (i := 283) (by decide +kernel) (by decide +kernel)
theorem mw_284 : Cond.instanceMethod yX3_print ∈ wg := wg_t (i := 284) (by decide +kernel) (by decide +kernel)
theorem mw_285 : Cond.selects RX3 yX3_print yX3_print ∈ wg := wg_t (i := 285) (by decide +kernel) (by decide +kernel)
theorem mw_286 : Cond.code yX3_print prog_1_method_20_code (6) (Option.some FieldType.int) ∈ wg := wg_t (i := 286) (by decide +kernel) (by decide +kernel)
theorem mw_287 : Cond.methodLink RX3 (141) yX2_clear ∈ wg := wg_t (i := 287) (by decide +kernel) (by decide +kernel)
theorem mw_288 : Cond.instanceMethod yX2_clear ∈ wg := wg_t (i := 288) (by decide +kernel) (by decide +kernel)
theorem mw_289 : Cond.selects RX2 yX2_clear yX2_clear ∈ wg := wg_t (i := 289) (by decide +kernel) (by decide +kernel)
theorem mw_290 : Cond.code yX2_clear prog_4_method_2_code (1) (Option.none : Option FieldType) ∈ wg := wg_t (i := 290) (by decide +kernel) (by decide +kernel)
theorem mw_291 : Cond.methodLink RX3 (144) yX3_writeHead ∈ wg := wg_t (i := 291) (by decide +kernel) (by decide +kernel)
theorem mw_293 : Cond.instanceMethod yX3_writeHead ∈ wg := wg_t (i := 293) (by decide +kernel) (by decide +kernel)
theorem mw_294 : Cond.code yX3_writeHead prog_1_method_32_code (3) (Option.none : Option FieldType) ∈ wg := wg_t (i := 294) (by decide +kernel) (by decide +kernel)
theorem mw_295 : Cond.methodLink RX3 (173) yX2_addNumber ∈ wg := wg_t (i := 295) (by decide +kernel) (by decide +kernel)
theorem mw_296 : Cond.instanceMethod yX2_addNumber ∈ wg := wg_t (i := 296) (by decide +kernel) (by decide +kernel)
theorem mw_297 : Cond.selects RX2 yX2_addNumber yX2_addNumber ∈ wg := wg_t (i := 297) (by decide +kernel) (by decide +kernel)
theorem mw_298 : Cond.code yX2_addNumber prog_4_method_4_code (8) (Option.none : Option FieldType) ∈ wg := wg_t (i := 298) (by decide +kernel) (by decide +kernel)
theorem mw_299 : Cond.constantLong RX2 (19) (1000000000) ∈ wg := wg_t (i := 299) (by decide +kernel) (by decide +kernel)
theorem mw_300 : Cond.constantLong RX2 (21) (10) ∈ wg := wg_t (i := 300) (by decide +kernel) (by decide +kernel)
theorem mw_301 : Cond.constantLong RX2 (23) (48) ∈ wg := wg_t (i := 301) (by decide +kernel) (by decide +kernel)
theorem mw_302 : Cond.methodLink RX2 (25) yX2_add ∈ wg := wg_t (i := 302) (by decide +kernel) (by decide +kernel)
theorem mw_303 : Cond.instanceMethod yX2_add ∈ wg := wg_t (i := 303) (by decide +kernel) (by decide +kernel)
theorem mw_304 : Cond.selects RX2 yX2_add yX2_add ∈ wg := wg_t (i := 304) (by decide +kernel) (by decide +kernel)
theorem mw_305 : Cond.code yX2_add prog_4_method_3_code (2) (Option.none : Option FieldType) ∈ wg := wg_t (i := 305) (by decide +kernel) (by decide +kernel)
theorem mw_306 : Cond.methodLink RX3 (177) yX2_add ∈ wg := wg_t (i := 306) (by decide +kernel) (by decide +kernel)
theorem mw_307 : Cond.methodLink RX3 (151) yX3_writeMove ∈ wg := wg_t (i := 307) (by decide +kernel) (by decide +kernel)
theorem mw_309 : Cond.instanceMethod yX3_writeMove ∈ wg := wg_t (i := 309) (by decide +kernel) (by decide +kernel)
theorem mw_310 : Cond.code yX3_writeMove prog_1_method_33_code (3) (Option.none : Option FieldType) ∈ wg := wg_t (i := 310) (by decide +kernel) (by decide +kernel)
theorem mw_311 : Cond.methodLink RX3 (187) yX0_letter ∈ wg := wg_t (i := 311) (by decide +kernel) (by decide +kernel)
theorem mw_312 : Cond.instanceMethod yX0_letter ∈ wg := wg_t (i := 312) (by decide +kernel) (by decide +kernel)
theorem mw_313 : Cond.selects RX0 yX0_letter yX0_letter ∈ wg := wg_t (i := 313) (by decide +kernel) (by decide +kernel)
theorem mw_314 : Cond.code yX0_letter prog_2_method_6_code (1) (Option.some FieldType.char) ∈ wg := wg_t (i := 314) (by decide +kernel) (by decide +kernel)
theorem mw_317 : Cond.methodLink RX3 (155) yX2_byteAt ∈ wg := wg_t (i := 317) (by decide +kernel) (by decide +kernel)
theorem mw_318 : Cond.instanceMethod yX2_byteAt ∈ wg := wg_t (i := 318) (by decide +kernel) (by decide +kernel)
theorem mw_319 : Cond.selects RX2 yX2_byteAt yX2_byteAt ∈ wg := wg_t (i := 319) (by decide +kernel) (by decide +kernel)
theorem mw_320 : Cond.code yX2_byteAt prog_4_method_5_code (2) (Option.some FieldType.int) ∈ wg := wg_t (i := 320) (by decide +kernel) (by decide +kernel)
theorem mw_321 : Cond.classLink RL (10) RX4 ∈ wg := wg_t (i := 321) (by decide +kernel) (by decide +kernel)
theorem mw_322 : Cond.instantiable RX4 (23) ∈ wg := wg_t (i := 322) (by decide +kernel) (by decide +kernel)
theorem mw_323 : Cond.methodLink RL (12) yX4_init ∈ wg := wg_t (i := 323) (by decide +kernel) (by decide +kernel)
theorem mw_324 : Cond.instanceMethod yX4_init ∈ wg := wg_t (i := 324) (by decide +kernel) (by decide +kernel)
theorem mw_325 : Cond.code yX4_init prog_6_method_1_code (1) (Option.none : Option FieldType) ∈ wg := wg_t (i := 325) (by decide +kernel) (by decide +kernel)
theorem mw_326 : Cond.methodLink RX4 (1) objectInit ∈ wg := wg_t (i := 326) (by decide +kernel) (by decide +kernel)
theorem mw_327 : Cond.fieldLink RX4 (73) "PaperStatesModel" "today" "I" ∈ wg := wg_t (i := 327) (by decide +kernel) (by decide +kernel)
theorem mw_328 : Cond.fieldLink RX4 (67) "PaperStatesModel" "notices" "I" ∈ wg := wg_t (i := 328) (by decide +kernel) (by decide +kernel)
theorem mw_329 : Cond.fieldLink RX4 (7) "PaperStatesModel" "weights" "[J" ∈ wg := wg_t (i := 329) (by decide +kernel) (by decide +kernel)
theorem mw_330 : Cond.fieldLink RX4 (13) "PaperStatesModel" "froms" "[I" ∈ wg := wg_t (i := 330) (by decide +kernel) (by decide +kernel)
theorem mw_331 : Cond.fieldLink RX4 (17) "PaperStatesModel" "tos" "[I" ∈ wg := wg_t (i := 331) (by decide +kernel) (by decide +kernel)
theorem mw_332 : Cond.fieldLink RX4 (20) "PaperStatesModel" "cents" "[J" ∈ wg := wg_t (i := 332) (by decide +kernel) (by decide +kernel)
theorem mw_333 : Cond.fieldLink RX4 (23) "PaperStatesModel" "has" "[Z" ∈ wg := wg_t (i := 333) (by decide +kernel) (by decide +kernel)
theorem mw_334 : Cond.fieldLink RX4 (27) "PaperStatesModel" "days" "[I" ∈ wg := wg_t (i := 334) (by decide +kernel) (by decide +kernel)
theorem mw_335 : Cond.fieldLink RX4 (30) "PaperStatesModel" "askedOn" "[I" ∈ wg := wg_t (i := 335) (by decide +kernel) (by decide +kernel)
theorem mw_336 : Cond.fieldLink RX4 (33) "PaperStatesModel" "said" "[I" ∈ wg := wg_t (i := 336) (by decide +kernel) (by decide +kernel)
theorem mw_337 : Cond.fieldLink RX4 (70) "PaperStatesModel" "moves" "I" ∈ wg := wg_t (i := 337) (by decide +kernel) (by decide +kernel)
theorem mw_338 : Cond.fieldLink RX4 (36) "PaperStatesModel" "noticeOf" "[I" ∈ wg := wg_t (i := 338) (by decide +kernel) (by decide +kernel)
theorem mw_339 : Cond.fieldLink RX4 (39) "PaperStatesModel" "grams" "[J" ∈ wg := wg_t (i := 339) (by decide +kernel) (by decide +kernel)
theorem mw_340 : Cond.fieldLink RX4 (42) "PaperStatesModel" "moveDays" "[I" ∈ wg := wg_t (i := 340) (by decide +kernel) (by decide +kernel)
theorem mw_341 : Cond.fieldLink RX4 (45) "PaperStatesModel" "states" "[I" ∈ wg := wg_t (i := 341) (by decide +kernel) (by decide +kernel)
theorem mw_342 : Cond.fieldLink RX4 (48) "PaperStatesModel" "since" "[I" ∈ wg := wg_t (i := 342) (by decide +kernel) (by decide +kernel)
theorem mw_343 : Cond.fieldLink RX4 (51) "PaperStatesModel" "marked" "[Z" ∈ wg := wg_t (i := 343) (by decide +kernel) (by decide +kernel)
theorem mw_344 : Cond.fieldLink RX4 (54) "PaperStatesModel" "carrierCounts" "[I" ∈ wg := wg_t (i := 344) (by decide +kernel) (by decide +kernel)
theorem mw_345 : Cond.fieldLink RX4 (57) "PaperStatesModel" "carriers" "[I" ∈ wg := wg_t (i := 345) (by decide +kernel) (by decide +kernel)
theorem mw_346 : Cond.fieldLink RX4 (60) "PaperStatesModel" "rights" "[Z" ∈ wg := wg_t (i := 346) (by decide +kernel) (by decide +kernel)
theorem mw_347 : Cond.fieldLink RX4 (63) "PaperStatesModel" "limit" "I" ∈ wg := wg_t (i := 347) (by decide +kernel) (by decide +kernel)
theorem mw_348 : Cond.fieldLink RX4 (126) "PaperStatesModel" "rest" "I" ∈ wg := wg_t (i := 348) (by decide +kernel) (by decide +kernel)
theorem mw_349 : Cond.fieldLink RX4 (129) "PaperStatesModel" "looked" "I" ∈ wg := wg_t (i := 349) (by decide +kernel) (by decide +kernel)
theorem mw_397 : Cond.arrayClass FieldType.long ∈ wg := wg_t (i := 397) (by decide +kernel) (by decide +kernel)
theorem mw_398 : Cond.methodLink RL (17) yX4_day ∈ wg := wg_t (i := 398) (by decide +kernel) (by decide +kernel)
theorem mw_399 : Cond.instanceMethod yX4_day ∈ wg := wg_t (i := 399) (by decide +kernel) (by decide +kernel)
theorem mw_400 : Cond.selects RX4 yX4_day yX4_day ∈ wg := wg_t (i := 400) (by decide +kernel) (by decide +kernel)
theorem mw_401 : Cond.code yX4_day prog_6_method_10_code (4) (Option.some FieldType.int) ∈ wg := wg_t (i := 401) (by decide +kernel) (by decide +kernel)
theorem mw_402 : Cond.constantLong RX4 (76) (100000) ∈ wg := wg_t (i := 402) (by decide +kernel) (by decide +kernel)
theorem mw_403 : Cond.methodLink RX4 (78) yX4_isIn ∈ wg := wg_t (i := 403) (by decide +kernel) (by decide +kernel)
theorem mw_404 : Cond.static yX4_isIn ∈ wg := wg_t (i := 404) (by decide +kernel) (by decide +kernel)
theorem mw_405 : Cond.code yX4_isIn prog_6_method_3_code (6) (Option.some FieldType.boolean) ∈ wg := wg_t (i := 405) (by decide +kernel) (by decide +kernel)
theorem mw_406 : Cond.methodLink RX4 (82) yX4_isSilent ∈ wg := wg_t (i := 406) (by decide +kernel) (by decide +kernel)
theorem mw_408 : Cond.instanceMethod yX4_isSilent ∈ wg := wg_t (i := 408) (by decide +kernel) (by decide +kernel)
theorem mw_409 : Cond.code yX4_isSilent prog_6_method_9_code (3) (Option.some FieldType.boolean) ∈ wg := wg_t (i := 409) (by decide +kernel) (by decide +kernel)
theorem mw_410 : Cond.methodLink RL (24) yX4_notice ∈ wg := wg_t (i := 410) (by decide +kernel) (by decide +kernel)
theorem mw_411 : Cond.instanceMethod yX4_notice ∈ wg := wg_t (i := 411) (by decide +kernel) (by decide +kernel)
theorem mw_412 : Cond.selects RX4 yX4_notice yX4_notice ∈ wg := wg_t (i := 412) (by decide +kernel) (by decide +kernel)
theorem mw_413 : Cond.code yX4_notice prog_6_method_11_code (5) (Option.some FieldType.int) ∈ wg := wg_t (i := 413) (by decide +kernel) (by decide +kernel)
theorem mw_414 : Cond.constantLong RX4 (86) (1000000000) ∈ wg := wg_t (i := 414) (by decide +kernel) (by decide +kernel)
theorem mw_415 : Cond.methodLink RL (29) yX4_country ∈ wg := wg_t (i := 415) (by decide +kernel) (by decide +kernel)
theorem mw_416 : Cond.instanceMethod yX4_country ∈ wg := wg_t (i := 416) (by decide +kernel) (by decide +kernel)
theorem mw_417 : Cond.selects RX4 yX4_country yX4_country ∈ wg := wg_t (i := 417) (by decide +kernel) (by decide +kernel)
theorem mw_418 : Cond.code yX4_country prog_6_method_12_code (5) (Option.some FieldType.boolean) ∈ wg := wg_t (i := 418) (by decide +kernel) (by decide +kernel)
theorem mw_419 : Cond.methodLink RX4 (88) yX4_isNotice ∈ wg := wg_t (i := 419) (by decide +kernel) (by decide +kernel)
theorem mw_421 : Cond.instanceMethod yX4_isNotice ∈ wg := wg_t (i := 421) (by decide +kernel) (by decide +kernel)
theorem mw_422 : Cond.code yX4_isNotice prog_6_method_4_code (2) (Option.some FieldType.boolean) ∈ wg := wg_t (i := 422) (by decide +kernel) (by decide +kernel)
theorem mw_423 : Cond.methodLink RX4 (92) yX4_isCountry ∈ wg := wg_t (i := 423) (by decide +kernel) (by decide +kernel)
theorem mw_424 : Cond.static yX4_isCountry ∈ wg := wg_t (i := 424) (by decide +kernel) (by decide +kernel)
theorem mw_425 : Cond.code yX4_isCountry prog_6_method_6_code (1) (Option.some FieldType.boolean) ∈ wg := wg_t (i := 425) (by decide +kernel) (by decide +kernel)
theorem mw_426 : Cond.constantLong RX4 (95) (1000) ∈ wg := wg_t (i := 426) (by decide +kernel) (by decide +kernel)
theorem mw_427 : Cond.methodLink RL (34) yX4_says ∈ wg := wg_t (i := 427) (by decide +kernel) (by decide +kernel)
theorem mw_428 : Cond.instanceMethod yX4_says ∈ wg := wg_t (i := 428) (by decide +kernel) (by decide +kernel)
theorem mw_429 : Cond.selects RX4 yX4_says yX4_says ∈ wg := wg_t (i := 429) (by decide +kernel) (by decide +kernel)
theorem mw_430 : Cond.code yX4_says prog_6_method_13_code (5) (Option.some FieldType.boolean) ∈ wg := wg_t (i := 430) (by decide +kernel) (by decide +kernel)
theorem mw_431 : Cond.methodLink RL (38) yX4_state ∈ wg := wg_t (i := 431) (by decide +kernel) (by decide +kernel)
theorem mw_432 : Cond.instanceMethod yX4_state ∈ wg := wg_t (i := 432) (by decide +kernel) (by decide +kernel)
theorem mw_433 : Cond.selects RX4 yX4_state yX4_state ∈ wg := wg_t (i := 433) (by decide +kernel) (by decide +kernel)
theorem mw_434 : Cond.code yX4_state prog_6_method_14_code (7) (Option.some FieldType.int) ∈ wg := wg_t (i := 434) (by decide +kernel) (by decide +kernel)
theorem mw_435 : Cond.methodLink RL (43) yX4_move ∈ wg := wg_t (i := 435) (by decide +kernel) (by decide +kernel)
theorem mw_436 : Cond.instanceMethod yX4_move ∈ wg := wg_t (i := 436) (by decide +kernel) (by decide +kernel)
theorem mw_437 : Cond.selects RX4 yX4_move yX4_move ∈ wg := wg_t (i := 437) (by decide +kernel) (by decide +kernel)
theorem mw_438 : Cond.code yX4_move prog_6_method_15_code (5) (Option.some FieldType.int) ∈ wg := wg_t (i := 438) (by decide +kernel) (by decide +kernel)
theorem mw_439 : Cond.methodLink RX4 (97) yX4_state ∈ wg := wg_t (i := 439) (by decide +kernel) (by decide +kernel)
theorem mw_440 : Cond.methodLink RX4 (101) yX4_left ∈ wg := wg_t (i := 440) (by decide +kernel) (by decide +kernel)
theorem mw_441 : Cond.instanceMethod yX4_left ∈ wg := wg_t (i := 441) (by decide +kernel) (by decide +kernel)
theorem mw_442 : Cond.selects RX4 yX4_left yX4_left ∈ wg := wg_t (i := 442) (by decide +kernel) (by decide +kernel)
theorem mw_443 : Cond.code yX4_left prog_6_method_22_code (6) (Option.some FieldType.long) ∈ wg := wg_t (i := 443) (by decide +kernel) (by decide +kernel)
theorem mw_444 : Cond.constantLong RX4 (120) (-1) ∈ wg := wg_t (i := 444) (by decide +kernel) (by decide +kernel)
theorem mw_445 : Cond.methodLink RL (47) yX4_moveState ∈ wg := wg_t (i := 445) (by decide +kernel) (by decide +kernel)
theorem mw_446 : Cond.instanceMethod yX4_moveState ∈ wg := wg_t (i := 446) (by decide +kernel) (by decide +kernel)
theorem mw_447 : Cond.selects RX4 yX4_moveState yX4_moveState ∈ wg := wg_t (i := 447) (by decide +kernel) (by decide +kernel)
theorem mw_448 : Cond.code yX4_moveState prog_6_method_16_code (2) (Option.some FieldType.int) ∈ wg := wg_t (i := 448) (by decide +kernel) (by decide +kernel)
theorem mw_449 : Cond.methodLink RX4 (105) yX4_isMove ∈ wg := wg_t (i := 449) (by decide +kernel) (by decide +kernel)
theorem mw_451 : Cond.instanceMethod yX4_isMove ∈ wg := wg_t (i := 451) (by decide +kernel) (by decide +kernel)
theorem mw_452 : Cond.code yX4_isMove prog_6_method_5_code (2) (Option.some FieldType.boolean) ∈ wg := wg_t (i := 452) (by decide +kernel) (by decide +kernel)
theorem mw_453 : Cond.methodLink RL (51) yX4_right ∈ wg := wg_t (i := 453) (by decide +kernel) (by decide +kernel)
theorem mw_454 : Cond.instanceMethod yX4_right ∈ wg := wg_t (i := 454) (by decide +kernel) (by decide +kernel)
theorem mw_455 : Cond.selects RX4 yX4_right yX4_right ∈ wg := wg_t (i := 455) (by decide +kernel) (by decide +kernel)
theorem mw_456 : Cond.code yX4_right prog_6_method_17_code (4) (Option.some FieldType.boolean) ∈ wg := wg_t (i := 456) (by decide +kernel) (by decide +kernel)
theorem mw_457 : Cond.methodLink RX4 (108) yX4_isPerson ∈ wg := wg_t (i := 457) (by decide +kernel) (by decide +kernel)
theorem mw_458 : Cond.static yX4_isPerson ∈ wg := wg_t (i := 458) (by decide +kernel) (by decide +kernel)
theorem mw_459 : Cond.code yX4_isPerson prog_6_method_7_code (1) (Option.some FieldType.boolean) ∈ wg := wg_t (i := 459) (by decide +kernel) (by decide +kernel)
theorem mw_460 : Cond.methodLink RX4 (111) yX4_isEvent ∈ wg := wg_t (i := 460) (by decide +kernel) (by decide +kernel)
theorem mw_461 : Cond.static yX4_isEvent ∈ wg := wg_t (i := 461) (by decide +kernel) (by decide +kernel)
theorem mw_462 : Cond.code yX4_isEvent prog_6_method_8_code (1) (Option.some FieldType.boolean) ∈ wg := wg_t (i := 462) (by decide +kernel) (by decide +kernel)
theorem mw_463 : Cond.methodLink RL (56) yX4_may ∈ wg := wg_t (i := 463) (by decide +kernel) (by decide +kernel)
theorem mw_464 : Cond.instanceMethod yX4_may ∈ wg := wg_t (i := 464) (by decide +kernel) (by decide +kernel)
theorem mw_465 : Cond.selects RX4 yX4_may yX4_may ∈ wg := wg_t (i := 465) (by decide +kernel) (by decide +kernel)
theorem mw_466 : Cond.code yX4_may prog_6_method_18_code (3) (Option.some FieldType.boolean) ∈ wg := wg_t (i := 466) (by decide +kernel) (by decide +kernel)
theorem mw_467 : Cond.methodLink RL (61) yX4_event ∈ wg := wg_t (i := 467) (by decide +kernel) (by decide +kernel)
theorem mw_468 : Cond.instanceMethod yX4_event ∈ wg := wg_t (i := 468) (by decide +kernel) (by decide +kernel)
theorem mw_469 : Cond.selects RX4 yX4_event yX4_event ∈ wg := wg_t (i := 469) (by decide +kernel) (by decide +kernel)
theorem mw_470 : Cond.code yX4_event prog_6_method_20_code (4) (Option.some FieldType.int) ∈ wg := wg_t (i := 470) (by decide +kernel) (by decide +kernel)
theorem mw_471 : Cond.methodLink RX4 (114) yX4_may ∈ wg := wg_t (i := 471) (by decide +kernel) (by decide +kernel)
theorem mw_472 : Cond.methodLink RX4 (117) yX4_leads ∈ wg := wg_t (i := 472) (by decide +kernel) (by decide +kernel)
theorem mw_473 : Cond.static yX4_leads ∈ wg := wg_t (i := 473) (by decide +kernel) (by decide +kernel)
theorem mw_474 : Cond.code yX4_leads prog_6_method_19_code (2) (Option.some FieldType.boolean) ∈ wg := wg_t (i := 474) (by decide +kernel) (by decide +kernel)
theorem mw_475 : Cond.methodLink RL (65) yX4_mark ∈ wg := wg_t (i := 475) (by decide +kernel) (by decide +kernel)
theorem mw_476 : Cond.instanceMethod yX4_mark ∈ wg := wg_t (i := 476) (by decide +kernel) (by decide +kernel)
theorem mw_477 : Cond.selects RX4 yX4_mark yX4_mark ∈ wg := wg_t (i := 477) (by decide +kernel) (by decide +kernel)
theorem mw_478 : Cond.code yX4_mark prog_6_method_21_code (4) (Option.some FieldType.boolean) ∈ wg := wg_t (i := 478) (by decide +kernel) (by decide +kernel)
theorem mw_479 : Cond.methodLink RL (70) yX4_left ∈ wg := wg_t (i := 479) (by decide +kernel) (by decide +kernel)
theorem mw_480 : Cond.methodLink RL (75) yX4_bank ∈ wg := wg_t (i := 480) (by decide +kernel) (by decide +kernel)
theorem mw_481 : Cond.instanceMethod yX4_bank ∈ wg := wg_t (i := 481) (by decide +kernel) (by decide +kernel)
theorem mw_482 : Cond.selects RX4 yX4_bank yX4_bank ∈ wg := wg_t (i := 482) (by decide +kernel) (by decide +kernel)
theorem mw_483 : Cond.code yX4_bank prog_6_method_23_code (4) (Option.some FieldType.boolean) ∈ wg := wg_t (i := 483) (by decide +kernel) (by decide +kernel)
theorem mw_484 : Cond.constantLong RX4 (122) (10000000000) ∈ wg := wg_t (i := 484) (by decide +kernel) (by decide +kernel)
theorem mw_485 : Cond.methodLink RL (79) yX4_held ∈ wg := wg_t (i := 485) (by decide +kernel) (by decide +kernel)
theorem mw_486 : Cond.instanceMethod yX4_held ∈ wg := wg_t (i := 486) (by decide +kernel) (by decide +kernel)
theorem mw_487 : Cond.selects RX4 yX4_held yX4_held ∈ wg := wg_t (i := 487) (by decide +kernel) (by decide +kernel)
theorem mw_488 : Cond.code yX4_held prog_6_method_24_code (8) (Option.some FieldType.long) ∈ wg := wg_t (i := 488) (by decide +kernel) (by decide +kernel)
theorem mw_489 : Cond.methodLink RL (84) yX4_limit ∈ wg := wg_t (i := 489) (by decide +kernel) (by decide +kernel)
theorem mw_490 : Cond.instanceMethod yX4_limit ∈ wg := wg_t (i := 490) (by decide +kernel) (by decide +kernel)
theorem mw_491 : Cond.selects RX4 yX4_limit yX4_limit ∈ wg := wg_t (i := 491) (by decide +kernel) (by decide +kernel)
theorem mw_492 : Cond.code yX4_limit prog_6_method_25_code (2) (Option.some FieldType.boolean) ∈ wg := wg_t (i := 492) (by decide +kernel) (by decide +kernel)
theorem mw_493 : Cond.methodLink RL (88) yX4_late ∈ wg := wg_t (i := 493) (by decide +kernel) (by decide +kernel)
theorem mw_494 : Cond.instanceMethod yX4_late ∈ wg := wg_t (i := 494) (by decide +kernel) (by decide +kernel)
theorem mw_495 : Cond.selects RX4 yX4_late yX4_late ∈ wg := wg_t (i := 495) (by decide +kernel) (by decide +kernel)
theorem mw_496 : Cond.code yX4_late prog_6_method_26_code (4) (Option.some FieldType.int) ∈ wg := wg_t (i := 496) (by decide +kernel) (by decide +kernel)
theorem mw_497 : Cond.methodLink RL (93) yX4_carrier ∈ wg := wg_t (i := 497) (by decide +kernel) (by decide +kernel)
theorem mw_498 : Cond.instanceMethod yX4_carrier ∈ wg := wg_t (i := 498) (by decide +kernel) (by decide +kernel)
theorem mw_499 : Cond.selects RX4 yX4_carrier yX4_carrier ∈ wg := wg_t (i := 499) (by decide +kernel) (by decide +kernel)
theorem mw_500 : Cond.code yX4_carrier prog_6_method_27_code (4) (Option.some FieldType.int) ∈ wg := wg_t (i := 500) (by decide +kernel) (by decide +kernel)
theorem mw_501 : Cond.constantLong RX4 (124) (99) ∈ wg := wg_t (i := 501) (by decide +kernel) (by decide +kernel)
theorem mw_502 : Cond.methodLink RL (97) yX4_back ∈ wg := wg_t (i := 502) (by decide +kernel) (by decide +kernel)
theorem mw_503 : Cond.instanceMethod yX4_back ∈ wg := wg_t (i := 503) (by decide +kernel) (by decide +kernel)
theorem mw_504 : Cond.selects RX4 yX4_back yX4_back ∈ wg := wg_t (i := 504) (by decide +kernel) (by decide +kernel)
theorem mw_505 : Cond.code yX4_back prog_6_method_28_code (3) (Option.some FieldType.int) ∈ wg := wg_t (i := 505) (by decide +kernel) (by decide +kernel)
theorem mw_506 : Cond.methodLink RL (101) yX4_print ∈ wg := wg_t (i := 506) (by decide +kernel) (by decide +kernel)
theorem mw_507 : Cond.instanceMethod yX4_print ∈ wg := wg_t (i := 507) (by decide +kernel) (by decide +kernel)
theorem mw_508 : Cond.selects RX4 yX4_print yX4_print ∈ wg := wg_t (i := 508) (by decide +kernel) (by decide +kernel)
theorem mw_509 : Cond.code yX4_print prog_6_method_32_code (4) (Option.some FieldType.int) ∈ wg := wg_t (i := 509) (by decide +kernel) (by decide +kernel)
theorem mw_510 : Cond.methodLink RX4 (142) yX4_putNumber ∈ wg := wg_t (i := 510) (by decide +kernel) (by decide +kernel)
theorem mw_512 : Cond.instanceMethod yX4_putNumber ∈ wg := wg_t (i := 512) (by decide +kernel) (by decide +kernel)
theorem mw_513 : Cond.code yX4_putNumber prog_6_method_30_code (5) (Option.none : Option FieldType) ∈ wg := wg_t (i := 513) (by decide +kernel) (by decide +kernel)
theorem mw_514 : Cond.constantLong RX4 (132) (9) ∈ wg := wg_t (i := 514) (by decide +kernel) (by decide +kernel)
theorem mw_515 : Cond.constantLong RX4 (134) (10) ∈ wg := wg_t (i := 515) (by decide +kernel) (by decide +kernel)
theorem mw_516 : Cond.constantLong RX4 (136) (48) ∈ wg := wg_t (i := 516) (by decide +kernel) (by decide +kernel)
theorem mw_517 : Cond.methodLink RX4 (138) yX4_put ∈ wg := wg_t (i := 517) (by decide +kernel) (by decide +kernel)
theorem mw_519 : Cond.instanceMethod yX4_put ∈ wg := wg_t (i := 519) (by decide +kernel) (by decide +kernel)
theorem mw_520 : Cond.code yX4_put prog_6_method_29_code (2) (Option.none : Option FieldType) ∈ wg := wg_t (i := 520) (by decide +kernel) (by decide +kernel)
theorem mw_521 : Cond.methodLink RX4 (146) yX4_letterOf ∈ wg := wg_t (i := 521) (by decide +kernel) (by decide +kernel)
theorem mw_522 : Cond.static yX4_letterOf ∈ wg := wg_t (i := 522) (by decide +kernel) (by decide +kernel)
theorem mw_523 : Cond.code yX4_letterOf prog_6_method_31_code (1) (Option.some FieldType.int) ∈ wg := wg_t (i := 523) (by decide +kernel) (by decide +kernel)
theorem mw_524 : Cond.constantLong RL (18) (4294967295) ∈ wg := wg_t (i := 524) (by decide +kernel) (by decide +kernel)
theorem mw_525 : Cond.arrayClass FieldType.char ∈ wg := wg_t (i := 525) (by decide +kernel) (by decide +kernel)
theorem mw_obj : Cond.code objectInit ⟨#[0xb1]⟩ 1 none ∈ wg := wg_t (i := 13) (by decide +kernel) (by decide +kernel)
theorem ms_0 : Cond.selects RX3 yX3_noticeAt yX3_noticeAt ∈ wg := wg_s (i := 0) (by decide +kernel) (by decide +kernel)
theorem ms_1 : Cond.selects RX1 yX1_countOf yX1_countOf ∈ wg := wg_s (i := 1) (by decide +kernel) (by decide +kernel)
theorem ms_2 : Cond.selects RX3 yX3_gramsInMoves yX3_gramsInMoves ∈ wg := wg_s (i := 2) (by decide +kernel) (by decide +kernel)
theorem ms_3 : Cond.selects RX3 yX3_moveAt yX3_moveAt ∈ wg := wg_s (i := 3) (by decide +kernel) (by decide +kernel)
theorem ms_4 : Cond.selects RX3 yX3_hasRight yX3_hasRight ∈ wg := wg_s (i := 4) (by decide +kernel) (by decide +kernel)
theorem ms_5 : Cond.selects RX3 yX3_canBeTaken yX3_canBeTaken ∈ wg := wg_s (i := 5) (by decide +kernel) (by decide +kernel)
theorem ms_6 : Cond.selects RX3 yX3_gramsRecovered yX3_gramsRecovered ∈ wg := wg_s (i := 6) (by decide +kernel) (by decide +kernel)
theorem ms_7 : Cond.selects RX3 yX3_isLate yX3_isLate ∈ wg := wg_s (i := 7) (by decide +kernel) (by decide +kernel)
theorem ms_8 : Cond.selects RX3 yX3_writeHead yX3_writeHead ∈ wg := wg_s (i := 8) (by decide +kernel) (by decide +kernel)
theorem ms_9 : Cond.selects RX3 yX3_writeMove yX3_writeMove ∈ wg := wg_s (i := 9) (by decide +kernel) (by decide +kernel)
theorem ms_10 : Cond.selects RX4 yX4_isSilent yX4_isSilent ∈ wg := wg_s (i := 10) (by decide +kernel) (by decide +kernel)
theorem ms_11 : Cond.selects RX4 yX4_isNotice yX4_isNotice ∈ wg := wg_s (i := 11) (by decide +kernel) (by decide +kernel)
theorem ms_12 : Cond.selects RX4 yX4_isMove yX4_isMove ∈ wg := wg_s (i := 12) (by decide +kernel) (by decide +kernel)
theorem ms_13 : Cond.selects RX4 yX4_putNumber yX4_putNumber ∈ wg := wg_s (i := 13) (by decide +kernel) (by decide +kernel)
theorem ms_14 : Cond.selects RX4 yX4_put yX4_put ∈ wg := wg_s (i := 14) (by decide +kernel) (by decide +kernel)
theorem inX0 : ∀ w ∈ u_ws RX0 TX0 8, w ∈ wg := by
  intro w hw
  refine List.mem_filter.mpr ⟨List.mem_append_right _ ?_, ?_⟩
  · exact (show ∀ w ∈ u_ws RX0 TX0 8, w ∈ tables_1 by decide +kernel) w hw
  · exact (show ∀ w ∈ u_ws RX0 TX0 8, goodWord w = true by decide +kernel) w hw
theorem inX1 : ∀ w ∈ u_ws RX1 TX1 7, w ∈ wg := by
  intro w hw
  refine List.mem_filter.mpr ⟨List.mem_append_right _ ?_, ?_⟩
  · exact (show ∀ w ∈ u_ws RX1 TX1 7, w ∈ tables_1 by decide +kernel) w hw
  · exact (show ∀ w ∈ u_ws RX1 TX1 7, goodWord w = true by decide +kernel) w hw
theorem inX2 : ∀ w ∈ u_ws RX2 TX2 2, w ∈ wg := by
  intro w hw
  refine List.mem_filter.mpr ⟨List.mem_append_right _ ?_, ?_⟩
  · exact (show ∀ w ∈ u_ws RX2 TX2 2, w ∈ tables_1 by decide +kernel) w hw
  · exact (show ∀ w ∈ u_ws RX2 TX2 2, goodWord w = true by decide +kernel) w hw
theorem inX3 : ∀ w ∈ u_ws RX3 TX3 8, w ∈ wg := by
  intro w hw
  refine List.mem_filter.mpr ⟨List.mem_append_right _ ?_, ?_⟩
  · exact (show ∀ w ∈ u_ws RX3 TX3 8, w ∈ tables_1 by decide +kernel) w hw
  · exact (show ∀ w ∈ u_ws RX3 TX3 8, goodWord w = true by decide +kernel) w hw
theorem inX4 : ∀ w ∈ u_ws RX4 TX4 23, w ∈ wg := by
  intro w hw
  refine List.mem_filter.mpr ⟨List.mem_append_right _ ?_, ?_⟩
  · exact (show ∀ w ∈ u_ws RX4 TX4 23, w ∈ tables_1 by decide +kernel) w hw
  · exact (show ∀ w ∈ u_ws RX4 TX4 23, goodWord w = true by decide +kernel) w hw
end
section
/-! decode rows of X0, X1, X2. Printed by wip/gen/names.py. -/
theorem dX0_init_0 : decode cX0_init 0 = .ok (.aload_n 0, 1) := by decide +kernel
theorem dX0_init_1 : decode cX0_init 1 = .ok (.invokespecial 3, 3) := by decide +kernel
theorem dX0_init_4 : decode cX0_init 4 = .ok (.aload_n 0, 1) := by decide +kernel
theorem dX0_init_5 : decode cX0_init 5 = .ok (.bipush 6, 2) := by decide +kernel
theorem dX0_init_7 : decode cX0_init 7 = .ok (.newarray .int, 2) := by decide +kernel
theorem dX0_init_9 : decode cX0_init 9 = .ok (.putfield 9, 3) := by decide +kernel
theorem dX0_init_12 : decode cX0_init 12 = .ok (.aload_n 0, 1) := by decide +kernel
theorem dX0_init_13 : decode cX0_init 13 = .ok (.iload_n 1, 1) := by decide +kernel
theorem dX0_init_14 : decode cX0_init 14 = .ok (.putfield 15, 3) := by decide +kernel
theorem dX0_init_17 : decode cX0_init 17 = .ok (.aload_n 0, 1) := by decide +kernel
theorem dX0_init_18 : decode cX0_init 18 = .ok (.lload_n 2, 1) := by decide +kernel
theorem dX0_init_19 : decode cX0_init 19 = .ok (.putfield 19, 3) := by decide +kernel
theorem dX0_init_22 : decode cX0_init 22 = .ok (.aload_n 0, 1) := by decide +kernel
theorem dX0_init_23 : decode cX0_init 23 = .ok (.iload 4, 2) := by decide +kernel
theorem dX0_init_25 : decode cX0_init 25 = .ok (.putfield 23, 3) := by decide +kernel
theorem dX0_init_28 : decode cX0_init 28 = .ok (.aload_n 0, 1) := by decide +kernel
theorem dX0_init_29 : decode cX0_init 29 = .ok (.iconst 0, 1) := by decide +kernel
theorem dX0_init_30 : decode cX0_init 30 = .ok (.putfield 26, 3) := by decide +kernel
theorem dX0_init_33 : decode cX0_init 33 = .ok (.aload_n 0, 1) := by decide +kernel
theorem dX0_init_34 : decode cX0_init 34 = .ok (.iload 5, 2) := by decide +kernel
theorem dX0_init_36 : decode cX0_init 36 = .ok (.putfield 29, 3) := by decide +kernel
theorem dX0_init_39 : decode cX0_init 39 = .ok (.return_, 1) := by decide +kernel
theorem dX0_enter_0 : decode cX0_enter 0 = .ok (.aload_n 0, 1) := by decide +kernel
theorem dX0_enter_1 : decode cX0_enter 1 = .ok (.iload_n 1, 1) := by decide +kernel
theorem dX0_enter_2 : decode cX0_enter 2 = .ok (.putfield 26, 3) := by decide +kernel
theorem dX0_enter_5 : decode cX0_enter 5 = .ok (.aload_n 0, 1) := by decide +kernel
theorem dX0_enter_6 : decode cX0_enter 6 = .ok (.iload_n 2, 1) := by decide +kernel
theorem dX0_enter_7 : decode cX0_enter 7 = .ok (.putfield 29, 3) := by decide +kernel
theorem dX0_enter_10 : decode cX0_enter 10 = .ok (.return_, 1) := by decide +kernel
theorem dX0_usesGrams_0 : decode cX0_usesGrams 0 = .ok (.aload_n 0, 1) := by decide +kernel
theorem dX0_usesGrams_1 : decode cX0_usesGrams 1 = .ok (.getfield 26, 3) := by decide +kernel
theorem dX0_usesGrams_4 : decode cX0_usesGrams 4 = .ok (.iconst 4, 1) := by decide +kernel
theorem dX0_usesGrams_5 : decode cX0_usesGrams 5 = .ok (.if_icmp .eq 15, 3) := by decide +kernel
theorem dX0_usesGrams_8 : decode cX0_usesGrams 8 = .ok (.aload_n 0, 1) := by decide +kernel
theorem dX0_usesGrams_9 : decode cX0_usesGrams 9 = .ok (.getfield 26, 3) := by decide +kernel
theorem dX0_usesGrams_12 : decode cX0_usesGrams 12 = .ok (.iconst 5, 1) := by decide +kernel
theorem dX0_usesGrams_13 : decode cX0_usesGrams 13 = .ok (.if_icmp .eq 7, 3) := by decide +kernel
theorem dX0_usesGrams_16 : decode cX0_usesGrams 16 = .ok (.iconst 1, 1) := by decide +kernel
theorem dX0_usesGrams_17 : decode cX0_usesGrams 17 = .ok (.goto 4, 3) := by decide +kernel
theorem dX0_usesGrams_20 : decode cX0_usesGrams 20 = .ok (.iconst 0, 1) := by decide +kernel
theorem dX0_usesGrams_21 : decode cX0_usesGrams 21 = .ok (.ireturn, 1) := by decide +kernel
theorem dX0_addCarrier_0 : decode cX0_addCarrier 0 = .ok (.aload_n 0, 1) := by decide +kernel
theorem dX0_addCarrier_1 : decode cX0_addCarrier 1 = .ok (.getfield 32, 3) := by decide +kernel
theorem dX0_addCarrier_4 : decode cX0_addCarrier 4 = .ok (.bipush 6, 2) := by decide +kernel
theorem dX0_addCarrier_6 : decode cX0_addCarrier 6 = .ok (.if_icmp .ge 12, 3) := by decide +kernel
theorem dX0_addCarrier_9 : decode cX0_addCarrier 9 = .ok (.aload_n 0, 1) := by decide +kernel
theorem dX0_addCarrier_10 : decode cX0_addCarrier 10 = .ok (.iconst 0, 1) := by decide +kernel
theorem dX0_addCarrier_11 : decode cX0_addCarrier 11 = .ok (.invokevirtual 35, 3) := by decide +kernel
theorem dX0_addCarrier_14 : decode cX0_addCarrier 14 = .ok (.iload_n 1, 1) := by decide +kernel
theorem dX0_addCarrier_15 : decode cX0_addCarrier 15 = .ok (.if_icmp .ne 5, 3) := by decide +kernel
theorem dX0_addCarrier_18 : decode cX0_addCarrier 18 = .ok (.iconst (-1), 1) := by decide +kernel
theorem dX0_addCarrier_19 : decode cX0_addCarrier 19 = .ok (.ireturn, 1) := by decide +kernel
theorem dX0_addCarrier_20 : decode cX0_addCarrier 20 = .ok (.aload_n 0, 1) := by decide +kernel
theorem dX0_addCarrier_21 : decode cX0_addCarrier 21 = .ok (.getfield 9, 3) := by decide +kernel
theorem dX0_addCarrier_24 : decode cX0_addCarrier 24 = .ok (.aload_n 0, 1) := by decide +kernel
theorem dX0_addCarrier_25 : decode cX0_addCarrier 25 = .ok (.getfield 32, 3) := by decide +kernel
theorem dX0_addCarrier_28 : decode cX0_addCarrier 28 = .ok (.iload_n 1, 1) := by decide +kernel
theorem dX0_addCarrier_29 : decode cX0_addCarrier 29 = .ok (.iastore, 1) := by decide +kernel
theorem dX0_addCarrier_30 : decode cX0_addCarrier 30 = .ok (.aload_n 0, 1) := by decide +kernel
theorem dX0_addCarrier_31 : decode cX0_addCarrier 31 = .ok (.dup, 1) := by decide +kernel
theorem dX0_addCarrier_32 : decode cX0_addCarrier 32 = .ok (.getfield 32, 3) := by decide +kernel
theorem dX0_addCarrier_35 : decode cX0_addCarrier 35 = .ok (.iconst 1, 1) := by decide +kernel
theorem dX0_addCarrier_36 : decode cX0_addCarrier 36 = .ok (.iadd, 1) := by decide +kernel
theorem dX0_addCarrier_37 : decode cX0_addCarrier 37 = .ok (.putfield 32, 3) := by decide +kernel
theorem dX0_addCarrier_40 : decode cX0_addCarrier 40 = .ok (.aload_n 0, 1) := by decide +kernel
theorem dX0_addCarrier_41 : decode cX0_addCarrier 41 = .ok (.getfield 32, 3) := by decide +kernel
theorem dX0_addCarrier_44 : decode cX0_addCarrier 44 = .ok (.ireturn, 1) := by decide +kernel
theorem dX0_carrierBack_0 : decode cX0_carrierBack 0 = .ok (.iload_n 1, 1) := by decide +kernel
theorem dX0_carrierBack_1 : decode cX0_carrierBack 1 = .ok (.ifCond .lt 11, 3) := by decide +kernel
theorem dX0_carrierBack_4 : decode cX0_carrierBack 4 = .ok (.iload_n 1, 1) := by decide +kernel
theorem dX0_carrierBack_5 : decode cX0_carrierBack 5 = .ok (.aload_n 0, 1) := by decide +kernel
theorem dX0_carrierBack_6 : decode cX0_carrierBack 6 = .ok (.getfield 32, 3) := by decide +kernel
theorem dX0_carrierBack_9 : decode cX0_carrierBack 9 = .ok (.if_icmp .lt 7, 3) := by decide +kernel
theorem dX0_carrierBack_12 : decode cX0_carrierBack 12 = .ok (.iconst (-1), 1) := by decide +kernel
theorem dX0_carrierBack_13 : decode cX0_carrierBack 13 = .ok (.goto 16, 3) := by decide +kernel
theorem dX0_carrierBack_16 : decode cX0_carrierBack 16 = .ok (.aload_n 0, 1) := by decide +kernel
theorem dX0_carrierBack_17 : decode cX0_carrierBack 17 = .ok (.getfield 9, 3) := by decide +kernel
theorem dX0_carrierBack_20 : decode cX0_carrierBack 20 = .ok (.aload_n 0, 1) := by decide +kernel
theorem dX0_carrierBack_21 : decode cX0_carrierBack 21 = .ok (.getfield 32, 3) := by decide +kernel
theorem dX0_carrierBack_24 : decode cX0_carrierBack 24 = .ok (.iconst 1, 1) := by decide +kernel
theorem dX0_carrierBack_25 : decode cX0_carrierBack 25 = .ok (.isub, 1) := by decide +kernel
theorem dX0_carrierBack_26 : decode cX0_carrierBack 26 = .ok (.iload_n 1, 1) := by decide +kernel
theorem dX0_carrierBack_27 : decode cX0_carrierBack 27 = .ok (.isub, 1) := by decide +kernel
theorem dX0_carrierBack_28 : decode cX0_carrierBack 28 = .ok (.iaload, 1) := by decide +kernel
theorem dX0_carrierBack_29 : decode cX0_carrierBack 29 = .ok (.ireturn, 1) := by decide +kernel
theorem dX0_letter_0 : decode cX0_letter 0 = .ok (.aload_n 0, 1) := by decide +kernel
theorem dX0_letter_1 : decode cX0_letter 1 = .ok (.getfield 26, 3) := by decide +kernel
theorem dX0_letter_4 : decode cX0_letter 4 = .ok (.ifCond .lt 12, 3) := by decide +kernel
theorem dX0_letter_7 : decode cX0_letter 7 = .ok (.aload_n 0, 1) := by decide +kernel
theorem dX0_letter_8 : decode cX0_letter 8 = .ok (.getfield 26, 3) := by decide +kernel
theorem dX0_letter_11 : decode cX0_letter 11 = .ok (.bipush 6, 2) := by decide +kernel
theorem dX0_letter_13 : decode cX0_letter 13 = .ok (.if_icmp .lt 8, 3) := by decide +kernel
theorem dX0_letter_16 : decode cX0_letter 16 = .ok (.bipush 63, 2) := by decide +kernel
theorem dX0_letter_18 : decode cX0_letter 18 = .ok (.goto 11, 3) := by decide +kernel
theorem dX0_letter_21 : decode cX0_letter 21 = .ok (.getstatic 39, 3) := by decide +kernel
theorem dX0_letter_24 : decode cX0_letter 24 = .ok (.aload_n 0, 1) := by decide +kernel
theorem dX0_letter_25 : decode cX0_letter 25 = .ok (.getfield 26, 3) := by decide +kernel
theorem dX0_letter_28 : decode cX0_letter 28 = .ok (.caload, 1) := by decide +kernel
theorem dX0_letter_29 : decode cX0_letter 29 = .ok (.ireturn, 1) := by decide +kernel
theorem dX1_init_0 : decode cX1_init 0 = .ok (.aload_n 0, 1) := by decide +kernel
theorem dX1_init_1 : decode cX1_init 1 = .ok (.invokespecial 3, 3) := by decide +kernel
theorem dX1_init_4 : decode cX1_init 4 = .ok (.aload_n 0, 1) := by decide +kernel
theorem dX1_init_5 : decode cX1_init 5 = .ok (.bipush 6, 2) := by decide +kernel
theorem dX1_init_7 : decode cX1_init 7 = .ok (.newarray .int, 2) := by decide +kernel
theorem dX1_init_9 : decode cX1_init 9 = .ok (.putfield 9, 3) := by decide +kernel
theorem dX1_init_12 : decode cX1_init 12 = .ok (.aload_n 0, 1) := by decide +kernel
theorem dX1_init_13 : decode cX1_init 13 = .ok (.bipush 6, 2) := by decide +kernel
theorem dX1_init_15 : decode cX1_init 15 = .ok (.newarray .int, 2) := by decide +kernel
theorem dX1_init_17 : decode cX1_init 17 = .ok (.putfield 15, 3) := by decide +kernel
theorem dX1_init_20 : decode cX1_init 20 = .ok (.aload_n 0, 1) := by decide +kernel
theorem dX1_init_21 : decode cX1_init 21 = .ok (.bipush 6, 2) := by decide +kernel
theorem dX1_init_23 : decode cX1_init 23 = .ok (.newarray .int, 2) := by decide +kernel
theorem dX1_init_25 : decode cX1_init 25 = .ok (.putfield 18, 3) := by decide +kernel
theorem dX1_init_28 : decode cX1_init 28 = .ok (.aload_n 0, 1) := by decide +kernel
theorem dX1_init_29 : decode cX1_init 29 = .ok (.lload_n 1, 1) := by decide +kernel
theorem dX1_init_30 : decode cX1_init 30 = .ok (.putfield 21, 3) := by decide +kernel
theorem dX1_init_33 : decode cX1_init 33 = .ok (.aload_n 0, 1) := by decide +kernel
theorem dX1_init_34 : decode cX1_init 34 = .ok (.iload_n 3, 1) := by decide +kernel
theorem dX1_init_35 : decode cX1_init 35 = .ok (.putfield 25, 3) := by decide +kernel
theorem dX1_init_38 : decode cX1_init 38 = .ok (.aload_n 0, 1) := by decide +kernel
theorem dX1_init_39 : decode cX1_init 39 = .ok (.iload 4, 2) := by decide +kernel
theorem dX1_init_41 : decode cX1_init 41 = .ok (.putfield 29, 3) := by decide +kernel
theorem dX1_init_44 : decode cX1_init 44 = .ok (.return_, 1) := by decide +kernel
theorem dX1_covers_0 : decode cX1_covers 0 = .ok (.iload_n 1, 1) := by decide +kernel
theorem dX1_covers_1 : decode cX1_covers 1 = .ok (.aload_n 0, 1) := by decide +kernel
theorem dX1_covers_2 : decode cX1_covers 2 = .ok (.getfield 25, 3) := by decide +kernel
theorem dX1_covers_5 : decode cX1_covers 5 = .ok (.if_icmp .lt 15, 3) := by decide +kernel
theorem dX1_covers_8 : decode cX1_covers 8 = .ok (.iload_n 1, 1) := by decide +kernel
theorem dX1_covers_9 : decode cX1_covers 9 = .ok (.aload_n 0, 1) := by decide +kernel
theorem dX1_covers_10 : decode cX1_covers 10 = .ok (.getfield 29, 3) := by decide +kernel
theorem dX1_covers_13 : decode cX1_covers 13 = .ok (.if_icmp .gt 7, 3) := by decide +kernel
theorem dX1_covers_16 : decode cX1_covers 16 = .ok (.iconst 1, 1) := by decide +kernel
theorem dX1_covers_17 : decode cX1_covers 17 = .ok (.goto 4, 3) := by decide +kernel
theorem dX1_covers_20 : decode cX1_covers 20 = .ok (.iconst 0, 1) := by decide +kernel
theorem dX1_covers_21 : decode cX1_covers 21 = .ok (.ireturn, 1) := by decide +kernel
theorem dX1_ask_0 : decode cX1_ask 0 = .ok (.iload_n 1, 1) := by decide +kernel
theorem dX1_ask_1 : decode cX1_ask 1 = .ok (.ifCond .lt 18, 3) := by decide +kernel
theorem dX1_ask_4 : decode cX1_ask 4 = .ok (.iload_n 1, 1) := by decide +kernel
theorem dX1_ask_5 : decode cX1_ask 5 = .ok (.bipush 6, 2) := by decide +kernel
theorem dX1_ask_7 : decode cX1_ask 7 = .ok (.if_icmp .ge 12, 3) := by decide +kernel
theorem dX1_ask_10 : decode cX1_ask 10 = .ok (.aload_n 0, 1) := by decide +kernel
theorem dX1_ask_11 : decode cX1_ask 11 = .ok (.getfield 9, 3) := by decide +kernel
theorem dX1_ask_14 : decode cX1_ask 14 = .ok (.iload_n 1, 1) := by decide +kernel
theorem dX1_ask_15 : decode cX1_ask 15 = .ok (.iaload, 1) := by decide +kernel
theorem dX1_ask_16 : decode cX1_ask 16 = .ok (.ifCond .eq 5, 3) := by decide +kernel
theorem dX1_ask_19 : decode cX1_ask 19 = .ok (.iconst 0, 1) := by decide +kernel
theorem dX1_ask_20 : decode cX1_ask 20 = .ok (.ireturn, 1) := by decide +kernel
theorem dX1_ask_21 : decode cX1_ask 21 = .ok (.aload_n 0, 1) := by decide +kernel
theorem dX1_ask_22 : decode cX1_ask 22 = .ok (.getfield 9, 3) := by decide +kernel
theorem dX1_ask_25 : decode cX1_ask 25 = .ok (.iload_n 1, 1) := by decide +kernel
theorem dX1_ask_26 : decode cX1_ask 26 = .ok (.iconst 1, 1) := by decide +kernel
theorem dX1_ask_27 : decode cX1_ask 27 = .ok (.iastore, 1) := by decide +kernel
theorem dX1_ask_28 : decode cX1_ask 28 = .ok (.aload_n 0, 1) := by decide +kernel
theorem dX1_ask_29 : decode cX1_ask 29 = .ok (.getfield 15, 3) := by decide +kernel
theorem dX1_ask_32 : decode cX1_ask 32 = .ok (.iload_n 1, 1) := by decide +kernel
theorem dX1_ask_33 : decode cX1_ask 33 = .ok (.iload_n 3, 1) := by decide +kernel
theorem dX1_ask_34 : decode cX1_ask 34 = .ok (.iastore, 1) := by decide +kernel
theorem dX1_ask_35 : decode cX1_ask 35 = .ok (.aload_n 0, 1) := by decide +kernel
theorem dX1_ask_36 : decode cX1_ask 36 = .ok (.getfield 18, 3) := by decide +kernel
theorem dX1_ask_39 : decode cX1_ask 39 = .ok (.iload_n 1, 1) := by decide +kernel
theorem dX1_ask_40 : decode cX1_ask 40 = .ok (.iload_n 2, 1) := by decide +kernel
theorem dX1_ask_41 : decode cX1_ask 41 = .ok (.iastore, 1) := by decide +kernel
theorem dX1_ask_42 : decode cX1_ask 42 = .ok (.iconst 1, 1) := by decide +kernel
theorem dX1_ask_43 : decode cX1_ask 43 = .ok (.ireturn, 1) := by decide +kernel
theorem dX1_answer_0 : decode cX1_answer 0 = .ok (.iload_n 1, 1) := by decide +kernel
theorem dX1_answer_1 : decode cX1_answer 1 = .ok (.ifCond .lt 19, 3) := by decide +kernel
theorem dX1_answer_4 : decode cX1_answer 4 = .ok (.iload_n 1, 1) := by decide +kernel
theorem dX1_answer_5 : decode cX1_answer 5 = .ok (.bipush 6, 2) := by decide +kernel
theorem dX1_answer_7 : decode cX1_answer 7 = .ok (.if_icmp .ge 13, 3) := by decide +kernel
theorem dX1_answer_10 : decode cX1_answer 10 = .ok (.aload_n 0, 1) := by decide +kernel
theorem dX1_answer_11 : decode cX1_answer 11 = .ok (.getfield 9, 3) := by decide +kernel
theorem dX1_answer_14 : decode cX1_answer 14 = .ok (.iload_n 1, 1) := by decide +kernel
theorem dX1_answer_15 : decode cX1_answer 15 = .ok (.iaload, 1) := by decide +kernel
theorem dX1_answer_16 : decode cX1_answer 16 = .ok (.iconst 1, 1) := by decide +kernel
theorem dX1_answer_17 : decode cX1_answer 17 = .ok (.if_icmp .eq 5, 3) := by decide +kernel
theorem dX1_answer_20 : decode cX1_answer 20 = .ok (.iconst 0, 1) := by decide +kernel
theorem dX1_answer_21 : decode cX1_answer 21 = .ok (.ireturn, 1) := by decide +kernel
theorem dX1_answer_22 : decode cX1_answer 22 = .ok (.aload_n 0, 1) := by decide +kernel
theorem dX1_answer_23 : decode cX1_answer 23 = .ok (.getfield 9, 3) := by decide +kernel
theorem dX1_answer_26 : decode cX1_answer 26 = .ok (.iload_n 1, 1) := by decide +kernel
theorem dX1_answer_27 : decode cX1_answer 27 = .ok (.iload_n 2, 1) := by decide +kernel
theorem dX1_answer_28 : decode cX1_answer 28 = .ok (.ifCond .eq 7, 3) := by decide +kernel
theorem dX1_answer_31 : decode cX1_answer 31 = .ok (.iconst 2, 1) := by decide +kernel
theorem dX1_answer_32 : decode cX1_answer 32 = .ok (.goto 4, 3) := by decide +kernel
theorem dX1_answer_35 : decode cX1_answer 35 = .ok (.iconst 3, 1) := by decide +kernel
theorem dX1_answer_36 : decode cX1_answer 36 = .ok (.iastore, 1) := by decide +kernel
theorem dX1_answer_37 : decode cX1_answer 37 = .ok (.iconst 1, 1) := by decide +kernel
theorem dX1_answer_38 : decode cX1_answer 38 = .ok (.ireturn, 1) := by decide +kernel
theorem dX1_agreeSilently_0 : decode cX1_agreeSilently 0 = .ok (.iconst 0, 1) := by decide +kernel
theorem dX1_agreeSilently_1 : decode cX1_agreeSilently 1 = .ok (.istore_n 2, 1) := by decide +kernel
theorem dX1_agreeSilently_2 : decode cX1_agreeSilently 2 = .ok (.iconst 0, 1) := by decide +kernel
theorem dX1_agreeSilently_3 : decode cX1_agreeSilently 3 = .ok (.istore_n 3, 1) := by decide +kernel
theorem dX1_agreeSilently_4 : decode cX1_agreeSilently 4 = .ok (.iload_n 3, 1) := by decide +kernel
theorem dX1_agreeSilently_5 : decode cX1_agreeSilently 5 = .ok (.bipush 6, 2) := by decide +kernel
theorem dX1_agreeSilently_7 : decode cX1_agreeSilently 7 = .ok (.if_icmp .ge 46, 3) := by decide +kernel
theorem dX1_agreeSilently_10 : decode cX1_agreeSilently 10 = .ok (.aload_n 0, 1) := by decide +kernel
theorem dX1_agreeSilently_11 : decode cX1_agreeSilently 11 = .ok (.getfield 9, 3) := by decide +kernel
theorem dX1_agreeSilently_14 : decode cX1_agreeSilently 14 = .ok (.iload_n 3, 1) := by decide +kernel
theorem dX1_agreeSilently_15 : decode cX1_agreeSilently 15 = .ok (.iaload, 1) := by decide +kernel
theorem dX1_agreeSilently_16 : decode cX1_agreeSilently 16 = .ok (.iconst 1, 1) := by decide +kernel
theorem dX1_agreeSilently_17 : decode cX1_agreeSilently 17 = .ok (.if_icmp .ne 30, 3) := by decide +kernel
theorem dX1_agreeSilently_20 : decode cX1_agreeSilently 20 = .ok (.iload_n 1, 1) := by decide +kernel
theorem dX1_agreeSilently_21 : decode cX1_agreeSilently 21 = .ok (.aload_n 0, 1) := by decide +kernel
theorem dX1_agreeSilently_22 : decode cX1_agreeSilently 22 = .ok (.getfield 15, 3) := by decide +kernel
theorem dX1_agreeSilently_25 : decode cX1_agreeSilently 25 = .ok (.iload_n 3, 1) := by decide +kernel
theorem dX1_agreeSilently_26 : decode cX1_agreeSilently 26 = .ok (.iaload, 1) := by decide +kernel
theorem dX1_agreeSilently_27 : decode cX1_agreeSilently 27 = .ok (.isub, 1) := by decide +kernel
theorem dX1_agreeSilently_28 : decode cX1_agreeSilently 28 = .ok (.aload_n 0, 1) := by decide +kernel
theorem dX1_agreeSilently_29 : decode cX1_agreeSilently 29 = .ok (.getfield 18, 3) := by decide +kernel
theorem dX1_agreeSilently_32 : decode cX1_agreeSilently 32 = .ok (.iload_n 3, 1) := by decide +kernel
theorem dX1_agreeSilently_33 : decode cX1_agreeSilently 33 = .ok (.iaload, 1) := by decide +kernel
theorem dX1_agreeSilently_34 : decode cX1_agreeSilently 34 = .ok (.if_icmp .le 13, 3) := by decide +kernel
theorem dX1_agreeSilently_37 : decode cX1_agreeSilently 37 = .ok (.aload_n 0, 1) := by decide +kernel
theorem dX1_agreeSilently_38 : decode cX1_agreeSilently 38 = .ok (.getfield 9, 3) := by decide +kernel
theorem dX1_agreeSilently_41 : decode cX1_agreeSilently 41 = .ok (.iload_n 3, 1) := by decide +kernel
theorem dX1_agreeSilently_42 : decode cX1_agreeSilently 42 = .ok (.iconst 2, 1) := by decide +kernel
theorem dX1_agreeSilently_43 : decode cX1_agreeSilently 43 = .ok (.iastore, 1) := by decide +kernel
theorem dX1_agreeSilently_44 : decode cX1_agreeSilently 44 = .ok (.iinc 2 1, 3) := by decide +kernel
theorem dX1_agreeSilently_47 : decode cX1_agreeSilently 47 = .ok (.iinc 3 1, 3) := by decide +kernel
theorem dX1_agreeSilently_50 : decode cX1_agreeSilently 50 = .ok (.goto (-46), 3) := by decide +kernel
theorem dX1_agreeSilently_53 : decode cX1_agreeSilently 53 = .ok (.iload_n 2, 1) := by decide +kernel
theorem dX1_agreeSilently_54 : decode cX1_agreeSilently 54 = .ok (.ireturn, 1) := by decide +kernel
theorem dX1_stateOn_0 : decode cX1_stateOn 0 = .ok (.aload_n 0, 1) := by decide +kernel
theorem dX1_stateOn_1 : decode cX1_stateOn 1 = .ok (.iconst 3, 1) := by decide +kernel
theorem dX1_stateOn_2 : decode cX1_stateOn 2 = .ok (.invokevirtual 32, 3) := by decide +kernel
theorem dX1_stateOn_5 : decode cX1_stateOn 5 = .ok (.ifCond .le 5, 3) := by decide +kernel
theorem dX1_stateOn_8 : decode cX1_stateOn 8 = .ok (.iconst 2, 1) := by decide +kernel
theorem dX1_stateOn_9 : decode cX1_stateOn 9 = .ok (.ireturn, 1) := by decide +kernel
theorem dX1_stateOn_10 : decode cX1_stateOn 10 = .ok (.iload_n 1, 1) := by decide +kernel
theorem dX1_stateOn_11 : decode cX1_stateOn 11 = .ok (.aload_n 0, 1) := by decide +kernel
theorem dX1_stateOn_12 : decode cX1_stateOn 12 = .ok (.getfield 29, 3) := by decide +kernel
theorem dX1_stateOn_15 : decode cX1_stateOn 15 = .ok (.if_icmp .le 5, 3) := by decide +kernel
theorem dX1_stateOn_18 : decode cX1_stateOn 18 = .ok (.iconst 3, 1) := by decide +kernel
theorem dX1_stateOn_19 : decode cX1_stateOn 19 = .ok (.ireturn, 1) := by decide +kernel
theorem dX1_stateOn_20 : decode cX1_stateOn 20 = .ok (.aload_n 0, 1) := by decide +kernel
theorem dX1_stateOn_21 : decode cX1_stateOn 21 = .ok (.iconst 2, 1) := by decide +kernel
theorem dX1_stateOn_22 : decode cX1_stateOn 22 = .ok (.invokevirtual 32, 3) := by decide +kernel
theorem dX1_stateOn_25 : decode cX1_stateOn 25 = .ok (.ifCond .le 15, 3) := by decide +kernel
theorem dX1_stateOn_28 : decode cX1_stateOn 28 = .ok (.aload_n 0, 1) := by decide +kernel
theorem dX1_stateOn_29 : decode cX1_stateOn 29 = .ok (.iconst 1, 1) := by decide +kernel
theorem dX1_stateOn_30 : decode cX1_stateOn 30 = .ok (.invokevirtual 32, 3) := by decide +kernel
theorem dX1_stateOn_33 : decode cX1_stateOn 33 = .ok (.ifCond .ne 7, 3) := by decide +kernel
theorem dX1_stateOn_36 : decode cX1_stateOn 36 = .ok (.iconst 1, 1) := by decide +kernel
theorem dX1_stateOn_37 : decode cX1_stateOn 37 = .ok (.goto 4, 3) := by decide +kernel
theorem dX1_stateOn_40 : decode cX1_stateOn 40 = .ok (.iconst 0, 1) := by decide +kernel
theorem dX1_stateOn_41 : decode cX1_stateOn 41 = .ok (.ireturn, 1) := by decide +kernel
theorem dX1_countOf_0 : decode cX1_countOf 0 = .ok (.iconst 0, 1) := by decide +kernel
theorem dX1_countOf_1 : decode cX1_countOf 1 = .ok (.istore_n 2, 1) := by decide +kernel
theorem dX1_countOf_2 : decode cX1_countOf 2 = .ok (.iconst 0, 1) := by decide +kernel
theorem dX1_countOf_3 : decode cX1_countOf 3 = .ok (.istore_n 3, 1) := by decide +kernel
theorem dX1_countOf_4 : decode cX1_countOf 4 = .ok (.iload_n 3, 1) := by decide +kernel
theorem dX1_countOf_5 : decode cX1_countOf 5 = .ok (.bipush 6, 2) := by decide +kernel
theorem dX1_countOf_7 : decode cX1_countOf 7 = .ok (.if_icmp .ge 22, 3) := by decide +kernel
theorem dX1_countOf_10 : decode cX1_countOf 10 = .ok (.aload_n 0, 1) := by decide +kernel
theorem dX1_countOf_11 : decode cX1_countOf 11 = .ok (.getfield 9, 3) := by decide +kernel
theorem dX1_countOf_14 : decode cX1_countOf 14 = .ok (.iload_n 3, 1) := by decide +kernel
theorem dX1_countOf_15 : decode cX1_countOf 15 = .ok (.iaload, 1) := by decide +kernel
theorem dX1_countOf_16 : decode cX1_countOf 16 = .ok (.iload_n 1, 1) := by decide +kernel
theorem dX1_countOf_17 : decode cX1_countOf 17 = .ok (.if_icmp .ne 6, 3) := by decide +kernel
theorem dX1_countOf_20 : decode cX1_countOf 20 = .ok (.iinc 2 1, 3) := by decide +kernel
theorem dX1_countOf_23 : decode cX1_countOf 23 = .ok (.iinc 3 1, 3) := by decide +kernel
theorem dX1_countOf_26 : decode cX1_countOf 26 = .ok (.goto (-22), 3) := by decide +kernel
theorem dX1_countOf_29 : decode cX1_countOf 29 = .ok (.iload_n 2, 1) := by decide +kernel
theorem dX1_countOf_30 : decode cX1_countOf 30 = .ok (.ireturn, 1) := by decide +kernel
theorem dX2_init_0 : decode cX2_init 0 = .ok (.aload_n 0, 1) := by decide +kernel
theorem dX2_init_1 : decode cX2_init 1 = .ok (.invokespecial 3, 3) := by decide +kernel
theorem dX2_init_4 : decode cX2_init 4 = .ok (.aload_n 0, 1) := by decide +kernel
theorem dX2_init_5 : decode cX2_init 5 = .ok (.sipush 208, 3) := by decide +kernel
theorem dX2_init_8 : decode cX2_init 8 = .ok (.newarray .byte, 2) := by decide +kernel
theorem dX2_init_10 : decode cX2_init 10 = .ok (.putfield 9, 3) := by decide +kernel
theorem dX2_init_13 : decode cX2_init 13 = .ok (.return_, 1) := by decide +kernel
theorem dX2_clear_0 : decode cX2_clear 0 = .ok (.aload_n 0, 1) := by decide +kernel
theorem dX2_clear_1 : decode cX2_clear 1 = .ok (.iconst 0, 1) := by decide +kernel
theorem dX2_clear_2 : decode cX2_clear 2 = .ok (.putfield 15, 3) := by decide +kernel
theorem dX2_clear_5 : decode cX2_clear 5 = .ok (.return_, 1) := by decide +kernel
theorem dX2_add_0 : decode cX2_add 0 = .ok (.aload_n 0, 1) := by decide +kernel
theorem dX2_add_1 : decode cX2_add 1 = .ok (.getfield 15, 3) := by decide +kernel
theorem dX2_add_4 : decode cX2_add 4 = .ok (.sipush 208, 3) := by decide +kernel
theorem dX2_add_7 : decode cX2_add 7 = .ok (.if_icmp .ge 24, 3) := by decide +kernel
theorem dX2_add_10 : decode cX2_add 10 = .ok (.aload_n 0, 1) := by decide +kernel
theorem dX2_add_11 : decode cX2_add 11 = .ok (.getfield 9, 3) := by decide +kernel
theorem dX2_add_14 : decode cX2_add 14 = .ok (.aload_n 0, 1) := by decide +kernel
theorem dX2_add_15 : decode cX2_add 15 = .ok (.getfield 15, 3) := by decide +kernel
theorem dX2_add_18 : decode cX2_add 18 = .ok (.iload_n 1, 1) := by decide +kernel
theorem dX2_add_19 : decode cX2_add 19 = .ok (.i2b, 1) := by decide +kernel
theorem dX2_add_20 : decode cX2_add 20 = .ok (.bastore, 1) := by decide +kernel
theorem dX2_add_21 : decode cX2_add 21 = .ok (.aload_n 0, 1) := by decide +kernel
theorem dX2_add_22 : decode cX2_add 22 = .ok (.dup, 1) := by decide +kernel
theorem dX2_add_23 : decode cX2_add 23 = .ok (.getfield 15, 3) := by decide +kernel
theorem dX2_add_26 : decode cX2_add 26 = .ok (.iconst 1, 1) := by decide +kernel
theorem dX2_add_27 : decode cX2_add 27 = .ok (.iadd, 1) := by decide +kernel
theorem dX2_add_28 : decode cX2_add 28 = .ok (.putfield 15, 3) := by decide +kernel
theorem dX2_add_31 : decode cX2_add 31 = .ok (.return_, 1) := by decide +kernel
theorem dX2_addNumber_0 : decode cX2_addNumber 0 = .ok (.iconst 0, 1) := by decide +kernel
theorem dX2_addNumber_1 : decode cX2_addNumber 1 = .ok (.istore_n 3, 1) := by decide +kernel
theorem dX2_addNumber_2 : decode cX2_addNumber 2 = .ok (.ldc2_w 19, 3) := by decide +kernel
theorem dX2_addNumber_5 : decode cX2_addNumber 5 = .ok (.lstore 4, 2) := by decide +kernel
theorem dX2_addNumber_7 : decode cX2_addNumber 7 = .ok (.lload 4, 2) := by decide +kernel
theorem dX2_addNumber_9 : decode cX2_addNumber 9 = .ok (.lconst 1, 1) := by decide +kernel
theorem dX2_addNumber_10 : decode cX2_addNumber 10 = .ok (.lcmp, 1) := by decide +kernel
theorem dX2_addNumber_11 : decode cX2_addNumber 11 = .ok (.ifCond .lt 64, 3) := by decide +kernel
theorem dX2_addNumber_14 : decode cX2_addNumber 14 = .ok (.lload_n 1, 1) := by decide +kernel
theorem dX2_addNumber_15 : decode cX2_addNumber 15 = .ok (.lload 4, 2) := by decide +kernel
theorem dX2_addNumber_17 : decode cX2_addNumber 17 = .ok (.ldiv, 1) := by decide +kernel
theorem dX2_addNumber_18 : decode cX2_addNumber 18 = .ok (.ldc2_w 21, 3) := by decide +kernel
theorem dX2_addNumber_21 : decode cX2_addNumber 21 = .ok (.lrem, 1) := by decide +kernel
theorem dX2_addNumber_22 : decode cX2_addNumber 22 = .ok (.lstore 6, 2) := by decide +kernel
theorem dX2_addNumber_24 : decode cX2_addNumber 24 = .ok (.iload_n 3, 1) := by decide +kernel
theorem dX2_addNumber_25 : decode cX2_addNumber 25 = .ok (.ifCond .ne 17, 3) := by decide +kernel
theorem dX2_addNumber_28 : decode cX2_addNumber 28 = .ok (.lload 6, 2) := by decide +kernel
theorem dX2_addNumber_30 : decode cX2_addNumber 30 = .ok (.lconst 0, 1) := by decide +kernel
theorem dX2_addNumber_31 : decode cX2_addNumber 31 = .ok (.lcmp, 1) := by decide +kernel
theorem dX2_addNumber_32 : decode cX2_addNumber 32 = .ok (.ifCond .ne 10, 3) := by decide +kernel
theorem dX2_addNumber_35 : decode cX2_addNumber 35 = .ok (.lload 4, 2) := by decide +kernel
theorem dX2_addNumber_37 : decode cX2_addNumber 37 = .ok (.lconst 1, 1) := by decide +kernel
theorem dX2_addNumber_38 : decode cX2_addNumber 38 = .ok (.lcmp, 1) := by decide +kernel
theorem dX2_addNumber_39 : decode cX2_addNumber 39 = .ok (.ifCond .ne 7, 3) := by decide +kernel
theorem dX2_addNumber_42 : decode cX2_addNumber 42 = .ok (.iconst 1, 1) := by decide +kernel
theorem dX2_addNumber_43 : decode cX2_addNumber 43 = .ok (.goto 4, 3) := by decide +kernel
theorem dX2_addNumber_46 : decode cX2_addNumber 46 = .ok (.iconst 0, 1) := by decide +kernel
theorem dX2_addNumber_47 : decode cX2_addNumber 47 = .ok (.istore_n 3, 1) := by decide +kernel
theorem dX2_addNumber_48 : decode cX2_addNumber 48 = .ok (.iload_n 3, 1) := by decide +kernel
theorem dX2_addNumber_49 : decode cX2_addNumber 49 = .ok (.ifCond .eq 15, 3) := by decide +kernel
theorem dX2_addNumber_52 : decode cX2_addNumber 52 = .ok (.aload_n 0, 1) := by decide +kernel
theorem dX2_addNumber_53 : decode cX2_addNumber 53 = .ok (.ldc2_w 23, 3) := by decide +kernel
theorem dX2_addNumber_56 : decode cX2_addNumber 56 = .ok (.lload 6, 2) := by decide +kernel
theorem dX2_addNumber_58 : decode cX2_addNumber 58 = .ok (.ladd, 1) := by decide +kernel
theorem dX2_addNumber_59 : decode cX2_addNumber 59 = .ok (.l2i, 1) := by decide +kernel
theorem dX2_addNumber_60 : decode cX2_addNumber 60 = .ok (.i2c, 1) := by decide +kernel
theorem dX2_addNumber_61 : decode cX2_addNumber 61 = .ok (.invokevirtual 25, 3) := by decide +kernel
theorem dX2_addNumber_64 : decode cX2_addNumber 64 = .ok (.lload 4, 2) := by decide +kernel
theorem dX2_addNumber_66 : decode cX2_addNumber 66 = .ok (.ldc2_w 21, 3) := by decide +kernel
theorem dX2_addNumber_69 : decode cX2_addNumber 69 = .ok (.ldiv, 1) := by decide +kernel
theorem dX2_addNumber_70 : decode cX2_addNumber 70 = .ok (.lstore 4, 2) := by decide +kernel
theorem dX2_addNumber_72 : decode cX2_addNumber 72 = .ok (.goto (-65), 3) := by decide +kernel
theorem dX2_addNumber_75 : decode cX2_addNumber 75 = .ok (.return_, 1) := by decide +kernel
theorem dX2_byteAt_0 : decode cX2_byteAt 0 = .ok (.iload_n 1, 1) := by decide +kernel
theorem dX2_byteAt_1 : decode cX2_byteAt 1 = .ok (.ifCond .lt 11, 3) := by decide +kernel
theorem dX2_byteAt_4 : decode cX2_byteAt 4 = .ok (.iload_n 1, 1) := by decide +kernel
theorem dX2_byteAt_5 : decode cX2_byteAt 5 = .ok (.aload_n 0, 1) := by decide +kernel
theorem dX2_byteAt_6 : decode cX2_byteAt 6 = .ok (.getfield 15, 3) := by decide +kernel
theorem dX2_byteAt_9 : decode cX2_byteAt 9 = .ok (.if_icmp .lt 7, 3) := by decide +kernel
theorem dX2_byteAt_12 : decode cX2_byteAt 12 = .ok (.iconst (-1), 1) := by decide +kernel
theorem dX2_byteAt_13 : decode cX2_byteAt 13 = .ok (.goto 9, 3) := by decide +kernel
theorem dX2_byteAt_16 : decode cX2_byteAt 16 = .ok (.aload_n 0, 1) := by decide +kernel
theorem dX2_byteAt_17 : decode cX2_byteAt 17 = .ok (.getfield 9, 3) := by decide +kernel
theorem dX2_byteAt_20 : decode cX2_byteAt 20 = .ok (.iload_n 1, 1) := by decide +kernel
theorem dX2_byteAt_21 : decode cX2_byteAt 21 = .ok (.baload, 1) := by decide +kernel
theorem dX2_byteAt_22 : decode cX2_byteAt 22 = .ok (.ireturn, 1) := by decide +kernel
end
section
/-! decode rows of X3. Printed by wip/gen/names.py. -/
theorem dX3_init_0 : decode cX3_init 0 = .ok (.aload_n 0, 1) := by decide +kernel
theorem dX3_init_1 : decode cX3_init 1 = .ok (.invokespecial 3, 3) := by decide +kernel
theorem dX3_init_4 : decode cX3_init 4 = .ok (.aload_n 0, 1) := by decide +kernel
theorem dX3_init_5 : decode cX3_init 5 = .ok (.bipush 6, 2) := by decide +kernel
theorem dX3_init_7 : decode cX3_init 7 = .ok (.anewarray 9, 3) := by decide +kernel
theorem dX3_init_10 : decode cX3_init 10 = .ok (.putfield 11, 3) := by decide +kernel
theorem dX3_init_13 : decode cX3_init 13 = .ok (.aload_n 0, 1) := by decide +kernel
theorem dX3_init_14 : decode cX3_init 14 = .ok (.bipush 12, 2) := by decide +kernel
theorem dX3_init_16 : decode cX3_init 16 = .ok (.anewarray 15, 3) := by decide +kernel
theorem dX3_init_19 : decode cX3_init 19 = .ok (.putfield 17, 3) := by decide +kernel
theorem dX3_init_22 : decode cX3_init 22 = .ok (.aload_n 0, 1) := by decide +kernel
theorem dX3_init_23 : decode cX3_init 23 = .ok (.bipush 40, 2) := by decide +kernel
theorem dX3_init_25 : decode cX3_init 25 = .ok (.newarray .boolean, 2) := by decide +kernel
theorem dX3_init_27 : decode cX3_init 27 = .ok (.putfield 21, 3) := by decide +kernel
theorem dX3_init_30 : decode cX3_init 30 = .ok (.aload_n 0, 1) := by decide +kernel
theorem dX3_init_31 : decode cX3_init 31 = .ok (.new 25, 3) := by decide +kernel
theorem dX3_init_34 : decode cX3_init 34 = .ok (.dup, 1) := by decide +kernel
theorem dX3_init_35 : decode cX3_init 35 = .ok (.invokespecial 27, 3) := by decide +kernel
theorem dX3_init_38 : decode cX3_init 38 = .ok (.putfield 28, 3) := by decide +kernel
theorem dX3_init_41 : decode cX3_init 41 = .ok (.aload_n 0, 1) := by decide +kernel
theorem dX3_init_42 : decode cX3_init 42 = .ok (.sipush 365, 3) := by decide +kernel
theorem dX3_init_45 : decode cX3_init 45 = .ok (.putfield 32, 3) := by decide +kernel
theorem dX3_init_48 : decode cX3_init 48 = .ok (.return_, 1) := by decide +kernel
theorem dX3_day_0 : decode cX3_day 0 = .ok (.iload_n 1, 1) := by decide +kernel
theorem dX3_day_1 : decode cX3_day 1 = .ok (.aload_n 0, 1) := by decide +kernel
theorem dX3_day_2 : decode cX3_day 2 = .ok (.getfield 36, 3) := by decide +kernel
theorem dX3_day_5 : decode cX3_day 5 = .ok (.if_icmp .lt 9, 3) := by decide +kernel
theorem dX3_day_8 : decode cX3_day 8 = .ok (.iload_n 1, 1) := by decide +kernel
theorem dX3_day_9 : decode cX3_day 9 = .ok (.ldc 39, 2) := by decide +kernel
theorem dX3_day_11 : decode cX3_day 11 = .ok (.if_icmp .le 5, 3) := by decide +kernel
theorem dX3_day_14 : decode cX3_day 14 = .ok (.iconst (-1), 1) := by decide +kernel
theorem dX3_day_15 : decode cX3_day 15 = .ok (.ireturn, 1) := by decide +kernel
theorem dX3_day_16 : decode cX3_day 16 = .ok (.aload_n 0, 1) := by decide +kernel
theorem dX3_day_17 : decode cX3_day 17 = .ok (.iload_n 1, 1) := by decide +kernel
theorem dX3_day_18 : decode cX3_day 18 = .ok (.putfield 36, 3) := by decide +kernel
theorem dX3_day_21 : decode cX3_day 21 = .ok (.iconst 0, 1) := by decide +kernel
theorem dX3_day_22 : decode cX3_day 22 = .ok (.istore_n 2, 1) := by decide +kernel
theorem dX3_day_23 : decode cX3_day 23 = .ok (.iconst 0, 1) := by decide +kernel
theorem dX3_day_24 : decode cX3_day 24 = .ok (.istore_n 3, 1) := by decide +kernel
theorem dX3_day_25 : decode cX3_day 25 = .ok (.iload_n 3, 1) := by decide +kernel
theorem dX3_day_26 : decode cX3_day 26 = .ok (.aload_n 0, 1) := by decide +kernel
theorem dX3_day_27 : decode cX3_day 27 = .ok (.getfield 40, 3) := by decide +kernel
theorem dX3_day_30 : decode cX3_day 30 = .ok (.if_icmp .ge 30, 3) := by decide +kernel
theorem dX3_day_33 : decode cX3_day 33 = .ok (.aload_n 0, 1) := by decide +kernel
theorem dX3_day_34 : decode cX3_day 34 = .ok (.iload_n 3, 1) := by decide +kernel
theorem dX3_day_35 : decode cX3_day 35 = .ok (.invokevirtual 43, 3) := by decide +kernel
theorem dX3_day_38 : decode cX3_day 38 = .ok (.astore 4, 2) := by decide +kernel
theorem dX3_day_40 : decode cX3_day 40 = .ok (.aload 4, 2) := by decide +kernel
theorem dX3_day_42 : decode cX3_day 42 = .ok (.ifnull 12, 3) := by decide +kernel
theorem dX3_day_45 : decode cX3_day 45 = .ok (.iload_n 2, 1) := by decide +kernel
theorem dX3_day_46 : decode cX3_day 46 = .ok (.aload 4, 2) := by decide +kernel
theorem dX3_day_48 : decode cX3_day 48 = .ok (.iload_n 1, 1) := by decide +kernel
theorem dX3_day_49 : decode cX3_day 49 = .ok (.invokevirtual 47, 3) := by decide +kernel
theorem dX3_day_52 : decode cX3_day 52 = .ok (.iadd, 1) := by decide +kernel
theorem dX3_day_53 : decode cX3_day 53 = .ok (.istore_n 2, 1) := by decide +kernel
theorem dX3_day_54 : decode cX3_day 54 = .ok (.iinc 3 1, 3) := by decide +kernel
theorem dX3_day_57 : decode cX3_day 57 = .ok (.goto (-32), 3) := by decide +kernel
theorem dX3_day_60 : decode cX3_day 60 = .ok (.iload_n 2, 1) := by decide +kernel
theorem dX3_day_61 : decode cX3_day 61 = .ok (.ireturn, 1) := by decide +kernel
theorem dX3_notice_0 : decode cX3_notice 0 = .ok (.aload_n 0, 1) := by decide +kernel
theorem dX3_notice_1 : decode cX3_notice 1 = .ok (.getfield 40, 3) := by decide +kernel
theorem dX3_notice_4 : decode cX3_notice 4 = .ok (.bipush 6, 2) := by decide +kernel
theorem dX3_notice_6 : decode cX3_notice 6 = .ok (.if_icmp .ge 17, 3) := by decide +kernel
theorem dX3_notice_9 : decode cX3_notice 9 = .ok (.lload_n 1, 1) := by decide +kernel
theorem dX3_notice_10 : decode cX3_notice 10 = .ok (.lconst 1, 1) := by decide +kernel
theorem dX3_notice_11 : decode cX3_notice 11 = .ok (.lcmp, 1) := by decide +kernel
theorem dX3_notice_12 : decode cX3_notice 12 = .ok (.ifCond .lt 11, 3) := by decide +kernel
theorem dX3_notice_15 : decode cX3_notice 15 = .ok (.lload_n 1, 1) := by decide +kernel
theorem dX3_notice_16 : decode cX3_notice 16 = .ok (.ldc2_w 51, 3) := by decide +kernel
theorem dX3_notice_19 : decode cX3_notice 19 = .ok (.lcmp, 1) := by decide +kernel
theorem dX3_notice_20 : decode cX3_notice 20 = .ok (.ifCond .le 5, 3) := by decide +kernel
theorem dX3_notice_23 : decode cX3_notice 23 = .ok (.iconst (-1), 1) := by decide +kernel
theorem dX3_notice_24 : decode cX3_notice 24 = .ok (.ireturn, 1) := by decide +kernel
theorem dX3_notice_25 : decode cX3_notice 25 = .ok (.iload_n 3, 1) := by decide +kernel
theorem dX3_notice_26 : decode cX3_notice 26 = .ok (.ifCond .lt 16, 3) := by decide +kernel
theorem dX3_notice_29 : decode cX3_notice 29 = .ok (.iload 4, 2) := by decide +kernel
theorem dX3_notice_31 : decode cX3_notice 31 = .ok (.iload_n 3, 1) := by decide +kernel
theorem dX3_notice_32 : decode cX3_notice 32 = .ok (.if_icmp .lt 10, 3) := by decide +kernel
theorem dX3_notice_35 : decode cX3_notice 35 = .ok (.iload 4, 2) := by decide +kernel
theorem dX3_notice_37 : decode cX3_notice 37 = .ok (.ldc 39, 2) := by decide +kernel
theorem dX3_notice_39 : decode cX3_notice 39 = .ok (.if_icmp .le 5, 3) := by decide +kernel
theorem dX3_notice_42 : decode cX3_notice 42 = .ok (.iconst (-1), 1) := by decide +kernel
theorem dX3_notice_43 : decode cX3_notice 43 = .ok (.ireturn, 1) := by decide +kernel
theorem dX3_notice_44 : decode cX3_notice 44 = .ok (.aload_n 0, 1) := by decide +kernel
theorem dX3_notice_45 : decode cX3_notice 45 = .ok (.getfield 40, 3) := by decide +kernel
theorem dX3_notice_48 : decode cX3_notice 48 = .ok (.istore 5, 2) := by decide +kernel
theorem dX3_notice_50 : decode cX3_notice 50 = .ok (.aload_n 0, 1) := by decide +kernel
theorem dX3_notice_51 : decode cX3_notice 51 = .ok (.getfield 11, 3) := by decide +kernel
theorem dX3_notice_54 : decode cX3_notice 54 = .ok (.iload 5, 2) := by decide +kernel
theorem dX3_notice_56 : decode cX3_notice 56 = .ok (.new 9, 3) := by decide +kernel
theorem dX3_notice_59 : decode cX3_notice 59 = .ok (.dup, 1) := by decide +kernel
theorem dX3_notice_60 : decode cX3_notice 60 = .ok (.lload_n 1, 1) := by decide +kernel
theorem dX3_notice_61 : decode cX3_notice 61 = .ok (.iload_n 3, 1) := by decide +kernel
theorem dX3_notice_62 : decode cX3_notice 62 = .ok (.iload 4, 2) := by decide +kernel
theorem dX3_notice_64 : decode cX3_notice 64 = .ok (.invokespecial 53, 3) := by decide +kernel
theorem dX3_notice_67 : decode cX3_notice 67 = .ok (.aastore, 1) := by decide +kernel
theorem dX3_notice_68 : decode cX3_notice 68 = .ok (.aload_n 0, 1) := by decide +kernel
theorem dX3_notice_69 : decode cX3_notice 69 = .ok (.dup, 1) := by decide +kernel
theorem dX3_notice_70 : decode cX3_notice 70 = .ok (.getfield 40, 3) := by decide +kernel
theorem dX3_notice_73 : decode cX3_notice 73 = .ok (.iconst 1, 1) := by decide +kernel
theorem dX3_notice_74 : decode cX3_notice 74 = .ok (.iadd, 1) := by decide +kernel
theorem dX3_notice_75 : decode cX3_notice 75 = .ok (.putfield 40, 3) := by decide +kernel
theorem dX3_notice_78 : decode cX3_notice 78 = .ok (.iload 5, 2) := by decide +kernel
theorem dX3_notice_80 : decode cX3_notice 80 = .ok (.ireturn, 1) := by decide +kernel
theorem dX3_country_0 : decode cX3_country 0 = .ok (.aload_n 0, 1) := by decide +kernel
theorem dX3_country_1 : decode cX3_country 1 = .ok (.iload_n 1, 1) := by decide +kernel
theorem dX3_country_2 : decode cX3_country 2 = .ok (.invokevirtual 43, 3) := by decide +kernel
theorem dX3_country_5 : decode cX3_country 5 = .ok (.astore 4, 2) := by decide +kernel
theorem dX3_country_7 : decode cX3_country 7 = .ok (.aload 4, 2) := by decide +kernel
theorem dX3_country_9 : decode cX3_country 9 = .ok (.ifnull 14, 3) := by decide +kernel
theorem dX3_country_12 : decode cX3_country 12 = .ok (.iload_n 3, 1) := by decide +kernel
theorem dX3_country_13 : decode cX3_country 13 = .ok (.ifCond .lt 10, 3) := by decide +kernel
theorem dX3_country_16 : decode cX3_country 16 = .ok (.iload_n 3, 1) := by decide +kernel
theorem dX3_country_17 : decode cX3_country 17 = .ok (.sipush 1000, 3) := by decide +kernel
theorem dX3_country_20 : decode cX3_country 20 = .ok (.if_icmp .le 5, 3) := by decide +kernel
theorem dX3_country_23 : decode cX3_country 23 = .ok (.iconst 0, 1) := by decide +kernel
theorem dX3_country_24 : decode cX3_country 24 = .ok (.ireturn, 1) := by decide +kernel
theorem dX3_country_25 : decode cX3_country 25 = .ok (.aload 4, 2) := by decide +kernel
theorem dX3_country_27 : decode cX3_country 27 = .ok (.iload_n 2, 1) := by decide +kernel
theorem dX3_country_28 : decode cX3_country 28 = .ok (.iload_n 3, 1) := by decide +kernel
theorem dX3_country_29 : decode cX3_country 29 = .ok (.aload_n 0, 1) := by decide +kernel
theorem dX3_country_30 : decode cX3_country 30 = .ok (.getfield 36, 3) := by decide +kernel
theorem dX3_country_33 : decode cX3_country 33 = .ok (.invokevirtual 56, 3) := by decide +kernel
theorem dX3_country_36 : decode cX3_country 36 = .ok (.ireturn, 1) := by decide +kernel
theorem dX3_says_0 : decode cX3_says 0 = .ok (.aload_n 0, 1) := by decide +kernel
theorem dX3_says_1 : decode cX3_says 1 = .ok (.iload_n 1, 1) := by decide +kernel
theorem dX3_says_2 : decode cX3_says 2 = .ok (.invokevirtual 43, 3) := by decide +kernel
theorem dX3_says_5 : decode cX3_says 5 = .ok (.astore 4, 2) := by decide +kernel
theorem dX3_says_7 : decode cX3_says 7 = .ok (.aload 4, 2) := by decide +kernel
theorem dX3_says_9 : decode cX3_says 9 = .ok (.ifnull 17, 3) := by decide +kernel
theorem dX3_says_12 : decode cX3_says 12 = .ok (.aload 4, 2) := by decide +kernel
theorem dX3_says_14 : decode cX3_says 14 = .ok (.iload_n 2, 1) := by decide +kernel
theorem dX3_says_15 : decode cX3_says 15 = .ok (.iload_n 3, 1) := by decide +kernel
theorem dX3_says_16 : decode cX3_says 16 = .ok (.invokevirtual 60, 3) := by decide +kernel
theorem dX3_says_19 : decode cX3_says 19 = .ok (.ifCond .eq 7, 3) := by decide +kernel
theorem dX3_says_22 : decode cX3_says 22 = .ok (.iconst 1, 1) := by decide +kernel
theorem dX3_says_23 : decode cX3_says 23 = .ok (.goto 4, 3) := by decide +kernel
theorem dX3_says_26 : decode cX3_says 26 = .ok (.iconst 0, 1) := by decide +kernel
theorem dX3_says_27 : decode cX3_says 27 = .ok (.ireturn, 1) := by decide +kernel
theorem dX3_state_0 : decode cX3_state 0 = .ok (.aload_n 0, 1) := by decide +kernel
theorem dX3_state_1 : decode cX3_state 1 = .ok (.iload_n 1, 1) := by decide +kernel
theorem dX3_state_2 : decode cX3_state 2 = .ok (.invokevirtual 43, 3) := by decide +kernel
theorem dX3_state_5 : decode cX3_state 5 = .ok (.astore_n 2, 1) := by decide +kernel
theorem dX3_state_6 : decode cX3_state 6 = .ok (.aload_n 2, 1) := by decide +kernel
theorem dX3_state_7 : decode cX3_state 7 = .ok (.ifnonnull 7, 3) := by decide +kernel
theorem dX3_state_10 : decode cX3_state 10 = .ok (.iconst (-1), 1) := by decide +kernel
theorem dX3_state_11 : decode cX3_state 11 = .ok (.goto 11, 3) := by decide +kernel
theorem dX3_state_14 : decode cX3_state 14 = .ok (.aload_n 2, 1) := by decide +kernel
theorem dX3_state_15 : decode cX3_state 15 = .ok (.aload_n 0, 1) := by decide +kernel
theorem dX3_state_16 : decode cX3_state 16 = .ok (.getfield 36, 3) := by decide +kernel
theorem dX3_state_19 : decode cX3_state 19 = .ok (.invokevirtual 64, 3) := by decide +kernel
theorem dX3_state_22 : decode cX3_state 22 = .ok (.ireturn, 1) := by decide +kernel
theorem dX3_move_0 : decode cX3_move 0 = .ok (.aload_n 0, 1) := by decide +kernel
theorem dX3_move_1 : decode cX3_move 1 = .ok (.iload_n 1, 1) := by decide +kernel
theorem dX3_move_2 : decode cX3_move 2 = .ok (.invokevirtual 43, 3) := by decide +kernel
theorem dX3_move_5 : decode cX3_move 5 = .ok (.astore 5, 2) := by decide +kernel
theorem dX3_move_7 : decode cX3_move 7 = .ok (.aload 5, 2) := by decide +kernel
theorem dX3_move_9 : decode cX3_move 9 = .ok (.ifnull 18, 3) := by decide +kernel
theorem dX3_move_12 : decode cX3_move 12 = .ok (.aload_n 0, 1) := by decide +kernel
theorem dX3_move_13 : decode cX3_move 13 = .ok (.getfield 67, 3) := by decide +kernel
theorem dX3_move_16 : decode cX3_move 16 = .ok (.bipush 12, 2) := by decide +kernel
theorem dX3_move_18 : decode cX3_move 18 = .ok (.if_icmp .ge 9, 3) := by decide +kernel
theorem dX3_move_21 : decode cX3_move 21 = .ok (.lload_n 2, 1) := by decide +kernel
theorem dX3_move_22 : decode cX3_move 22 = .ok (.lconst 1, 1) := by decide +kernel
theorem dX3_move_23 : decode cX3_move 23 = .ok (.lcmp, 1) := by decide +kernel
theorem dX3_move_24 : decode cX3_move 24 = .ok (.ifCond .ge 5, 3) := by decide +kernel
theorem dX3_move_27 : decode cX3_move 27 = .ok (.iconst (-1), 1) := by decide +kernel
theorem dX3_move_28 : decode cX3_move 28 = .ok (.ireturn, 1) := by decide +kernel
theorem dX3_move_29 : decode cX3_move 29 = .ok (.aload 5, 2) := by decide +kernel
theorem dX3_move_31 : decode cX3_move 31 = .ok (.iload 4, 2) := by decide +kernel
theorem dX3_move_33 : decode cX3_move 33 = .ok (.invokevirtual 70, 3) := by decide +kernel
theorem dX3_move_36 : decode cX3_move 36 = .ok (.ifCond .eq 14, 3) := by decide +kernel
theorem dX3_move_39 : decode cX3_move 39 = .ok (.iload 4, 2) := by decide +kernel
theorem dX3_move_41 : decode cX3_move 41 = .ok (.aload_n 0, 1) := by decide +kernel
theorem dX3_move_42 : decode cX3_move 42 = .ok (.getfield 36, 3) := by decide +kernel
theorem dX3_move_45 : decode cX3_move 45 = .ok (.iconst 3, 1) := by decide +kernel
theorem dX3_move_46 : decode cX3_move 46 = .ok (.iadd, 1) := by decide +kernel
theorem dX3_move_47 : decode cX3_move 47 = .ok (.if_icmp .ge 5, 3) := by decide +kernel
theorem dX3_move_50 : decode cX3_move 50 = .ok (.iconst (-1), 1) := by decide +kernel
theorem dX3_move_51 : decode cX3_move 51 = .ok (.ireturn, 1) := by decide +kernel
theorem dX3_move_52 : decode cX3_move 52 = .ok (.aload 5, 2) := by decide +kernel
theorem dX3_move_54 : decode cX3_move 54 = .ok (.aload_n 0, 1) := by decide +kernel
theorem dX3_move_55 : decode cX3_move 55 = .ok (.getfield 36, 3) := by decide +kernel
theorem dX3_move_58 : decode cX3_move 58 = .ok (.invokevirtual 64, 3) := by decide +kernel
theorem dX3_move_61 : decode cX3_move 61 = .ok (.iconst 1, 1) := by decide +kernel
theorem dX3_move_62 : decode cX3_move 62 = .ok (.if_icmp .eq 6, 3) := by decide +kernel
theorem dX3_move_65 : decode cX3_move 65 = .ok (.bipush (-2), 2) := by decide +kernel
theorem dX3_move_67 : decode cX3_move 67 = .ok (.ireturn, 1) := by decide +kernel
theorem dX3_move_68 : decode cX3_move 68 = .ok (.lload_n 2, 1) := by decide +kernel
theorem dX3_move_69 : decode cX3_move 69 = .ok (.aload 5, 2) := by decide +kernel
theorem dX3_move_71 : decode cX3_move 71 = .ok (.getfield 74, 3) := by decide +kernel
theorem dX3_move_74 : decode cX3_move 74 = .ok (.aload_n 0, 1) := by decide +kernel
theorem dX3_move_75 : decode cX3_move 75 = .ok (.iload_n 1, 1) := by decide +kernel
theorem dX3_move_76 : decode cX3_move 76 = .ok (.invokevirtual 78, 3) := by decide +kernel
theorem dX3_move_79 : decode cX3_move 79 = .ok (.lsub, 1) := by decide +kernel
theorem dX3_move_80 : decode cX3_move 80 = .ok (.lcmp, 1) := by decide +kernel
theorem dX3_move_81 : decode cX3_move 81 = .ok (.ifCond .le 6, 3) := by decide +kernel
theorem dX3_move_84 : decode cX3_move 84 = .ok (.bipush (-3), 2) := by decide +kernel
theorem dX3_move_86 : decode cX3_move 86 = .ok (.ireturn, 1) := by decide +kernel
theorem dX3_move_87 : decode cX3_move 87 = .ok (.aload_n 0, 1) := by decide +kernel
theorem dX3_move_88 : decode cX3_move 88 = .ok (.getfield 67, 3) := by decide +kernel
theorem dX3_move_91 : decode cX3_move 91 = .ok (.istore 6, 2) := by decide +kernel
theorem dX3_move_93 : decode cX3_move 93 = .ok (.aload_n 0, 1) := by decide +kernel
theorem dX3_move_94 : decode cX3_move 94 = .ok (.getfield 17, 3) := by decide +kernel
theorem dX3_move_97 : decode cX3_move 97 = .ok (.iload 6, 2) := by decide +kernel
theorem dX3_move_99 : decode cX3_move 99 = .ok (.new 15, 3) := by decide +kernel
theorem dX3_move_102 : decode cX3_move 102 = .ok (.dup, 1) := by decide +kernel
theorem dX3_move_103 : decode cX3_move 103 = .ok (.iload_n 1, 1) := by decide +kernel
theorem dX3_move_104 : decode cX3_move 104 = .ok (.lload_n 2, 1) := by decide +kernel
theorem dX3_move_105 : decode cX3_move 105 = .ok (.iload 4, 2) := by decide +kernel
theorem dX3_move_107 : decode cX3_move 107 = .ok (.aload_n 0, 1) := by decide +kernel
theorem dX3_move_108 : decode cX3_move 108 = .ok (.getfield 36, 3) := by decide +kernel
theorem dX3_move_111 : decode cX3_move 111 = .ok (.invokespecial 82, 3) := by decide +kernel
theorem dX3_move_114 : decode cX3_move 114 = .ok (.aastore, 1) := by decide +kernel
theorem dX3_move_115 : decode cX3_move 115 = .ok (.aload_n 0, 1) := by decide +kernel
theorem dX3_move_116 : decode cX3_move 116 = .ok (.dup, 1) := by decide +kernel
theorem dX3_move_117 : decode cX3_move 117 = .ok (.getfield 67, 3) := by decide +kernel
theorem dX3_move_120 : decode cX3_move 120 = .ok (.iconst 1, 1) := by decide +kernel
theorem dX3_move_121 : decode cX3_move 121 = .ok (.iadd, 1) := by decide +kernel
theorem dX3_move_122 : decode cX3_move 122 = .ok (.putfield 67, 3) := by decide +kernel
theorem dX3_move_125 : decode cX3_move 125 = .ok (.iload 6, 2) := by decide +kernel
theorem dX3_move_127 : decode cX3_move 127 = .ok (.ireturn, 1) := by decide +kernel
theorem dX3_moveState_0 : decode cX3_moveState 0 = .ok (.aload_n 0, 1) := by decide +kernel
theorem dX3_moveState_1 : decode cX3_moveState 1 = .ok (.iload_n 1, 1) := by decide +kernel
theorem dX3_moveState_2 : decode cX3_moveState 2 = .ok (.invokevirtual 85, 3) := by decide +kernel
theorem dX3_moveState_5 : decode cX3_moveState 5 = .ok (.astore_n 2, 1) := by decide +kernel
theorem dX3_moveState_6 : decode cX3_moveState 6 = .ok (.aload_n 2, 1) := by decide +kernel
theorem dX3_moveState_7 : decode cX3_moveState 7 = .ok (.ifnonnull 7, 3) := by decide +kernel
theorem dX3_moveState_10 : decode cX3_moveState 10 = .ok (.iconst (-1), 1) := by decide +kernel
theorem dX3_moveState_11 : decode cX3_moveState 11 = .ok (.goto 7, 3) := by decide +kernel
theorem dX3_moveState_14 : decode cX3_moveState 14 = .ok (.aload_n 2, 1) := by decide +kernel
theorem dX3_moveState_15 : decode cX3_moveState 15 = .ok (.getfield 89, 3) := by decide +kernel
theorem dX3_moveState_18 : decode cX3_moveState 18 = .ok (.ireturn, 1) := by decide +kernel
theorem dX3_right_0 : decode cX3_right 0 = .ok (.iload_n 1, 1) := by decide +kernel
theorem dX3_right_1 : decode cX3_right 1 = .ok (.invokestatic 92, 3) := by decide +kernel
theorem dX3_right_4 : decode cX3_right 4 = .ok (.ifCond .eq 10, 3) := by decide +kernel
theorem dX3_right_7 : decode cX3_right 7 = .ok (.iload_n 2, 1) := by decide +kernel
theorem dX3_right_8 : decode cX3_right 8 = .ok (.invokestatic 95, 3) := by decide +kernel
theorem dX3_right_11 : decode cX3_right 11 = .ok (.ifCond .ne 5, 3) := by decide +kernel
theorem dX3_right_14 : decode cX3_right 14 = .ok (.iconst 0, 1) := by decide +kernel
theorem dX3_right_15 : decode cX3_right 15 = .ok (.ireturn, 1) := by decide +kernel
theorem dX3_right_16 : decode cX3_right 16 = .ok (.aload_n 0, 1) := by decide +kernel
theorem dX3_right_17 : decode cX3_right 17 = .ok (.getfield 21, 3) := by decide +kernel
theorem dX3_right_20 : decode cX3_right 20 = .ok (.iload_n 1, 1) := by decide +kernel
theorem dX3_right_21 : decode cX3_right 21 = .ok (.iconst 5, 1) := by decide +kernel
theorem dX3_right_22 : decode cX3_right 22 = .ok (.imul, 1) := by decide +kernel
theorem dX3_right_23 : decode cX3_right 23 = .ok (.iload_n 2, 1) := by decide +kernel
theorem dX3_right_24 : decode cX3_right 24 = .ok (.iadd, 1) := by decide +kernel
theorem dX3_right_25 : decode cX3_right 25 = .ok (.iload_n 3, 1) := by decide +kernel
theorem dX3_right_26 : decode cX3_right 26 = .ok (.bastore, 1) := by decide +kernel
theorem dX3_right_27 : decode cX3_right 27 = .ok (.iconst 1, 1) := by decide +kernel
theorem dX3_right_28 : decode cX3_right 28 = .ok (.ireturn, 1) := by decide +kernel
theorem dX3_may_0 : decode cX3_may 0 = .ok (.aload_n 0, 1) := by decide +kernel
theorem dX3_may_1 : decode cX3_may 1 = .ok (.iload_n 1, 1) := by decide +kernel
theorem dX3_may_2 : decode cX3_may 2 = .ok (.iload_n 2, 1) := by decide +kernel
theorem dX3_may_3 : decode cX3_may 3 = .ok (.invokevirtual 98, 3) := by decide +kernel
theorem dX3_may_6 : decode cX3_may 6 = .ok (.ireturn, 1) := by decide +kernel
theorem dX3_event_0 : decode cX3_event 0 = .ok (.aload_n 0, 1) := by decide +kernel
theorem dX3_event_1 : decode cX3_event 1 = .ok (.iload_n 1, 1) := by decide +kernel
theorem dX3_event_2 : decode cX3_event 2 = .ok (.invokevirtual 85, 3) := by decide +kernel
theorem dX3_event_5 : decode cX3_event 5 = .ok (.astore 4, 2) := by decide +kernel
theorem dX3_event_7 : decode cX3_event 7 = .ok (.aload 4, 2) := by decide +kernel
theorem dX3_event_9 : decode cX3_event 9 = .ok (.ifnull 17, 3) := by decide +kernel
theorem dX3_event_12 : decode cX3_event 12 = .ok (.iload_n 2, 1) := by decide +kernel
theorem dX3_event_13 : decode cX3_event 13 = .ok (.invokestatic 95, 3) := by decide +kernel
theorem dX3_event_16 : decode cX3_event 16 = .ok (.ifCond .eq 10, 3) := by decide +kernel
theorem dX3_event_19 : decode cX3_event 19 = .ok (.iload_n 3, 1) := by decide +kernel
theorem dX3_event_20 : decode cX3_event 20 = .ok (.invokestatic 92, 3) := by decide +kernel
theorem dX3_event_23 : decode cX3_event 23 = .ok (.ifCond .ne 5, 3) := by decide +kernel
theorem dX3_event_26 : decode cX3_event 26 = .ok (.iconst (-1), 1) := by decide +kernel
theorem dX3_event_27 : decode cX3_event 27 = .ok (.ireturn, 1) := by decide +kernel
theorem dX3_event_28 : decode cX3_event 28 = .ok (.aload_n 0, 1) := by decide +kernel
theorem dX3_event_29 : decode cX3_event 29 = .ok (.iload_n 3, 1) := by decide +kernel
theorem dX3_event_30 : decode cX3_event 30 = .ok (.iload_n 2, 1) := by decide +kernel
theorem dX3_event_31 : decode cX3_event 31 = .ok (.invokevirtual 98, 3) := by decide +kernel
theorem dX3_event_34 : decode cX3_event 34 = .ok (.ifCond .ne 6, 3) := by decide +kernel
theorem dX3_event_37 : decode cX3_event 37 = .ok (.bipush (-2), 2) := by decide +kernel
theorem dX3_event_39 : decode cX3_event 39 = .ok (.ireturn, 1) := by decide +kernel
theorem dX3_event_40 : decode cX3_event 40 = .ok (.iload_n 2, 1) := by decide +kernel
theorem dX3_event_41 : decode cX3_event 41 = .ok (.aload 4, 2) := by decide +kernel
theorem dX3_event_43 : decode cX3_event 43 = .ok (.getfield 89, 3) := by decide +kernel
theorem dX3_event_46 : decode cX3_event 46 = .ok (.invokestatic 102, 3) := by decide +kernel
theorem dX3_event_49 : decode cX3_event 49 = .ok (.istore 5, 2) := by decide +kernel
theorem dX3_event_51 : decode cX3_event 51 = .ok (.iload 5, 2) := by decide +kernel
theorem dX3_event_53 : decode cX3_event 53 = .ok (.iconst (-1), 1) := by decide +kernel
theorem dX3_event_54 : decode cX3_event 54 = .ok (.if_icmp .ne 6, 3) := by decide +kernel
theorem dX3_event_57 : decode cX3_event 57 = .ok (.bipush (-3), 2) := by decide +kernel
theorem dX3_event_59 : decode cX3_event 59 = .ok (.ireturn, 1) := by decide +kernel
theorem dX3_event_60 : decode cX3_event 60 = .ok (.iload_n 2, 1) := by decide +kernel
theorem dX3_event_61 : decode cX3_event 61 = .ok (.ifCond .ne 15, 3) := by decide +kernel
theorem dX3_event_64 : decode cX3_event 64 = .ok (.aload_n 0, 1) := by decide +kernel
theorem dX3_event_65 : decode cX3_event 65 = .ok (.aload 4, 2) := by decide +kernel
theorem dX3_event_67 : decode cX3_event 67 = .ok (.invokevirtual 106, 3) := by decide +kernel
theorem dX3_event_70 : decode cX3_event 70 = .ok (.ifCond .ne 6, 3) := by decide +kernel
theorem dX3_event_73 : decode cX3_event 73 = .ok (.bipush (-4), 2) := by decide +kernel
theorem dX3_event_75 : decode cX3_event 75 = .ok (.ireturn, 1) := by decide +kernel
theorem dX3_event_76 : decode cX3_event 76 = .ok (.iload_n 2, 1) := by decide +kernel
theorem dX3_event_77 : decode cX3_event 77 = .ok (.iconst 2, 1) := by decide +kernel
theorem dX3_event_78 : decode cX3_event 78 = .ok (.if_icmp .ne 14, 3) := by decide +kernel
theorem dX3_event_81 : decode cX3_event 81 = .ok (.aload 4, 2) := by decide +kernel
theorem dX3_event_83 : decode cX3_event 83 = .ok (.getfield 110, 3) := by decide +kernel
theorem dX3_event_86 : decode cX3_event 86 = .ok (.ifCond .ne 6, 3) := by decide +kernel
theorem dX3_event_89 : decode cX3_event 89 = .ok (.bipush (-5), 2) := by decide +kernel
theorem dX3_event_91 : decode cX3_event 91 = .ok (.ireturn, 1) := by decide +kernel
theorem dX3_event_92 : decode cX3_event 92 = .ok (.aload 4, 2) := by decide +kernel
theorem dX3_event_94 : decode cX3_event 94 = .ok (.iload 5, 2) := by decide +kernel
theorem dX3_event_96 : decode cX3_event 96 = .ok (.aload_n 0, 1) := by decide +kernel
theorem dX3_event_97 : decode cX3_event 97 = .ok (.getfield 36, 3) := by decide +kernel
theorem dX3_event_100 : decode cX3_event 100 = .ok (.invokevirtual 114, 3) := by decide +kernel
theorem dX3_event_103 : decode cX3_event 103 = .ok (.iload 5, 2) := by decide +kernel
theorem dX3_event_105 : decode cX3_event 105 = .ok (.ireturn, 1) := by decide +kernel
theorem dX3_mark_0 : decode cX3_mark 0 = .ok (.aload_n 0, 1) := by decide +kernel
theorem dX3_mark_1 : decode cX3_mark 1 = .ok (.iload_n 1, 1) := by decide +kernel
theorem dX3_mark_2 : decode cX3_mark 2 = .ok (.invokevirtual 85, 3) := by decide +kernel
theorem dX3_mark_5 : decode cX3_mark 5 = .ok (.astore 4, 2) := by decide +kernel
theorem dX3_mark_7 : decode cX3_mark 7 = .ok (.aload 4, 2) := by decide +kernel
theorem dX3_mark_9 : decode cX3_mark 9 = .ok (.ifnull 20, 3) := by decide +kernel
theorem dX3_mark_12 : decode cX3_mark 12 = .ok (.aload 4, 2) := by decide +kernel
theorem dX3_mark_14 : decode cX3_mark 14 = .ok (.getfield 89, 3) := by decide +kernel
theorem dX3_mark_17 : decode cX3_mark 17 = .ok (.iconst 2, 1) := by decide +kernel
theorem dX3_mark_18 : decode cX3_mark 18 = .ok (.if_icmp .ne 11, 3) := by decide +kernel
theorem dX3_mark_21 : decode cX3_mark 21 = .ok (.aload 4, 2) := by decide +kernel
theorem dX3_mark_23 : decode cX3_mark 23 = .ok (.getfield 110, 3) := by decide +kernel
theorem dX3_mark_26 : decode cX3_mark 26 = .ok (.ifCond .eq 5, 3) := by decide +kernel
theorem dX3_mark_29 : decode cX3_mark 29 = .ok (.iconst 0, 1) := by decide +kernel
theorem dX3_mark_30 : decode cX3_mark 30 = .ok (.ireturn, 1) := by decide +kernel
theorem dX3_mark_31 : decode cX3_mark 31 = .ok (.iload_n 2, 1) := by decide +kernel
theorem dX3_mark_32 : decode cX3_mark 32 = .ok (.iload_n 3, 1) := by decide +kernel
theorem dX3_mark_33 : decode cX3_mark 33 = .ok (.if_icmp .eq 21, 3) := by decide +kernel
theorem dX3_mark_36 : decode cX3_mark 36 = .ok (.aload_n 0, 1) := by decide +kernel
theorem dX3_mark_37 : decode cX3_mark 37 = .ok (.iload_n 2, 1) := by decide +kernel
theorem dX3_mark_38 : decode cX3_mark 38 = .ok (.iconst 2, 1) := by decide +kernel
theorem dX3_mark_39 : decode cX3_mark 39 = .ok (.invokevirtual 98, 3) := by decide +kernel
theorem dX3_mark_42 : decode cX3_mark 42 = .ok (.ifCond .eq 12, 3) := by decide +kernel
theorem dX3_mark_45 : decode cX3_mark 45 = .ok (.aload_n 0, 1) := by decide +kernel
theorem dX3_mark_46 : decode cX3_mark 46 = .ok (.iload_n 3, 1) := by decide +kernel
theorem dX3_mark_47 : decode cX3_mark 47 = .ok (.iconst 2, 1) := by decide +kernel
theorem dX3_mark_48 : decode cX3_mark 48 = .ok (.invokevirtual 98, 3) := by decide +kernel
theorem dX3_mark_51 : decode cX3_mark 51 = .ok (.ifCond .ne 5, 3) := by decide +kernel
theorem dX3_mark_54 : decode cX3_mark 54 = .ok (.iconst 0, 1) := by decide +kernel
theorem dX3_mark_55 : decode cX3_mark 55 = .ok (.ireturn, 1) := by decide +kernel
theorem dX3_mark_56 : decode cX3_mark 56 = .ok (.aload 4, 2) := by decide +kernel
theorem dX3_mark_58 : decode cX3_mark 58 = .ok (.iconst 1, 1) := by decide +kernel
theorem dX3_mark_59 : decode cX3_mark 59 = .ok (.putfield 110, 3) := by decide +kernel
theorem dX3_mark_62 : decode cX3_mark 62 = .ok (.iconst 1, 1) := by decide +kernel
theorem dX3_mark_63 : decode cX3_mark 63 = .ok (.ireturn, 1) := by decide +kernel
theorem dX3_left_0 : decode cX3_left 0 = .ok (.aload_n 0, 1) := by decide +kernel
theorem dX3_left_1 : decode cX3_left 1 = .ok (.iload_n 1, 1) := by decide +kernel
theorem dX3_left_2 : decode cX3_left 2 = .ok (.invokevirtual 43, 3) := by decide +kernel
theorem dX3_left_5 : decode cX3_left 5 = .ok (.astore_n 2, 1) := by decide +kernel
theorem dX3_left_6 : decode cX3_left 6 = .ok (.aload_n 2, 1) := by decide +kernel
theorem dX3_left_7 : decode cX3_left 7 = .ok (.ifnonnull 9, 3) := by decide +kernel
theorem dX3_left_10 : decode cX3_left 10 = .ok (.ldc2_w 118, 3) := by decide +kernel
theorem dX3_left_13 : decode cX3_left 13 = .ok (.goto 13, 3) := by decide +kernel
theorem dX3_left_16 : decode cX3_left 16 = .ok (.aload_n 2, 1) := by decide +kernel
theorem dX3_left_17 : decode cX3_left 17 = .ok (.getfield 74, 3) := by decide +kernel
theorem dX3_left_20 : decode cX3_left 20 = .ok (.aload_n 0, 1) := by decide +kernel
theorem dX3_left_21 : decode cX3_left 21 = .ok (.iload_n 1, 1) := by decide +kernel
theorem dX3_left_22 : decode cX3_left 22 = .ok (.invokevirtual 78, 3) := by decide +kernel
theorem dX3_left_25 : decode cX3_left 25 = .ok (.lsub, 1) := by decide +kernel
theorem dX3_left_26 : decode cX3_left 26 = .ok (.lreturn, 1) := by decide +kernel
theorem dX3_bank_0 : decode cX3_bank 0 = .ok (.aload_n 0, 1) := by decide +kernel
theorem dX3_bank_1 : decode cX3_bank 1 = .ok (.iload_n 1, 1) := by decide +kernel
theorem dX3_bank_2 : decode cX3_bank 2 = .ok (.invokevirtual 43, 3) := by decide +kernel
theorem dX3_bank_5 : decode cX3_bank 5 = .ok (.astore 4, 2) := by decide +kernel
theorem dX3_bank_7 : decode cX3_bank 7 = .ok (.aload 4, 2) := by decide +kernel
theorem dX3_bank_9 : decode cX3_bank 9 = .ok (.ifnull 17, 3) := by decide +kernel
theorem dX3_bank_12 : decode cX3_bank 12 = .ok (.lload_n 2, 1) := by decide +kernel
theorem dX3_bank_13 : decode cX3_bank 13 = .ok (.lconst 1, 1) := by decide +kernel
theorem dX3_bank_14 : decode cX3_bank 14 = .ok (.lcmp, 1) := by decide +kernel
theorem dX3_bank_15 : decode cX3_bank 15 = .ok (.ifCond .lt 11, 3) := by decide +kernel
theorem dX3_bank_18 : decode cX3_bank 18 = .ok (.lload_n 2, 1) := by decide +kernel
theorem dX3_bank_19 : decode cX3_bank 19 = .ok (.ldc2_w 51, 3) := by decide +kernel
theorem dX3_bank_22 : decode cX3_bank 22 = .ok (.lcmp, 1) := by decide +kernel
theorem dX3_bank_23 : decode cX3_bank 23 = .ok (.ifCond .le 5, 3) := by decide +kernel
theorem dX3_bank_26 : decode cX3_bank 26 = .ok (.iconst 0, 1) := by decide +kernel
theorem dX3_bank_27 : decode cX3_bank 27 = .ok (.ireturn, 1) := by decide +kernel
theorem dX3_bank_28 : decode cX3_bank 28 = .ok (.aload 4, 2) := by decide +kernel
theorem dX3_bank_30 : decode cX3_bank 30 = .ok (.getfield 120, 3) := by decide +kernel
theorem dX3_bank_33 : decode cX3_bank 33 = .ok (.lload_n 2, 1) := by decide +kernel
theorem dX3_bank_34 : decode cX3_bank 34 = .ok (.ladd, 1) := by decide +kernel
theorem dX3_bank_35 : decode cX3_bank 35 = .ok (.ldc2_w 123, 3) := by decide +kernel
theorem dX3_bank_38 : decode cX3_bank 38 = .ok (.lcmp, 1) := by decide +kernel
theorem dX3_bank_39 : decode cX3_bank 39 = .ok (.ifCond .le 5, 3) := by decide +kernel
theorem dX3_bank_42 : decode cX3_bank 42 = .ok (.iconst 0, 1) := by decide +kernel
theorem dX3_bank_43 : decode cX3_bank 43 = .ok (.ireturn, 1) := by decide +kernel
theorem dX3_bank_44 : decode cX3_bank 44 = .ok (.aload 4, 2) := by decide +kernel
theorem dX3_bank_46 : decode cX3_bank 46 = .ok (.dup, 1) := by decide +kernel
theorem dX3_bank_47 : decode cX3_bank 47 = .ok (.getfield 120, 3) := by decide +kernel
theorem dX3_bank_50 : decode cX3_bank 50 = .ok (.lload_n 2, 1) := by decide +kernel
theorem dX3_bank_51 : decode cX3_bank 51 = .ok (.ladd, 1) := by decide +kernel
theorem dX3_bank_52 : decode cX3_bank 52 = .ok (.putfield 120, 3) := by decide +kernel
theorem dX3_bank_55 : decode cX3_bank 55 = .ok (.iconst 1, 1) := by decide +kernel
theorem dX3_bank_56 : decode cX3_bank 56 = .ok (.ireturn, 1) := by decide +kernel
theorem dX3_held_0 : decode cX3_held 0 = .ok (.aload_n 0, 1) := by decide +kernel
theorem dX3_held_1 : decode cX3_held 1 = .ok (.iload_n 1, 1) := by decide +kernel
theorem dX3_held_2 : decode cX3_held 2 = .ok (.invokevirtual 43, 3) := by decide +kernel
theorem dX3_held_5 : decode cX3_held 5 = .ok (.astore_n 2, 1) := by decide +kernel
theorem dX3_held_6 : decode cX3_held 6 = .ok (.aload_n 2, 1) := by decide +kernel
theorem dX3_held_7 : decode cX3_held 7 = .ok (.ifnonnull 7, 3) := by decide +kernel
theorem dX3_held_10 : decode cX3_held 10 = .ok (.ldc2_w 118, 3) := by decide +kernel
theorem dX3_held_13 : decode cX3_held 13 = .ok (.lreturn, 1) := by decide +kernel
theorem dX3_held_14 : decode cX3_held 14 = .ok (.aload_n 2, 1) := by decide +kernel
theorem dX3_held_15 : decode cX3_held 15 = .ok (.getfield 120, 3) := by decide +kernel
theorem dX3_held_18 : decode cX3_held 18 = .ok (.aload_n 2, 1) := by decide +kernel
theorem dX3_held_19 : decode cX3_held 19 = .ok (.getfield 74, 3) := by decide +kernel
theorem dX3_held_22 : decode cX3_held 22 = .ok (.aload_n 0, 1) := by decide +kernel
theorem dX3_held_23 : decode cX3_held 23 = .ok (.iload_n 1, 1) := by decide +kernel
theorem dX3_held_24 : decode cX3_held 24 = .ok (.invokevirtual 125, 3) := by decide +kernel
theorem dX3_held_27 : decode cX3_held 27 = .ok (.lsub, 1) := by decide +kernel
theorem dX3_held_28 : decode cX3_held 28 = .ok (.aload_n 2, 1) := by decide +kernel
theorem dX3_held_29 : decode cX3_held 29 = .ok (.getfield 74, 3) := by decide +kernel
theorem dX3_held_32 : decode cX3_held 32 = .ok (.invokestatic 128, 3) := by decide +kernel
theorem dX3_held_35 : decode cX3_held 35 = .ok (.lreturn, 1) := by decide +kernel
theorem dX3_limit_0 : decode cX3_limit 0 = .ok (.iload_n 1, 1) := by decide +kernel
theorem dX3_limit_1 : decode cX3_limit 1 = .ok (.ifCond .lt 10, 3) := by decide +kernel
theorem dX3_limit_4 : decode cX3_limit 4 = .ok (.iload_n 1, 1) := by decide +kernel
theorem dX3_limit_5 : decode cX3_limit 5 = .ok (.sipush 1000, 3) := by decide +kernel
theorem dX3_limit_8 : decode cX3_limit 8 = .ok (.if_icmp .le 5, 3) := by decide +kernel
theorem dX3_limit_11 : decode cX3_limit 11 = .ok (.iconst 0, 1) := by decide +kernel
theorem dX3_limit_12 : decode cX3_limit 12 = .ok (.ireturn, 1) := by decide +kernel
theorem dX3_limit_13 : decode cX3_limit 13 = .ok (.aload_n 0, 1) := by decide +kernel
theorem dX3_limit_14 : decode cX3_limit 14 = .ok (.iload_n 1, 1) := by decide +kernel
theorem dX3_limit_15 : decode cX3_limit 15 = .ok (.putfield 32, 3) := by decide +kernel
theorem dX3_limit_18 : decode cX3_limit 18 = .ok (.iconst 1, 1) := by decide +kernel
theorem dX3_limit_19 : decode cX3_limit 19 = .ok (.ireturn, 1) := by decide +kernel
theorem dX3_late_0 : decode cX3_late 0 = .ok (.iconst 0, 1) := by decide +kernel
theorem dX3_late_1 : decode cX3_late 1 = .ok (.istore_n 2, 1) := by decide +kernel
theorem dX3_late_2 : decode cX3_late 2 = .ok (.iconst 0, 1) := by decide +kernel
theorem dX3_late_3 : decode cX3_late 3 = .ok (.istore_n 3, 1) := by decide +kernel
theorem dX3_late_4 : decode cX3_late 4 = .ok (.iload_n 3, 1) := by decide +kernel
theorem dX3_late_5 : decode cX3_late 5 = .ok (.aload_n 0, 1) := by decide +kernel
theorem dX3_late_6 : decode cX3_late 6 = .ok (.getfield 67, 3) := by decide +kernel
theorem dX3_late_9 : decode cX3_late 9 = .ok (.if_icmp .ge 40, 3) := by decide +kernel
theorem dX3_late_12 : decode cX3_late 12 = .ok (.aload_n 0, 1) := by decide +kernel
theorem dX3_late_13 : decode cX3_late 13 = .ok (.iload_n 3, 1) := by decide +kernel
theorem dX3_late_14 : decode cX3_late 14 = .ok (.invokevirtual 85, 3) := by decide +kernel
theorem dX3_late_17 : decode cX3_late 17 = .ok (.astore 4, 2) := by decide +kernel
theorem dX3_late_19 : decode cX3_late 19 = .ok (.aload 4, 2) := by decide +kernel
theorem dX3_late_21 : decode cX3_late 21 = .ok (.ifnull 22, 3) := by decide +kernel
theorem dX3_late_24 : decode cX3_late 24 = .ok (.aload_n 0, 1) := by decide +kernel
theorem dX3_late_25 : decode cX3_late 25 = .ok (.aload 4, 2) := by decide +kernel
theorem dX3_late_27 : decode cX3_late 27 = .ok (.invokevirtual 132, 3) := by decide +kernel
theorem dX3_late_30 : decode cX3_late 30 = .ok (.ifCond .eq 13, 3) := by decide +kernel
theorem dX3_late_33 : decode cX3_late 33 = .ok (.iload_n 2, 1) := by decide +kernel
theorem dX3_late_34 : decode cX3_late 34 = .ok (.iload_n 1, 1) := by decide +kernel
theorem dX3_late_35 : decode cX3_late 35 = .ok (.if_icmp .ne 5, 3) := by decide +kernel
theorem dX3_late_38 : decode cX3_late 38 = .ok (.iload_n 3, 1) := by decide +kernel
theorem dX3_late_39 : decode cX3_late 39 = .ok (.ireturn, 1) := by decide +kernel
theorem dX3_late_40 : decode cX3_late 40 = .ok (.iinc 2 1, 3) := by decide +kernel
theorem dX3_late_43 : decode cX3_late 43 = .ok (.iinc 3 1, 3) := by decide +kernel
theorem dX3_late_46 : decode cX3_late 46 = .ok (.goto (-42), 3) := by decide +kernel
theorem dX3_late_49 : decode cX3_late 49 = .ok (.iconst (-1), 1) := by decide +kernel
theorem dX3_late_50 : decode cX3_late 50 = .ok (.ireturn, 1) := by decide +kernel
theorem dX3_carrier_0 : decode cX3_carrier 0 = .ok (.aload_n 0, 1) := by decide +kernel
theorem dX3_carrier_1 : decode cX3_carrier 1 = .ok (.iload_n 1, 1) := by decide +kernel
theorem dX3_carrier_2 : decode cX3_carrier 2 = .ok (.invokevirtual 85, 3) := by decide +kernel
theorem dX3_carrier_5 : decode cX3_carrier 5 = .ok (.astore_n 3, 1) := by decide +kernel
theorem dX3_carrier_6 : decode cX3_carrier 6 = .ok (.aload_n 3, 1) := by decide +kernel
theorem dX3_carrier_7 : decode cX3_carrier 7 = .ok (.ifnull 21, 3) := by decide +kernel
theorem dX3_carrier_10 : decode cX3_carrier 10 = .ok (.aload_n 3, 1) := by decide +kernel
theorem dX3_carrier_11 : decode cX3_carrier 11 = .ok (.getfield 89, 3) := by decide +kernel
theorem dX3_carrier_14 : decode cX3_carrier 14 = .ok (.iconst 1, 1) := by decide +kernel
theorem dX3_carrier_15 : decode cX3_carrier 15 = .ok (.if_icmp .ne 13, 3) := by decide +kernel
theorem dX3_carrier_18 : decode cX3_carrier 18 = .ok (.iload_n 2, 1) := by decide +kernel
theorem dX3_carrier_19 : decode cX3_carrier 19 = .ok (.ifCond .lt 9, 3) := by decide +kernel
theorem dX3_carrier_22 : decode cX3_carrier 22 = .ok (.iload_n 2, 1) := by decide +kernel
theorem dX3_carrier_23 : decode cX3_carrier 23 = .ok (.bipush 100, 2) := by decide +kernel
theorem dX3_carrier_25 : decode cX3_carrier 25 = .ok (.if_icmp .lt 5, 3) := by decide +kernel
theorem dX3_carrier_28 : decode cX3_carrier 28 = .ok (.iconst (-1), 1) := by decide +kernel
theorem dX3_carrier_29 : decode cX3_carrier 29 = .ok (.ireturn, 1) := by decide +kernel
theorem dX3_carrier_30 : decode cX3_carrier 30 = .ok (.aload_n 3, 1) := by decide +kernel
theorem dX3_carrier_31 : decode cX3_carrier 31 = .ok (.iload_n 2, 1) := by decide +kernel
theorem dX3_carrier_32 : decode cX3_carrier 32 = .ok (.invokevirtual 135, 3) := by decide +kernel
theorem dX3_carrier_35 : decode cX3_carrier 35 = .ok (.ireturn, 1) := by decide +kernel
theorem dX3_back_0 : decode cX3_back 0 = .ok (.aload_n 0, 1) := by decide +kernel
theorem dX3_back_1 : decode cX3_back 1 = .ok (.iload_n 1, 1) := by decide +kernel
theorem dX3_back_2 : decode cX3_back 2 = .ok (.invokevirtual 85, 3) := by decide +kernel
theorem dX3_back_5 : decode cX3_back 5 = .ok (.astore_n 3, 1) := by decide +kernel
theorem dX3_back_6 : decode cX3_back 6 = .ok (.aload_n 3, 1) := by decide +kernel
theorem dX3_back_7 : decode cX3_back 7 = .ok (.ifnonnull 7, 3) := by decide +kernel
theorem dX3_back_10 : decode cX3_back 10 = .ok (.iconst (-1), 1) := by decide +kernel
theorem dX3_back_11 : decode cX3_back 11 = .ok (.goto 8, 3) := by decide +kernel
theorem dX3_back_14 : decode cX3_back 14 = .ok (.aload_n 3, 1) := by decide +kernel
theorem dX3_back_15 : decode cX3_back 15 = .ok (.iload_n 2, 1) := by decide +kernel
theorem dX3_back_16 : decode cX3_back 16 = .ok (.invokevirtual 138, 3) := by decide +kernel
theorem dX3_back_19 : decode cX3_back 19 = .ok (.ireturn, 1) := by decide +kernel
theorem dX3_print_0 : decode cX3_print 0 = .ok (.aload_n 0, 1) := by decide +kernel
theorem dX3_print_1 : decode cX3_print 1 = .ok (.iload_n 1, 1) := by decide +kernel
theorem dX3_print_2 : decode cX3_print 2 = .ok (.invokevirtual 43, 3) := by decide +kernel
theorem dX3_print_5 : decode cX3_print 5 = .ok (.astore_n 3, 1) := by decide +kernel
theorem dX3_print_6 : decode cX3_print 6 = .ok (.aload_n 3, 1) := by decide +kernel
theorem dX3_print_7 : decode cX3_print 7 = .ok (.ifnull 7, 3) := by decide +kernel
theorem dX3_print_10 : decode cX3_print 10 = .ok (.iload_n 2, 1) := by decide +kernel
theorem dX3_print_11 : decode cX3_print 11 = .ok (.ifCond .ge 5, 3) := by decide +kernel
theorem dX3_print_14 : decode cX3_print 14 = .ok (.iconst (-1), 1) := by decide +kernel
theorem dX3_print_15 : decode cX3_print 15 = .ok (.ireturn, 1) := by decide +kernel
theorem dX3_print_16 : decode cX3_print 16 = .ok (.aload_n 0, 1) := by decide +kernel
theorem dX3_print_17 : decode cX3_print 17 = .ok (.getfield 28, 3) := by decide +kernel
theorem dX3_print_20 : decode cX3_print 20 = .ok (.invokevirtual 141, 3) := by decide +kernel
theorem dX3_print_23 : decode cX3_print 23 = .ok (.aload_n 0, 1) := by decide +kernel
theorem dX3_print_24 : decode cX3_print 24 = .ok (.iload_n 1, 1) := by decide +kernel
theorem dX3_print_25 : decode cX3_print 25 = .ok (.aload_n 3, 1) := by decide +kernel
theorem dX3_print_26 : decode cX3_print 26 = .ok (.invokevirtual 144, 3) := by decide +kernel
theorem dX3_print_29 : decode cX3_print 29 = .ok (.iconst 0, 1) := by decide +kernel
theorem dX3_print_30 : decode cX3_print 30 = .ok (.istore 4, 2) := by decide +kernel
theorem dX3_print_32 : decode cX3_print 32 = .ok (.iload 4, 2) := by decide +kernel
theorem dX3_print_34 : decode cX3_print 34 = .ok (.aload_n 0, 1) := by decide +kernel
theorem dX3_print_35 : decode cX3_print 35 = .ok (.getfield 67, 3) := by decide +kernel
theorem dX3_print_38 : decode cX3_print 38 = .ok (.if_icmp .ge 39, 3) := by decide +kernel
theorem dX3_print_41 : decode cX3_print 41 = .ok (.aload_n 0, 1) := by decide +kernel
theorem dX3_print_42 : decode cX3_print 42 = .ok (.iload 4, 2) := by decide +kernel
theorem dX3_print_44 : decode cX3_print 44 = .ok (.invokevirtual 85, 3) := by decide +kernel
theorem dX3_print_47 : decode cX3_print 47 = .ok (.astore 5, 2) := by decide +kernel
theorem dX3_print_49 : decode cX3_print 49 = .ok (.aload 5, 2) := by decide +kernel
theorem dX3_print_51 : decode cX3_print 51 = .ok (.ifnull 20, 3) := by decide +kernel
theorem dX3_print_54 : decode cX3_print 54 = .ok (.aload 5, 2) := by decide +kernel
theorem dX3_print_56 : decode cX3_print 56 = .ok (.getfield 148, 3) := by decide +kernel
theorem dX3_print_59 : decode cX3_print 59 = .ok (.iload_n 1, 1) := by decide +kernel
theorem dX3_print_60 : decode cX3_print 60 = .ok (.if_icmp .ne 11, 3) := by decide +kernel
theorem dX3_print_63 : decode cX3_print 63 = .ok (.aload_n 0, 1) := by decide +kernel
theorem dX3_print_64 : decode cX3_print 64 = .ok (.iload 4, 2) := by decide +kernel
theorem dX3_print_66 : decode cX3_print 66 = .ok (.aload 5, 2) := by decide +kernel
theorem dX3_print_68 : decode cX3_print 68 = .ok (.invokevirtual 151, 3) := by decide +kernel
theorem dX3_print_71 : decode cX3_print 71 = .ok (.iinc 4 1, 3) := by decide +kernel
theorem dX3_print_74 : decode cX3_print 74 = .ok (.goto (-42), 3) := by decide +kernel
theorem dX3_print_77 : decode cX3_print 77 = .ok (.aload_n 0, 1) := by decide +kernel
theorem dX3_print_78 : decode cX3_print 78 = .ok (.getfield 28, 3) := by decide +kernel
theorem dX3_print_81 : decode cX3_print 81 = .ok (.iload_n 2, 1) := by decide +kernel
theorem dX3_print_82 : decode cX3_print 82 = .ok (.invokevirtual 155, 3) := by decide +kernel
theorem dX3_print_85 : decode cX3_print 85 = .ok (.ireturn, 1) := by decide +kernel
theorem dX3_noticeAt_0 : decode cX3_noticeAt 0 = .ok (.iload_n 1, 1) := by decide +kernel
theorem dX3_noticeAt_1 : decode cX3_noticeAt 1 = .ok (.ifCond .lt 11, 3) := by decide +kernel
theorem dX3_noticeAt_4 : decode cX3_noticeAt 4 = .ok (.iload_n 1, 1) := by decide +kernel
theorem dX3_noticeAt_5 : decode cX3_noticeAt 5 = .ok (.aload_n 0, 1) := by decide +kernel
theorem dX3_noticeAt_6 : decode cX3_noticeAt 6 = .ok (.getfield 40, 3) := by decide +kernel
theorem dX3_noticeAt_9 : decode cX3_noticeAt 9 = .ok (.if_icmp .lt 7, 3) := by decide +kernel
theorem dX3_noticeAt_12 : decode cX3_noticeAt 12 = .ok (.aconst_null, 1) := by decide +kernel
theorem dX3_noticeAt_13 : decode cX3_noticeAt 13 = .ok (.goto 9, 3) := by decide +kernel
theorem dX3_noticeAt_16 : decode cX3_noticeAt 16 = .ok (.aload_n 0, 1) := by decide +kernel
theorem dX3_noticeAt_17 : decode cX3_noticeAt 17 = .ok (.getfield 11, 3) := by decide +kernel
theorem dX3_noticeAt_20 : decode cX3_noticeAt 20 = .ok (.iload_n 1, 1) := by decide +kernel
theorem dX3_noticeAt_21 : decode cX3_noticeAt 21 = .ok (.aaload, 1) := by decide +kernel
theorem dX3_noticeAt_22 : decode cX3_noticeAt 22 = .ok (.areturn, 1) := by decide +kernel
theorem dX3_moveAt_0 : decode cX3_moveAt 0 = .ok (.iload_n 1, 1) := by decide +kernel
theorem dX3_moveAt_1 : decode cX3_moveAt 1 = .ok (.ifCond .lt 11, 3) := by decide +kernel
theorem dX3_moveAt_4 : decode cX3_moveAt 4 = .ok (.iload_n 1, 1) := by decide +kernel
theorem dX3_moveAt_5 : decode cX3_moveAt 5 = .ok (.aload_n 0, 1) := by decide +kernel
theorem dX3_moveAt_6 : decode cX3_moveAt 6 = .ok (.getfield 67, 3) := by decide +kernel
theorem dX3_moveAt_9 : decode cX3_moveAt 9 = .ok (.if_icmp .lt 7, 3) := by decide +kernel
theorem dX3_moveAt_12 : decode cX3_moveAt 12 = .ok (.aconst_null, 1) := by decide +kernel
theorem dX3_moveAt_13 : decode cX3_moveAt 13 = .ok (.goto 9, 3) := by decide +kernel
theorem dX3_moveAt_16 : decode cX3_moveAt 16 = .ok (.aload_n 0, 1) := by decide +kernel
theorem dX3_moveAt_17 : decode cX3_moveAt 17 = .ok (.getfield 17, 3) := by decide +kernel
theorem dX3_moveAt_20 : decode cX3_moveAt 20 = .ok (.iload_n 1, 1) := by decide +kernel
theorem dX3_moveAt_21 : decode cX3_moveAt 21 = .ok (.aaload, 1) := by decide +kernel
theorem dX3_moveAt_22 : decode cX3_moveAt 22 = .ok (.areturn, 1) := by decide +kernel
theorem dX3_isPerson_0 : decode cX3_isPerson 0 = .ok (.iload_n 0, 1) := by decide +kernel
theorem dX3_isPerson_1 : decode cX3_isPerson 1 = .ok (.ifCond .lt 13, 3) := by decide +kernel
theorem dX3_isPerson_4 : decode cX3_isPerson 4 = .ok (.iload_n 0, 1) := by decide +kernel
theorem dX3_isPerson_5 : decode cX3_isPerson 5 = .ok (.bipush 8, 2) := by decide +kernel
theorem dX3_isPerson_7 : decode cX3_isPerson 7 = .ok (.if_icmp .ge 7, 3) := by decide +kernel
theorem dX3_isPerson_10 : decode cX3_isPerson 10 = .ok (.iconst 1, 1) := by decide +kernel
theorem dX3_isPerson_11 : decode cX3_isPerson 11 = .ok (.goto 4, 3) := by decide +kernel
theorem dX3_isPerson_14 : decode cX3_isPerson 14 = .ok (.iconst 0, 1) := by decide +kernel
theorem dX3_isPerson_15 : decode cX3_isPerson 15 = .ok (.ireturn, 1) := by decide +kernel
theorem dX3_isEvent_0 : decode cX3_isEvent 0 = .ok (.iload_n 0, 1) := by decide +kernel
theorem dX3_isEvent_1 : decode cX3_isEvent 1 = .ok (.ifCond .lt 12, 3) := by decide +kernel
theorem dX3_isEvent_4 : decode cX3_isEvent 4 = .ok (.iload_n 0, 1) := by decide +kernel
theorem dX3_isEvent_5 : decode cX3_isEvent 5 = .ok (.iconst 5, 1) := by decide +kernel
theorem dX3_isEvent_6 : decode cX3_isEvent 6 = .ok (.if_icmp .ge 7, 3) := by decide +kernel
theorem dX3_isEvent_9 : decode cX3_isEvent 9 = .ok (.iconst 1, 1) := by decide +kernel
theorem dX3_isEvent_10 : decode cX3_isEvent 10 = .ok (.goto 4, 3) := by decide +kernel
theorem dX3_isEvent_13 : decode cX3_isEvent 13 = .ok (.iconst 0, 1) := by decide +kernel
theorem dX3_isEvent_14 : decode cX3_isEvent 14 = .ok (.ireturn, 1) := by decide +kernel
theorem dX3_hasRight_0 : decode cX3_hasRight 0 = .ok (.iload_n 1, 1) := by decide +kernel
theorem dX3_hasRight_1 : decode cX3_hasRight 1 = .ok (.invokestatic 92, 3) := by decide +kernel
theorem dX3_hasRight_4 : decode cX3_hasRight 4 = .ok (.ifCond .eq 27, 3) := by decide +kernel
theorem dX3_hasRight_7 : decode cX3_hasRight 7 = .ok (.iload_n 2, 1) := by decide +kernel
theorem dX3_hasRight_8 : decode cX3_hasRight 8 = .ok (.invokestatic 95, 3) := by decide +kernel
theorem dX3_hasRight_11 : decode cX3_hasRight 11 = .ok (.ifCond .eq 20, 3) := by decide +kernel
theorem dX3_hasRight_14 : decode cX3_hasRight 14 = .ok (.aload_n 0, 1) := by decide +kernel
theorem dX3_hasRight_15 : decode cX3_hasRight 15 = .ok (.getfield 21, 3) := by decide +kernel
theorem dX3_hasRight_18 : decode cX3_hasRight 18 = .ok (.iload_n 1, 1) := by decide +kernel
theorem dX3_hasRight_19 : decode cX3_hasRight 19 = .ok (.iconst 5, 1) := by decide +kernel
theorem dX3_hasRight_20 : decode cX3_hasRight 20 = .ok (.imul, 1) := by decide +kernel
theorem dX3_hasRight_21 : decode cX3_hasRight 21 = .ok (.iload_n 2, 1) := by decide +kernel
theorem dX3_hasRight_22 : decode cX3_hasRight 22 = .ok (.iadd, 1) := by decide +kernel
theorem dX3_hasRight_23 : decode cX3_hasRight 23 = .ok (.baload, 1) := by decide +kernel
theorem dX3_hasRight_24 : decode cX3_hasRight 24 = .ok (.ifCond .eq 7, 3) := by decide +kernel
theorem dX3_hasRight_27 : decode cX3_hasRight 27 = .ok (.iconst 1, 1) := by decide +kernel
theorem dX3_hasRight_28 : decode cX3_hasRight 28 = .ok (.goto 4, 3) := by decide +kernel
theorem dX3_hasRight_31 : decode cX3_hasRight 31 = .ok (.iconst 0, 1) := by decide +kernel
theorem dX3_hasRight_32 : decode cX3_hasRight 32 = .ok (.ireturn, 1) := by decide +kernel
theorem dX3_nextState_0 : decode cX3_nextState 0 = .ok (.iload_n 0, 1) := by decide +kernel
theorem dX3_nextState_1 : decode cX3_nextState 1 = .ok (.invokestatic 95, 3) := by decide +kernel
theorem dX3_nextState_4 : decode cX3_nextState 4 = .ok (.ifCond .eq 13, 3) := by decide +kernel
theorem dX3_nextState_7 : decode cX3_nextState 7 = .ok (.iload_n 1, 1) := by decide +kernel
theorem dX3_nextState_8 : decode cX3_nextState 8 = .ok (.ifCond .lt 9, 3) := by decide +kernel
theorem dX3_nextState_11 : decode cX3_nextState 11 = .ok (.iload_n 1, 1) := by decide +kernel
theorem dX3_nextState_12 : decode cX3_nextState 12 = .ok (.bipush 6, 2) := by decide +kernel
theorem dX3_nextState_14 : decode cX3_nextState 14 = .ok (.if_icmp .lt 5, 3) := by decide +kernel
theorem dX3_nextState_17 : decode cX3_nextState 17 = .ok (.iconst (-1), 1) := by decide +kernel
theorem dX3_nextState_18 : decode cX3_nextState 18 = .ok (.ireturn, 1) := by decide +kernel
theorem dX3_nextState_19 : decode cX3_nextState 19 = .ok (.getstatic 158, 3) := by decide +kernel
theorem dX3_nextState_22 : decode cX3_nextState 22 = .ok (.iload_n 0, 1) := by decide +kernel
theorem dX3_nextState_23 : decode cX3_nextState 23 = .ok (.bipush 6, 2) := by decide +kernel
theorem dX3_nextState_25 : decode cX3_nextState 25 = .ok (.imul, 1) := by decide +kernel
theorem dX3_nextState_26 : decode cX3_nextState 26 = .ok (.iload_n 1, 1) := by decide +kernel
theorem dX3_nextState_27 : decode cX3_nextState 27 = .ok (.iadd, 1) := by decide +kernel
theorem dX3_nextState_28 : decode cX3_nextState 28 = .ok (.iaload, 1) := by decide +kernel
theorem dX3_nextState_29 : decode cX3_nextState 29 = .ok (.ireturn, 1) := by decide +kernel
theorem dX3_canBeTaken_0 : decode cX3_canBeTaken 0 = .ok (.aload_n 0, 1) := by decide +kernel
theorem dX3_canBeTaken_1 : decode cX3_canBeTaken 1 = .ok (.aload_n 1, 1) := by decide +kernel
theorem dX3_canBeTaken_2 : decode cX3_canBeTaken 2 = .ok (.getfield 148, 3) := by decide +kernel
theorem dX3_canBeTaken_5 : decode cX3_canBeTaken 5 = .ok (.invokevirtual 43, 3) := by decide +kernel
theorem dX3_canBeTaken_8 : decode cX3_canBeTaken 8 = .ok (.astore_n 2, 1) := by decide +kernel
theorem dX3_canBeTaken_9 : decode cX3_canBeTaken 9 = .ok (.aload_n 0, 1) := by decide +kernel
theorem dX3_canBeTaken_10 : decode cX3_canBeTaken 10 = .ok (.getfield 36, 3) := by decide +kernel
theorem dX3_canBeTaken_13 : decode cX3_canBeTaken 13 = .ok (.aload_n 1, 1) := by decide +kernel
theorem dX3_canBeTaken_14 : decode cX3_canBeTaken 14 = .ok (.getfield 162, 3) := by decide +kernel
theorem dX3_canBeTaken_17 : decode cX3_canBeTaken 17 = .ok (.if_icmp .lt 23, 3) := by decide +kernel
theorem dX3_canBeTaken_20 : decode cX3_canBeTaken 20 = .ok (.aload_n 2, 1) := by decide +kernel
theorem dX3_canBeTaken_21 : decode cX3_canBeTaken 21 = .ok (.ifnull 19, 3) := by decide +kernel
theorem dX3_canBeTaken_24 : decode cX3_canBeTaken 24 = .ok (.aload_n 2, 1) := by decide +kernel
theorem dX3_canBeTaken_25 : decode cX3_canBeTaken 25 = .ok (.aload_n 0, 1) := by decide +kernel
theorem dX3_canBeTaken_26 : decode cX3_canBeTaken 26 = .ok (.getfield 36, 3) := by decide +kernel
theorem dX3_canBeTaken_29 : decode cX3_canBeTaken 29 = .ok (.invokevirtual 64, 3) := by decide +kernel
theorem dX3_canBeTaken_32 : decode cX3_canBeTaken 32 = .ok (.iconst 1, 1) := by decide +kernel
theorem dX3_canBeTaken_33 : decode cX3_canBeTaken 33 = .ok (.if_icmp .ne 7, 3) := by decide +kernel
theorem dX3_canBeTaken_36 : decode cX3_canBeTaken 36 = .ok (.iconst 1, 1) := by decide +kernel
theorem dX3_canBeTaken_37 : decode cX3_canBeTaken 37 = .ok (.goto 4, 3) := by decide +kernel
theorem dX3_canBeTaken_40 : decode cX3_canBeTaken 40 = .ok (.iconst 0, 1) := by decide +kernel
theorem dX3_canBeTaken_41 : decode cX3_canBeTaken 41 = .ok (.ireturn, 1) := by decide +kernel
theorem dX3_isLate_0 : decode cX3_isLate 0 = .ok (.aload_n 1, 1) := by decide +kernel
theorem dX3_isLate_1 : decode cX3_isLate 1 = .ok (.getfield 89, 3) := by decide +kernel
theorem dX3_isLate_4 : decode cX3_isLate 4 = .ok (.iconst 2, 1) := by decide +kernel
theorem dX3_isLate_5 : decode cX3_isLate 5 = .ok (.if_icmp .ne 23, 3) := by decide +kernel
theorem dX3_isLate_8 : decode cX3_isLate 8 = .ok (.aload_n 0, 1) := by decide +kernel
theorem dX3_isLate_9 : decode cX3_isLate 9 = .ok (.getfield 36, 3) := by decide +kernel
theorem dX3_isLate_12 : decode cX3_isLate 12 = .ok (.aload_n 1, 1) := by decide +kernel
theorem dX3_isLate_13 : decode cX3_isLate 13 = .ok (.getfield 165, 3) := by decide +kernel
theorem dX3_isLate_16 : decode cX3_isLate 16 = .ok (.isub, 1) := by decide +kernel
theorem dX3_isLate_17 : decode cX3_isLate 17 = .ok (.aload_n 0, 1) := by decide +kernel
theorem dX3_isLate_18 : decode cX3_isLate 18 = .ok (.getfield 32, 3) := by decide +kernel
theorem dX3_isLate_21 : decode cX3_isLate 21 = .ok (.if_icmp .le 7, 3) := by decide +kernel
theorem dX3_isLate_24 : decode cX3_isLate 24 = .ok (.iconst 1, 1) := by decide +kernel
theorem dX3_isLate_25 : decode cX3_isLate 25 = .ok (.goto 4, 3) := by decide +kernel
theorem dX3_isLate_28 : decode cX3_isLate 28 = .ok (.iconst 0, 1) := by decide +kernel
theorem dX3_isLate_29 : decode cX3_isLate 29 = .ok (.ireturn, 1) := by decide +kernel
theorem dX3_gramsInMoves_0 : decode cX3_gramsInMoves 0 = .ok (.lconst 0, 1) := by decide +kernel
theorem dX3_gramsInMoves_1 : decode cX3_gramsInMoves 1 = .ok (.lstore_n 2, 1) := by decide +kernel
theorem dX3_gramsInMoves_2 : decode cX3_gramsInMoves 2 = .ok (.iconst 0, 1) := by decide +kernel
theorem dX3_gramsInMoves_3 : decode cX3_gramsInMoves 3 = .ok (.istore 4, 2) := by decide +kernel
theorem dX3_gramsInMoves_5 : decode cX3_gramsInMoves 5 = .ok (.iload 4, 2) := by decide +kernel
theorem dX3_gramsInMoves_7 : decode cX3_gramsInMoves 7 = .ok (.aload_n 0, 1) := by decide +kernel
theorem dX3_gramsInMoves_8 : decode cX3_gramsInMoves 8 = .ok (.getfield 67, 3) := by decide +kernel
theorem dX3_gramsInMoves_11 : decode cX3_gramsInMoves 11 = .ok (.if_icmp .ge 47, 3) := by decide +kernel
theorem dX3_gramsInMoves_14 : decode cX3_gramsInMoves 14 = .ok (.aload_n 0, 1) := by decide +kernel
theorem dX3_gramsInMoves_15 : decode cX3_gramsInMoves 15 = .ok (.iload 4, 2) := by decide +kernel
theorem dX3_gramsInMoves_17 : decode cX3_gramsInMoves 17 = .ok (.invokevirtual 85, 3) := by decide +kernel
theorem dX3_gramsInMoves_20 : decode cX3_gramsInMoves 20 = .ok (.astore 5, 2) := by decide +kernel
theorem dX3_gramsInMoves_22 : decode cX3_gramsInMoves 22 = .ok (.aload 5, 2) := by decide +kernel
theorem dX3_gramsInMoves_24 : decode cX3_gramsInMoves 24 = .ok (.ifnull 28, 3) := by decide +kernel
theorem dX3_gramsInMoves_27 : decode cX3_gramsInMoves 27 = .ok (.aload 5, 2) := by decide +kernel
theorem dX3_gramsInMoves_29 : decode cX3_gramsInMoves 29 = .ok (.getfield 148, 3) := by decide +kernel
theorem dX3_gramsInMoves_32 : decode cX3_gramsInMoves 32 = .ok (.iload_n 1, 1) := by decide +kernel
theorem dX3_gramsInMoves_33 : decode cX3_gramsInMoves 33 = .ok (.if_icmp .ne 19, 3) := by decide +kernel
theorem dX3_gramsInMoves_36 : decode cX3_gramsInMoves 36 = .ok (.aload 5, 2) := by decide +kernel
theorem dX3_gramsInMoves_38 : decode cX3_gramsInMoves 38 = .ok (.invokevirtual 168, 3) := by decide +kernel
theorem dX3_gramsInMoves_41 : decode cX3_gramsInMoves 41 = .ok (.ifCond .eq 11, 3) := by decide +kernel
theorem dX3_gramsInMoves_44 : decode cX3_gramsInMoves 44 = .ok (.lload_n 2, 1) := by decide +kernel
theorem dX3_gramsInMoves_45 : decode cX3_gramsInMoves 45 = .ok (.aload 5, 2) := by decide +kernel
theorem dX3_gramsInMoves_47 : decode cX3_gramsInMoves 47 = .ok (.getfield 172, 3) := by decide +kernel
theorem dX3_gramsInMoves_50 : decode cX3_gramsInMoves 50 = .ok (.ladd, 1) := by decide +kernel
theorem dX3_gramsInMoves_51 : decode cX3_gramsInMoves 51 = .ok (.lstore_n 2, 1) := by decide +kernel
theorem dX3_gramsInMoves_52 : decode cX3_gramsInMoves 52 = .ok (.iinc 4 1, 3) := by decide +kernel
theorem dX3_gramsInMoves_55 : decode cX3_gramsInMoves 55 = .ok (.goto (-50), 3) := by decide +kernel
theorem dX3_gramsInMoves_58 : decode cX3_gramsInMoves 58 = .ok (.lload_n 2, 1) := by decide +kernel
theorem dX3_gramsInMoves_59 : decode cX3_gramsInMoves 59 = .ok (.lreturn, 1) := by decide +kernel
theorem dX3_gramsRecovered_0 : decode cX3_gramsRecovered 0 = .ok (.lconst 0, 1) := by decide +kernel
theorem dX3_gramsRecovered_1 : decode cX3_gramsRecovered 1 = .ok (.lstore_n 2, 1) := by decide +kernel
theorem dX3_gramsRecovered_2 : decode cX3_gramsRecovered 2 = .ok (.iconst 0, 1) := by decide +kernel
theorem dX3_gramsRecovered_3 : decode cX3_gramsRecovered 3 = .ok (.istore 4, 2) := by decide +kernel
theorem dX3_gramsRecovered_5 : decode cX3_gramsRecovered 5 = .ok (.iload 4, 2) := by decide +kernel
theorem dX3_gramsRecovered_7 : decode cX3_gramsRecovered 7 = .ok (.aload_n 0, 1) := by decide +kernel
theorem dX3_gramsRecovered_8 : decode cX3_gramsRecovered 8 = .ok (.getfield 67, 3) := by decide +kernel
theorem dX3_gramsRecovered_11 : decode cX3_gramsRecovered 11 = .ok (.if_icmp .ge 48, 3) := by decide +kernel
theorem dX3_gramsRecovered_14 : decode cX3_gramsRecovered 14 = .ok (.aload_n 0, 1) := by decide +kernel
theorem dX3_gramsRecovered_15 : decode cX3_gramsRecovered 15 = .ok (.iload 4, 2) := by decide +kernel
theorem dX3_gramsRecovered_17 : decode cX3_gramsRecovered 17 = .ok (.invokevirtual 85, 3) := by decide +kernel
theorem dX3_gramsRecovered_20 : decode cX3_gramsRecovered 20 = .ok (.astore 5, 2) := by decide +kernel
theorem dX3_gramsRecovered_22 : decode cX3_gramsRecovered 22 = .ok (.aload 5, 2) := by decide +kernel
theorem dX3_gramsRecovered_24 : decode cX3_gramsRecovered 24 = .ok (.ifnull 29, 3) := by decide +kernel
theorem dX3_gramsRecovered_27 : decode cX3_gramsRecovered 27 = .ok (.aload 5, 2) := by decide +kernel
theorem dX3_gramsRecovered_29 : decode cX3_gramsRecovered 29 = .ok (.getfield 148, 3) := by decide +kernel
theorem dX3_gramsRecovered_32 : decode cX3_gramsRecovered 32 = .ok (.iload_n 1, 1) := by decide +kernel
theorem dX3_gramsRecovered_33 : decode cX3_gramsRecovered 33 = .ok (.if_icmp .ne 20, 3) := by decide +kernel
theorem dX3_gramsRecovered_36 : decode cX3_gramsRecovered 36 = .ok (.aload 5, 2) := by decide +kernel
theorem dX3_gramsRecovered_38 : decode cX3_gramsRecovered 38 = .ok (.getfield 89, 3) := by decide +kernel
theorem dX3_gramsRecovered_41 : decode cX3_gramsRecovered 41 = .ok (.iconst 3, 1) := by decide +kernel
theorem dX3_gramsRecovered_42 : decode cX3_gramsRecovered 42 = .ok (.if_icmp .ne 11, 3) := by decide +kernel
theorem dX3_gramsRecovered_45 : decode cX3_gramsRecovered 45 = .ok (.lload_n 2, 1) := by decide +kernel
theorem dX3_gramsRecovered_46 : decode cX3_gramsRecovered 46 = .ok (.aload 5, 2) := by decide +kernel
theorem dX3_gramsRecovered_48 : decode cX3_gramsRecovered 48 = .ok (.getfield 172, 3) := by decide +kernel
theorem dX3_gramsRecovered_51 : decode cX3_gramsRecovered 51 = .ok (.ladd, 1) := by decide +kernel
theorem dX3_gramsRecovered_52 : decode cX3_gramsRecovered 52 = .ok (.lstore_n 2, 1) := by decide +kernel
theorem dX3_gramsRecovered_53 : decode cX3_gramsRecovered 53 = .ok (.iinc 4 1, 3) := by decide +kernel
theorem dX3_gramsRecovered_56 : decode cX3_gramsRecovered 56 = .ok (.goto (-51), 3) := by decide +kernel
theorem dX3_gramsRecovered_59 : decode cX3_gramsRecovered 59 = .ok (.lload_n 2, 1) := by decide +kernel
theorem dX3_gramsRecovered_60 : decode cX3_gramsRecovered 60 = .ok (.lreturn, 1) := by decide +kernel
theorem dX3_shareUp_0 : decode cX3_shareUp 0 = .ok (.lload 4, 2) := by decide +kernel
theorem dX3_shareUp_2 : decode cX3_shareUp 2 = .ok (.lconst 1, 1) := by decide +kernel
theorem dX3_shareUp_3 : decode cX3_shareUp 3 = .ok (.lcmp, 1) := by decide +kernel
theorem dX3_shareUp_4 : decode cX3_shareUp 4 = .ok (.ifCond .ge 5, 3) := by decide +kernel
theorem dX3_shareUp_7 : decode cX3_shareUp 7 = .ok (.lconst 0, 1) := by decide +kernel
theorem dX3_shareUp_8 : decode cX3_shareUp 8 = .ok (.lreturn, 1) := by decide +kernel
theorem dX3_shareUp_9 : decode cX3_shareUp 9 = .ok (.lload_n 0, 1) := by decide +kernel
theorem dX3_shareUp_10 : decode cX3_shareUp 10 = .ok (.lload 4, 2) := by decide +kernel
theorem dX3_shareUp_12 : decode cX3_shareUp 12 = .ok (.lrem, 1) := by decide +kernel
theorem dX3_shareUp_13 : decode cX3_shareUp 13 = .ok (.lload_n 2, 1) := by decide +kernel
theorem dX3_shareUp_14 : decode cX3_shareUp 14 = .ok (.lmul, 1) := by decide +kernel
theorem dX3_shareUp_15 : decode cX3_shareUp 15 = .ok (.lstore 6, 2) := by decide +kernel
theorem dX3_shareUp_17 : decode cX3_shareUp 17 = .ok (.lload 6, 2) := by decide +kernel
theorem dX3_shareUp_19 : decode cX3_shareUp 19 = .ok (.lload 4, 2) := by decide +kernel
theorem dX3_shareUp_21 : decode cX3_shareUp 21 = .ok (.lrem, 1) := by decide +kernel
theorem dX3_shareUp_22 : decode cX3_shareUp 22 = .ok (.lconst 0, 1) := by decide +kernel
theorem dX3_shareUp_23 : decode cX3_shareUp 23 = .ok (.lcmp, 1) := by decide +kernel
theorem dX3_shareUp_24 : decode cX3_shareUp 24 = .ok (.ifCond .ne 7, 3) := by decide +kernel
theorem dX3_shareUp_27 : decode cX3_shareUp 27 = .ok (.lconst 0, 1) := by decide +kernel
theorem dX3_shareUp_28 : decode cX3_shareUp 28 = .ok (.goto 4, 3) := by decide +kernel
theorem dX3_shareUp_31 : decode cX3_shareUp 31 = .ok (.lconst 1, 1) := by decide +kernel
theorem dX3_shareUp_32 : decode cX3_shareUp 32 = .ok (.lstore 8, 2) := by decide +kernel
theorem dX3_shareUp_34 : decode cX3_shareUp 34 = .ok (.lload_n 0, 1) := by decide +kernel
theorem dX3_shareUp_35 : decode cX3_shareUp 35 = .ok (.lload 4, 2) := by decide +kernel
theorem dX3_shareUp_37 : decode cX3_shareUp 37 = .ok (.ldiv, 1) := by decide +kernel
theorem dX3_shareUp_38 : decode cX3_shareUp 38 = .ok (.lload_n 2, 1) := by decide +kernel
theorem dX3_shareUp_39 : decode cX3_shareUp 39 = .ok (.lmul, 1) := by decide +kernel
theorem dX3_shareUp_40 : decode cX3_shareUp 40 = .ok (.lload 6, 2) := by decide +kernel
theorem dX3_shareUp_42 : decode cX3_shareUp 42 = .ok (.lload 4, 2) := by decide +kernel
theorem dX3_shareUp_44 : decode cX3_shareUp 44 = .ok (.ldiv, 1) := by decide +kernel
theorem dX3_shareUp_45 : decode cX3_shareUp 45 = .ok (.ladd, 1) := by decide +kernel
theorem dX3_shareUp_46 : decode cX3_shareUp 46 = .ok (.lload 8, 2) := by decide +kernel
theorem dX3_shareUp_48 : decode cX3_shareUp 48 = .ok (.ladd, 1) := by decide +kernel
theorem dX3_shareUp_49 : decode cX3_shareUp 49 = .ok (.lreturn, 1) := by decide +kernel
theorem dX3_writeHead_0 : decode cX3_writeHead 0 = .ok (.aload_n 0, 1) := by decide +kernel
theorem dX3_writeHead_1 : decode cX3_writeHead 1 = .ok (.getfield 28, 3) := by decide +kernel
theorem dX3_writeHead_4 : decode cX3_writeHead 4 = .ok (.iload_n 1, 1) := by decide +kernel
theorem dX3_writeHead_5 : decode cX3_writeHead 5 = .ok (.i2l, 1) := by decide +kernel
theorem dX3_writeHead_6 : decode cX3_writeHead 6 = .ok (.invokevirtual 173, 3) := by decide +kernel
theorem dX3_writeHead_9 : decode cX3_writeHead 9 = .ok (.aload_n 0, 1) := by decide +kernel
theorem dX3_writeHead_10 : decode cX3_writeHead 10 = .ok (.getfield 28, 3) := by decide +kernel
theorem dX3_writeHead_13 : decode cX3_writeHead 13 = .ok (.bipush 32, 2) := by decide +kernel
theorem dX3_writeHead_15 : decode cX3_writeHead 15 = .ok (.invokevirtual 177, 3) := by decide +kernel
theorem dX3_writeHead_18 : decode cX3_writeHead 18 = .ok (.aload_n 0, 1) := by decide +kernel
theorem dX3_writeHead_19 : decode cX3_writeHead 19 = .ok (.getfield 28, 3) := by decide +kernel
theorem dX3_writeHead_22 : decode cX3_writeHead 22 = .ok (.aload_n 2, 1) := by decide +kernel
theorem dX3_writeHead_23 : decode cX3_writeHead 23 = .ok (.getfield 74, 3) := by decide +kernel
theorem dX3_writeHead_26 : decode cX3_writeHead 26 = .ok (.invokevirtual 173, 3) := by decide +kernel
theorem dX3_writeHead_29 : decode cX3_writeHead 29 = .ok (.aload_n 0, 1) := by decide +kernel
theorem dX3_writeHead_30 : decode cX3_writeHead 30 = .ok (.getfield 28, 3) := by decide +kernel
theorem dX3_writeHead_33 : decode cX3_writeHead 33 = .ok (.bipush 32, 2) := by decide +kernel
theorem dX3_writeHead_35 : decode cX3_writeHead 35 = .ok (.invokevirtual 177, 3) := by decide +kernel
theorem dX3_writeHead_38 : decode cX3_writeHead 38 = .ok (.aload_n 0, 1) := by decide +kernel
theorem dX3_writeHead_39 : decode cX3_writeHead 39 = .ok (.getfield 28, 3) := by decide +kernel
theorem dX3_writeHead_42 : decode cX3_writeHead 42 = .ok (.aload_n 2, 1) := by decide +kernel
theorem dX3_writeHead_43 : decode cX3_writeHead 43 = .ok (.getfield 181, 3) := by decide +kernel
theorem dX3_writeHead_46 : decode cX3_writeHead 46 = .ok (.i2l, 1) := by decide +kernel
theorem dX3_writeHead_47 : decode cX3_writeHead 47 = .ok (.invokevirtual 173, 3) := by decide +kernel
theorem dX3_writeHead_50 : decode cX3_writeHead 50 = .ok (.aload_n 0, 1) := by decide +kernel
theorem dX3_writeHead_51 : decode cX3_writeHead 51 = .ok (.getfield 28, 3) := by decide +kernel
theorem dX3_writeHead_54 : decode cX3_writeHead 54 = .ok (.bipush 32, 2) := by decide +kernel
theorem dX3_writeHead_56 : decode cX3_writeHead 56 = .ok (.invokevirtual 177, 3) := by decide +kernel
theorem dX3_writeHead_59 : decode cX3_writeHead 59 = .ok (.aload_n 0, 1) := by decide +kernel
theorem dX3_writeHead_60 : decode cX3_writeHead 60 = .ok (.getfield 28, 3) := by decide +kernel
theorem dX3_writeHead_63 : decode cX3_writeHead 63 = .ok (.aload_n 2, 1) := by decide +kernel
theorem dX3_writeHead_64 : decode cX3_writeHead 64 = .ok (.getfield 184, 3) := by decide +kernel
theorem dX3_writeHead_67 : decode cX3_writeHead 67 = .ok (.i2l, 1) := by decide +kernel
theorem dX3_writeHead_68 : decode cX3_writeHead 68 = .ok (.invokevirtual 173, 3) := by decide +kernel
theorem dX3_writeHead_71 : decode cX3_writeHead 71 = .ok (.aload_n 0, 1) := by decide +kernel
theorem dX3_writeHead_72 : decode cX3_writeHead 72 = .ok (.getfield 28, 3) := by decide +kernel
theorem dX3_writeHead_75 : decode cX3_writeHead 75 = .ok (.bipush 32, 2) := by decide +kernel
theorem dX3_writeHead_77 : decode cX3_writeHead 77 = .ok (.invokevirtual 177, 3) := by decide +kernel
theorem dX3_writeHead_80 : decode cX3_writeHead 80 = .ok (.aload_n 0, 1) := by decide +kernel
theorem dX3_writeHead_81 : decode cX3_writeHead 81 = .ok (.getfield 28, 3) := by decide +kernel
theorem dX3_writeHead_84 : decode cX3_writeHead 84 = .ok (.aload_n 2, 1) := by decide +kernel
theorem dX3_writeHead_85 : decode cX3_writeHead 85 = .ok (.aload_n 0, 1) := by decide +kernel
theorem dX3_writeHead_86 : decode cX3_writeHead 86 = .ok (.getfield 36, 3) := by decide +kernel
theorem dX3_writeHead_89 : decode cX3_writeHead 89 = .ok (.invokevirtual 64, 3) := by decide +kernel
theorem dX3_writeHead_92 : decode cX3_writeHead 92 = .ok (.i2l, 1) := by decide +kernel
theorem dX3_writeHead_93 : decode cX3_writeHead 93 = .ok (.invokevirtual 173, 3) := by decide +kernel
theorem dX3_writeHead_96 : decode cX3_writeHead 96 = .ok (.return_, 1) := by decide +kernel
theorem dX3_writeMove_0 : decode cX3_writeMove 0 = .ok (.aload_n 0, 1) := by decide +kernel
theorem dX3_writeMove_1 : decode cX3_writeMove 1 = .ok (.getfield 28, 3) := by decide +kernel
theorem dX3_writeMove_4 : decode cX3_writeMove 4 = .ok (.bipush 44, 2) := by decide +kernel
theorem dX3_writeMove_6 : decode cX3_writeMove 6 = .ok (.invokevirtual 177, 3) := by decide +kernel
theorem dX3_writeMove_9 : decode cX3_writeMove 9 = .ok (.aload_n 0, 1) := by decide +kernel
theorem dX3_writeMove_10 : decode cX3_writeMove 10 = .ok (.getfield 28, 3) := by decide +kernel
theorem dX3_writeMove_13 : decode cX3_writeMove 13 = .ok (.iload_n 1, 1) := by decide +kernel
theorem dX3_writeMove_14 : decode cX3_writeMove 14 = .ok (.i2l, 1) := by decide +kernel
theorem dX3_writeMove_15 : decode cX3_writeMove 15 = .ok (.invokevirtual 173, 3) := by decide +kernel
theorem dX3_writeMove_18 : decode cX3_writeMove 18 = .ok (.aload_n 0, 1) := by decide +kernel
theorem dX3_writeMove_19 : decode cX3_writeMove 19 = .ok (.getfield 28, 3) := by decide +kernel
theorem dX3_writeMove_22 : decode cX3_writeMove 22 = .ok (.bipush 58, 2) := by decide +kernel
theorem dX3_writeMove_24 : decode cX3_writeMove 24 = .ok (.invokevirtual 177, 3) := by decide +kernel
theorem dX3_writeMove_27 : decode cX3_writeMove 27 = .ok (.aload_n 0, 1) := by decide +kernel
theorem dX3_writeMove_28 : decode cX3_writeMove 28 = .ok (.getfield 28, 3) := by decide +kernel
theorem dX3_writeMove_31 : decode cX3_writeMove 31 = .ok (.aload_n 2, 1) := by decide +kernel
theorem dX3_writeMove_32 : decode cX3_writeMove 32 = .ok (.getfield 172, 3) := by decide +kernel
theorem dX3_writeMove_35 : decode cX3_writeMove 35 = .ok (.invokevirtual 173, 3) := by decide +kernel
theorem dX3_writeMove_38 : decode cX3_writeMove 38 = .ok (.aload_n 0, 1) := by decide +kernel
theorem dX3_writeMove_39 : decode cX3_writeMove 39 = .ok (.getfield 28, 3) := by decide +kernel
theorem dX3_writeMove_42 : decode cX3_writeMove 42 = .ok (.aload_n 2, 1) := by decide +kernel
theorem dX3_writeMove_43 : decode cX3_writeMove 43 = .ok (.invokevirtual 187, 3) := by decide +kernel
theorem dX3_writeMove_46 : decode cX3_writeMove 46 = .ok (.invokevirtual 177, 3) := by decide +kernel
theorem dX3_writeMove_49 : decode cX3_writeMove 49 = .ok (.return_, 1) := by decide +kernel
end
section
/-! decode rows of X4. Printed by wip/gen/names.py. -/
theorem dX4_init_0 : decode cX4_init 0 = .ok (.aload_n 0, 1) := by decide +kernel
theorem dX4_init_1 : decode cX4_init 1 = .ok (.invokespecial 1, 3) := by decide +kernel
theorem dX4_init_4 : decode cX4_init 4 = .ok (.aload_n 0, 1) := by decide +kernel
theorem dX4_init_5 : decode cX4_init 5 = .ok (.bipush 6, 2) := by decide +kernel
theorem dX4_init_7 : decode cX4_init 7 = .ok (.newarray .long, 2) := by decide +kernel
theorem dX4_init_9 : decode cX4_init 9 = .ok (.putfield 7, 3) := by decide +kernel
theorem dX4_init_12 : decode cX4_init 12 = .ok (.aload_n 0, 1) := by decide +kernel
theorem dX4_init_13 : decode cX4_init 13 = .ok (.bipush 6, 2) := by decide +kernel
theorem dX4_init_15 : decode cX4_init 15 = .ok (.newarray .int, 2) := by decide +kernel
theorem dX4_init_17 : decode cX4_init 17 = .ok (.putfield 13, 3) := by decide +kernel
theorem dX4_init_20 : decode cX4_init 20 = .ok (.aload_n 0, 1) := by decide +kernel
theorem dX4_init_21 : decode cX4_init 21 = .ok (.bipush 6, 2) := by decide +kernel
theorem dX4_init_23 : decode cX4_init 23 = .ok (.newarray .int, 2) := by decide +kernel
theorem dX4_init_25 : decode cX4_init 25 = .ok (.putfield 17, 3) := by decide +kernel
theorem dX4_init_28 : decode cX4_init 28 = .ok (.aload_n 0, 1) := by decide +kernel
theorem dX4_init_29 : decode cX4_init 29 = .ok (.bipush 6, 2) := by decide +kernel
theorem dX4_init_31 : decode cX4_init 31 = .ok (.newarray .long, 2) := by decide +kernel
theorem dX4_init_33 : decode cX4_init 33 = .ok (.putfield 20, 3) := by decide +kernel
theorem dX4_init_36 : decode cX4_init 36 = .ok (.aload_n 0, 1) := by decide +kernel
theorem dX4_init_37 : decode cX4_init 37 = .ok (.bipush 36, 2) := by decide +kernel
theorem dX4_init_39 : decode cX4_init 39 = .ok (.newarray .boolean, 2) := by decide +kernel
theorem dX4_init_41 : decode cX4_init 41 = .ok (.putfield 23, 3) := by decide +kernel
theorem dX4_init_44 : decode cX4_init 44 = .ok (.aload_n 0, 1) := by decide +kernel
theorem dX4_init_45 : decode cX4_init 45 = .ok (.bipush 36, 2) := by decide +kernel
theorem dX4_init_47 : decode cX4_init 47 = .ok (.newarray .int, 2) := by decide +kernel
theorem dX4_init_49 : decode cX4_init 49 = .ok (.putfield 27, 3) := by decide +kernel
theorem dX4_init_52 : decode cX4_init 52 = .ok (.aload_n 0, 1) := by decide +kernel
theorem dX4_init_53 : decode cX4_init 53 = .ok (.bipush 36, 2) := by decide +kernel
theorem dX4_init_55 : decode cX4_init 55 = .ok (.newarray .int, 2) := by decide +kernel
theorem dX4_init_57 : decode cX4_init 57 = .ok (.putfield 30, 3) := by decide +kernel
theorem dX4_init_60 : decode cX4_init 60 = .ok (.aload_n 0, 1) := by decide +kernel
theorem dX4_init_61 : decode cX4_init 61 = .ok (.bipush 36, 2) := by decide +kernel
theorem dX4_init_63 : decode cX4_init 63 = .ok (.newarray .int, 2) := by decide +kernel
theorem dX4_init_65 : decode cX4_init 65 = .ok (.putfield 33, 3) := by decide +kernel
theorem dX4_init_68 : decode cX4_init 68 = .ok (.aload_n 0, 1) := by decide +kernel
theorem dX4_init_69 : decode cX4_init 69 = .ok (.bipush 12, 2) := by decide +kernel
theorem dX4_init_71 : decode cX4_init 71 = .ok (.newarray .int, 2) := by decide +kernel
theorem dX4_init_73 : decode cX4_init 73 = .ok (.putfield 36, 3) := by decide +kernel
theorem dX4_init_76 : decode cX4_init 76 = .ok (.aload_n 0, 1) := by decide +kernel
theorem dX4_init_77 : decode cX4_init 77 = .ok (.bipush 12, 2) := by decide +kernel
theorem dX4_init_79 : decode cX4_init 79 = .ok (.newarray .long, 2) := by decide +kernel
theorem dX4_init_81 : decode cX4_init 81 = .ok (.putfield 39, 3) := by decide +kernel
theorem dX4_init_84 : decode cX4_init 84 = .ok (.aload_n 0, 1) := by decide +kernel
theorem dX4_init_85 : decode cX4_init 85 = .ok (.bipush 12, 2) := by decide +kernel
theorem dX4_init_87 : decode cX4_init 87 = .ok (.newarray .int, 2) := by decide +kernel
theorem dX4_init_89 : decode cX4_init 89 = .ok (.putfield 42, 3) := by decide +kernel
theorem dX4_init_92 : decode cX4_init 92 = .ok (.aload_n 0, 1) := by decide +kernel
theorem dX4_init_93 : decode cX4_init 93 = .ok (.bipush 12, 2) := by decide +kernel
theorem dX4_init_95 : decode cX4_init 95 = .ok (.newarray .int, 2) := by decide +kernel
theorem dX4_init_97 : decode cX4_init 97 = .ok (.putfield 45, 3) := by decide +kernel
theorem dX4_init_100 : decode cX4_init 100 = .ok (.aload_n 0, 1) := by decide +kernel
theorem dX4_init_101 : decode cX4_init 101 = .ok (.bipush 12, 2) := by decide +kernel
theorem dX4_init_103 : decode cX4_init 103 = .ok (.newarray .int, 2) := by decide +kernel
theorem dX4_init_105 : decode cX4_init 105 = .ok (.putfield 48, 3) := by decide +kernel
theorem dX4_init_108 : decode cX4_init 108 = .ok (.aload_n 0, 1) := by decide +kernel
theorem dX4_init_109 : decode cX4_init 109 = .ok (.bipush 12, 2) := by decide +kernel
theorem dX4_init_111 : decode cX4_init 111 = .ok (.newarray .boolean, 2) := by decide +kernel
theorem dX4_init_113 : decode cX4_init 113 = .ok (.putfield 51, 3) := by decide +kernel
theorem dX4_init_116 : decode cX4_init 116 = .ok (.aload_n 0, 1) := by decide +kernel
theorem dX4_init_117 : decode cX4_init 117 = .ok (.bipush 12, 2) := by decide +kernel
theorem dX4_init_119 : decode cX4_init 119 = .ok (.newarray .int, 2) := by decide +kernel
theorem dX4_init_121 : decode cX4_init 121 = .ok (.putfield 54, 3) := by decide +kernel
theorem dX4_init_124 : decode cX4_init 124 = .ok (.aload_n 0, 1) := by decide +kernel
theorem dX4_init_125 : decode cX4_init 125 = .ok (.bipush 72, 2) := by decide +kernel
theorem dX4_init_127 : decode cX4_init 127 = .ok (.newarray .int, 2) := by decide +kernel
theorem dX4_init_129 : decode cX4_init 129 = .ok (.putfield 57, 3) := by decide +kernel
theorem dX4_init_132 : decode cX4_init 132 = .ok (.aload_n 0, 1) := by decide +kernel
theorem dX4_init_133 : decode cX4_init 133 = .ok (.bipush 40, 2) := by decide +kernel
theorem dX4_init_135 : decode cX4_init 135 = .ok (.newarray .boolean, 2) := by decide +kernel
theorem dX4_init_137 : decode cX4_init 137 = .ok (.putfield 60, 3) := by decide +kernel
theorem dX4_init_140 : decode cX4_init 140 = .ok (.aload_n 0, 1) := by decide +kernel
theorem dX4_init_141 : decode cX4_init 141 = .ok (.sipush 365, 3) := by decide +kernel
theorem dX4_init_144 : decode cX4_init 144 = .ok (.putfield 63, 3) := by decide +kernel
theorem dX4_init_147 : decode cX4_init 147 = .ok (.return_, 1) := by decide +kernel
theorem dX4_isIn_0 : decode cX4_isIn 0 = .ok (.lload_n 0, 1) := by decide +kernel
theorem dX4_isIn_1 : decode cX4_isIn 1 = .ok (.lload_n 2, 1) := by decide +kernel
theorem dX4_isIn_2 : decode cX4_isIn 2 = .ok (.lcmp, 1) := by decide +kernel
theorem dX4_isIn_3 : decode cX4_isIn 3 = .ok (.ifCond .lt 14, 3) := by decide +kernel
theorem dX4_isIn_6 : decode cX4_isIn 6 = .ok (.lload_n 0, 1) := by decide +kernel
theorem dX4_isIn_7 : decode cX4_isIn 7 = .ok (.lload 4, 2) := by decide +kernel
theorem dX4_isIn_9 : decode cX4_isIn 9 = .ok (.lcmp, 1) := by decide +kernel
theorem dX4_isIn_10 : decode cX4_isIn 10 = .ok (.ifCond .gt 7, 3) := by decide +kernel
theorem dX4_isIn_13 : decode cX4_isIn 13 = .ok (.iconst 1, 1) := by decide +kernel
theorem dX4_isIn_14 : decode cX4_isIn 14 = .ok (.goto 4, 3) := by decide +kernel
theorem dX4_isIn_17 : decode cX4_isIn 17 = .ok (.iconst 0, 1) := by decide +kernel
theorem dX4_isIn_18 : decode cX4_isIn 18 = .ok (.ireturn, 1) := by decide +kernel
theorem dX4_isNotice_0 : decode cX4_isNotice 0 = .ok (.iload_n 1, 1) := by decide +kernel
theorem dX4_isNotice_1 : decode cX4_isNotice 1 = .ok (.ifCond .lt 15, 3) := by decide +kernel
theorem dX4_isNotice_4 : decode cX4_isNotice 4 = .ok (.iload_n 1, 1) := by decide +kernel
theorem dX4_isNotice_5 : decode cX4_isNotice 5 = .ok (.aload_n 0, 1) := by decide +kernel
theorem dX4_isNotice_6 : decode cX4_isNotice 6 = .ok (.getfield 67, 3) := by decide +kernel
theorem dX4_isNotice_9 : decode cX4_isNotice 9 = .ok (.if_icmp .ge 7, 3) := by decide +kernel
theorem dX4_isNotice_12 : decode cX4_isNotice 12 = .ok (.iconst 1, 1) := by decide +kernel
theorem dX4_isNotice_13 : decode cX4_isNotice 13 = .ok (.goto 4, 3) := by decide +kernel
theorem dX4_isNotice_16 : decode cX4_isNotice 16 = .ok (.iconst 0, 1) := by decide +kernel
theorem dX4_isNotice_17 : decode cX4_isNotice 17 = .ok (.ireturn, 1) := by decide +kernel
theorem dX4_isMove_0 : decode cX4_isMove 0 = .ok (.iload_n 1, 1) := by decide +kernel
theorem dX4_isMove_1 : decode cX4_isMove 1 = .ok (.ifCond .lt 15, 3) := by decide +kernel
theorem dX4_isMove_4 : decode cX4_isMove 4 = .ok (.iload_n 1, 1) := by decide +kernel
theorem dX4_isMove_5 : decode cX4_isMove 5 = .ok (.aload_n 0, 1) := by decide +kernel
theorem dX4_isMove_6 : decode cX4_isMove 6 = .ok (.getfield 70, 3) := by decide +kernel
theorem dX4_isMove_9 : decode cX4_isMove 9 = .ok (.if_icmp .ge 7, 3) := by decide +kernel
theorem dX4_isMove_12 : decode cX4_isMove 12 = .ok (.iconst 1, 1) := by decide +kernel
theorem dX4_isMove_13 : decode cX4_isMove 13 = .ok (.goto 4, 3) := by decide +kernel
theorem dX4_isMove_16 : decode cX4_isMove 16 = .ok (.iconst 0, 1) := by decide +kernel
theorem dX4_isMove_17 : decode cX4_isMove 17 = .ok (.ireturn, 1) := by decide +kernel
theorem dX4_isCountry_0 : decode cX4_isCountry 0 = .ok (.iload_n 0, 1) := by decide +kernel
theorem dX4_isCountry_1 : decode cX4_isCountry 1 = .ok (.ifCond .lt 13, 3) := by decide +kernel
theorem dX4_isCountry_4 : decode cX4_isCountry 4 = .ok (.iload_n 0, 1) := by decide +kernel
theorem dX4_isCountry_5 : decode cX4_isCountry 5 = .ok (.bipush 6, 2) := by decide +kernel
theorem dX4_isCountry_7 : decode cX4_isCountry 7 = .ok (.if_icmp .ge 7, 3) := by decide +kernel
theorem dX4_isCountry_10 : decode cX4_isCountry 10 = .ok (.iconst 1, 1) := by decide +kernel
theorem dX4_isCountry_11 : decode cX4_isCountry 11 = .ok (.goto 4, 3) := by decide +kernel
theorem dX4_isCountry_14 : decode cX4_isCountry 14 = .ok (.iconst 0, 1) := by decide +kernel
theorem dX4_isCountry_15 : decode cX4_isCountry 15 = .ok (.ireturn, 1) := by decide +kernel
theorem dX4_isPerson_0 : decode cX4_isPerson 0 = .ok (.iload_n 0, 1) := by decide +kernel
theorem dX4_isPerson_1 : decode cX4_isPerson 1 = .ok (.ifCond .lt 13, 3) := by decide +kernel
theorem dX4_isPerson_4 : decode cX4_isPerson 4 = .ok (.iload_n 0, 1) := by decide +kernel
theorem dX4_isPerson_5 : decode cX4_isPerson 5 = .ok (.bipush 8, 2) := by decide +kernel
theorem dX4_isPerson_7 : decode cX4_isPerson 7 = .ok (.if_icmp .ge 7, 3) := by decide +kernel
theorem dX4_isPerson_10 : decode cX4_isPerson 10 = .ok (.iconst 1, 1) := by decide +kernel
theorem dX4_isPerson_11 : decode cX4_isPerson 11 = .ok (.goto 4, 3) := by decide +kernel
theorem dX4_isPerson_14 : decode cX4_isPerson 14 = .ok (.iconst 0, 1) := by decide +kernel
theorem dX4_isPerson_15 : decode cX4_isPerson 15 = .ok (.ireturn, 1) := by decide +kernel
theorem dX4_isEvent_0 : decode cX4_isEvent 0 = .ok (.iload_n 0, 1) := by decide +kernel
theorem dX4_isEvent_1 : decode cX4_isEvent 1 = .ok (.ifCond .lt 12, 3) := by decide +kernel
theorem dX4_isEvent_4 : decode cX4_isEvent 4 = .ok (.iload_n 0, 1) := by decide +kernel
theorem dX4_isEvent_5 : decode cX4_isEvent 5 = .ok (.iconst 5, 1) := by decide +kernel
theorem dX4_isEvent_6 : decode cX4_isEvent 6 = .ok (.if_icmp .ge 7, 3) := by decide +kernel
theorem dX4_isEvent_9 : decode cX4_isEvent 9 = .ok (.iconst 1, 1) := by decide +kernel
theorem dX4_isEvent_10 : decode cX4_isEvent 10 = .ok (.goto 4, 3) := by decide +kernel
theorem dX4_isEvent_13 : decode cX4_isEvent 13 = .ok (.iconst 0, 1) := by decide +kernel
theorem dX4_isEvent_14 : decode cX4_isEvent 14 = .ok (.ireturn, 1) := by decide +kernel
theorem dX4_isSilent_0 : decode cX4_isSilent 0 = .ok (.aload_n 0, 1) := by decide +kernel
theorem dX4_isSilent_1 : decode cX4_isSilent 1 = .ok (.getfield 23, 3) := by decide +kernel
theorem dX4_isSilent_4 : decode cX4_isSilent 4 = .ok (.iload_n 1, 1) := by decide +kernel
theorem dX4_isSilent_5 : decode cX4_isSilent 5 = .ok (.baload, 1) := by decide +kernel
theorem dX4_isSilent_6 : decode cX4_isSilent 6 = .ok (.ifCond .eq 33, 3) := by decide +kernel
theorem dX4_isSilent_9 : decode cX4_isSilent 9 = .ok (.aload_n 0, 1) := by decide +kernel
theorem dX4_isSilent_10 : decode cX4_isSilent 10 = .ok (.getfield 33, 3) := by decide +kernel
theorem dX4_isSilent_13 : decode cX4_isSilent 13 = .ok (.iload_n 1, 1) := by decide +kernel
theorem dX4_isSilent_14 : decode cX4_isSilent 14 = .ok (.iaload, 1) := by decide +kernel
theorem dX4_isSilent_15 : decode cX4_isSilent 15 = .ok (.ifCond .ne 24, 3) := by decide +kernel
theorem dX4_isSilent_18 : decode cX4_isSilent 18 = .ok (.iload_n 2, 1) := by decide +kernel
theorem dX4_isSilent_19 : decode cX4_isSilent 19 = .ok (.aload_n 0, 1) := by decide +kernel
theorem dX4_isSilent_20 : decode cX4_isSilent 20 = .ok (.getfield 30, 3) := by decide +kernel
theorem dX4_isSilent_23 : decode cX4_isSilent 23 = .ok (.iload_n 1, 1) := by decide +kernel
theorem dX4_isSilent_24 : decode cX4_isSilent 24 = .ok (.iaload, 1) := by decide +kernel
theorem dX4_isSilent_25 : decode cX4_isSilent 25 = .ok (.isub, 1) := by decide +kernel
theorem dX4_isSilent_26 : decode cX4_isSilent 26 = .ok (.aload_n 0, 1) := by decide +kernel
theorem dX4_isSilent_27 : decode cX4_isSilent 27 = .ok (.getfield 27, 3) := by decide +kernel
theorem dX4_isSilent_30 : decode cX4_isSilent 30 = .ok (.iload_n 1, 1) := by decide +kernel
theorem dX4_isSilent_31 : decode cX4_isSilent 31 = .ok (.iaload, 1) := by decide +kernel
theorem dX4_isSilent_32 : decode cX4_isSilent 32 = .ok (.if_icmp .le 7, 3) := by decide +kernel
theorem dX4_isSilent_35 : decode cX4_isSilent 35 = .ok (.iconst 1, 1) := by decide +kernel
theorem dX4_isSilent_36 : decode cX4_isSilent 36 = .ok (.goto 4, 3) := by decide +kernel
theorem dX4_isSilent_39 : decode cX4_isSilent 39 = .ok (.iconst 0, 1) := by decide +kernel
theorem dX4_isSilent_40 : decode cX4_isSilent 40 = .ok (.ireturn, 1) := by decide +kernel
theorem dX4_day_0 : decode cX4_day 0 = .ok (.iload_n 1, 1) := by decide +kernel
theorem dX4_day_1 : decode cX4_day 1 = .ok (.i2l, 1) := by decide +kernel
theorem dX4_day_2 : decode cX4_day 2 = .ok (.aload_n 0, 1) := by decide +kernel
theorem dX4_day_3 : decode cX4_day 3 = .ok (.getfield 73, 3) := by decide +kernel
theorem dX4_day_6 : decode cX4_day 6 = .ok (.i2l, 1) := by decide +kernel
theorem dX4_day_7 : decode cX4_day 7 = .ok (.ldc2_w 76, 3) := by decide +kernel
theorem dX4_day_10 : decode cX4_day 10 = .ok (.invokestatic 78, 3) := by decide +kernel
theorem dX4_day_13 : decode cX4_day 13 = .ok (.ifCond .ne 5, 3) := by decide +kernel
theorem dX4_day_16 : decode cX4_day 16 = .ok (.iconst (-1), 1) := by decide +kernel
theorem dX4_day_17 : decode cX4_day 17 = .ok (.ireturn, 1) := by decide +kernel
theorem dX4_day_18 : decode cX4_day 18 = .ok (.iconst 0, 1) := by decide +kernel
theorem dX4_day_19 : decode cX4_day 19 = .ok (.istore_n 2, 1) := by decide +kernel
theorem dX4_day_20 : decode cX4_day 20 = .ok (.iconst 0, 1) := by decide +kernel
theorem dX4_day_21 : decode cX4_day 21 = .ok (.istore_n 3, 1) := by decide +kernel
theorem dX4_day_22 : decode cX4_day 22 = .ok (.iload_n 3, 1) := by decide +kernel
theorem dX4_day_23 : decode cX4_day 23 = .ok (.bipush 6, 2) := by decide +kernel
theorem dX4_day_25 : decode cX4_day 25 = .ok (.aload_n 0, 1) := by decide +kernel
theorem dX4_day_26 : decode cX4_day 26 = .ok (.getfield 67, 3) := by decide +kernel
theorem dX4_day_29 : decode cX4_day 29 = .ok (.imul, 1) := by decide +kernel
theorem dX4_day_30 : decode cX4_day 30 = .ok (.if_icmp .ge 38, 3) := by decide +kernel
theorem dX4_day_33 : decode cX4_day 33 = .ok (.iload_n 2, 1) := by decide +kernel
theorem dX4_day_34 : decode cX4_day 34 = .ok (.aload_n 0, 1) := by decide +kernel
theorem dX4_day_35 : decode cX4_day 35 = .ok (.iload_n 3, 1) := by decide +kernel
theorem dX4_day_36 : decode cX4_day 36 = .ok (.iload_n 1, 1) := by decide +kernel
theorem dX4_day_37 : decode cX4_day 37 = .ok (.invokevirtual 82, 3) := by decide +kernel
theorem dX4_day_40 : decode cX4_day 40 = .ok (.ifCond .eq 19, 3) := by decide +kernel
theorem dX4_day_43 : decode cX4_day 43 = .ok (.aload_n 0, 1) := by decide +kernel
theorem dX4_day_44 : decode cX4_day 44 = .ok (.iload_n 3, 1) := by decide +kernel
theorem dX4_day_45 : decode cX4_day 45 = .ok (.aload_n 0, 1) := by decide +kernel
theorem dX4_day_46 : decode cX4_day 46 = .ok (.getfield 73, 3) := by decide +kernel
theorem dX4_day_49 : decode cX4_day 49 = .ok (.invokevirtual 82, 3) := by decide +kernel
theorem dX4_day_52 : decode cX4_day 52 = .ok (.ifCond .ne 7, 3) := by decide +kernel
theorem dX4_day_55 : decode cX4_day 55 = .ok (.iconst 1, 1) := by decide +kernel
theorem dX4_day_56 : decode cX4_day 56 = .ok (.goto 4, 3) := by decide +kernel
theorem dX4_day_59 : decode cX4_day 59 = .ok (.iconst 0, 1) := by decide +kernel
theorem dX4_day_60 : decode cX4_day 60 = .ok (.iadd, 1) := by decide +kernel
theorem dX4_day_61 : decode cX4_day 61 = .ok (.istore_n 2, 1) := by decide +kernel
theorem dX4_day_62 : decode cX4_day 62 = .ok (.iinc 3 1, 3) := by decide +kernel
theorem dX4_day_65 : decode cX4_day 65 = .ok (.goto (-43), 3) := by decide +kernel
theorem dX4_day_68 : decode cX4_day 68 = .ok (.aload_n 0, 1) := by decide +kernel
theorem dX4_day_69 : decode cX4_day 69 = .ok (.iload_n 1, 1) := by decide +kernel
theorem dX4_day_70 : decode cX4_day 70 = .ok (.putfield 73, 3) := by decide +kernel
theorem dX4_day_73 : decode cX4_day 73 = .ok (.iload_n 2, 1) := by decide +kernel
theorem dX4_day_74 : decode cX4_day 74 = .ok (.ireturn, 1) := by decide +kernel
theorem dX4_notice_0 : decode cX4_notice 0 = .ok (.aload_n 0, 1) := by decide +kernel
theorem dX4_notice_1 : decode cX4_notice 1 = .ok (.getfield 67, 3) := by decide +kernel
theorem dX4_notice_4 : decode cX4_notice 4 = .ok (.bipush 6, 2) := by decide +kernel
theorem dX4_notice_6 : decode cX4_notice 6 = .ok (.if_icmp .eq 40, 3) := by decide +kernel
theorem dX4_notice_9 : decode cX4_notice 9 = .ok (.lload_n 1, 1) := by decide +kernel
theorem dX4_notice_10 : decode cX4_notice 10 = .ok (.lconst 1, 1) := by decide +kernel
theorem dX4_notice_11 : decode cX4_notice 11 = .ok (.ldc2_w 86, 3) := by decide +kernel
theorem dX4_notice_14 : decode cX4_notice 14 = .ok (.invokestatic 78, 3) := by decide +kernel
theorem dX4_notice_17 : decode cX4_notice 17 = .ok (.ifCond .eq 29, 3) := by decide +kernel
theorem dX4_notice_20 : decode cX4_notice 20 = .ok (.iload_n 3, 1) := by decide +kernel
theorem dX4_notice_21 : decode cX4_notice 21 = .ok (.i2l, 1) := by decide +kernel
theorem dX4_notice_22 : decode cX4_notice 22 = .ok (.lconst 0, 1) := by decide +kernel
theorem dX4_notice_23 : decode cX4_notice 23 = .ok (.ldc2_w 76, 3) := by decide +kernel
theorem dX4_notice_26 : decode cX4_notice 26 = .ok (.invokestatic 78, 3) := by decide +kernel
theorem dX4_notice_29 : decode cX4_notice 29 = .ok (.ifCond .eq 17, 3) := by decide +kernel
theorem dX4_notice_32 : decode cX4_notice 32 = .ok (.iload 4, 2) := by decide +kernel
theorem dX4_notice_34 : decode cX4_notice 34 = .ok (.i2l, 1) := by decide +kernel
theorem dX4_notice_35 : decode cX4_notice 35 = .ok (.iload_n 3, 1) := by decide +kernel
theorem dX4_notice_36 : decode cX4_notice 36 = .ok (.i2l, 1) := by decide +kernel
theorem dX4_notice_37 : decode cX4_notice 37 = .ok (.ldc2_w 76, 3) := by decide +kernel
theorem dX4_notice_40 : decode cX4_notice 40 = .ok (.invokestatic 78, 3) := by decide +kernel
theorem dX4_notice_43 : decode cX4_notice 43 = .ok (.ifCond .ne 5, 3) := by decide +kernel
theorem dX4_notice_46 : decode cX4_notice 46 = .ok (.iconst (-1), 1) := by decide +kernel
theorem dX4_notice_47 : decode cX4_notice 47 = .ok (.ireturn, 1) := by decide +kernel
theorem dX4_notice_48 : decode cX4_notice 48 = .ok (.aload_n 0, 1) := by decide +kernel
theorem dX4_notice_49 : decode cX4_notice 49 = .ok (.getfield 7, 3) := by decide +kernel
theorem dX4_notice_52 : decode cX4_notice 52 = .ok (.aload_n 0, 1) := by decide +kernel
theorem dX4_notice_53 : decode cX4_notice 53 = .ok (.getfield 67, 3) := by decide +kernel
theorem dX4_notice_56 : decode cX4_notice 56 = .ok (.lload_n 1, 1) := by decide +kernel
theorem dX4_notice_57 : decode cX4_notice 57 = .ok (.lastore, 1) := by decide +kernel
theorem dX4_notice_58 : decode cX4_notice 58 = .ok (.aload_n 0, 1) := by decide +kernel
theorem dX4_notice_59 : decode cX4_notice 59 = .ok (.getfield 13, 3) := by decide +kernel
theorem dX4_notice_62 : decode cX4_notice 62 = .ok (.aload_n 0, 1) := by decide +kernel
theorem dX4_notice_63 : decode cX4_notice 63 = .ok (.getfield 67, 3) := by decide +kernel
theorem dX4_notice_66 : decode cX4_notice 66 = .ok (.iload_n 3, 1) := by decide +kernel
theorem dX4_notice_67 : decode cX4_notice 67 = .ok (.iastore, 1) := by decide +kernel
theorem dX4_notice_68 : decode cX4_notice 68 = .ok (.aload_n 0, 1) := by decide +kernel
theorem dX4_notice_69 : decode cX4_notice 69 = .ok (.getfield 17, 3) := by decide +kernel
theorem dX4_notice_72 : decode cX4_notice 72 = .ok (.aload_n 0, 1) := by decide +kernel
theorem dX4_notice_73 : decode cX4_notice 73 = .ok (.getfield 67, 3) := by decide +kernel
theorem dX4_notice_76 : decode cX4_notice 76 = .ok (.iload 4, 2) := by decide +kernel
theorem dX4_notice_78 : decode cX4_notice 78 = .ok (.iastore, 1) := by decide +kernel
theorem dX4_notice_79 : decode cX4_notice 79 = .ok (.aload_n 0, 1) := by decide +kernel
theorem dX4_notice_80 : decode cX4_notice 80 = .ok (.dup, 1) := by decide +kernel
theorem dX4_notice_81 : decode cX4_notice 81 = .ok (.getfield 67, 3) := by decide +kernel
theorem dX4_notice_84 : decode cX4_notice 84 = .ok (.iconst 1, 1) := by decide +kernel
theorem dX4_notice_85 : decode cX4_notice 85 = .ok (.iadd, 1) := by decide +kernel
theorem dX4_notice_86 : decode cX4_notice 86 = .ok (.putfield 67, 3) := by decide +kernel
theorem dX4_notice_89 : decode cX4_notice 89 = .ok (.aload_n 0, 1) := by decide +kernel
theorem dX4_notice_90 : decode cX4_notice 90 = .ok (.getfield 67, 3) := by decide +kernel
theorem dX4_notice_93 : decode cX4_notice 93 = .ok (.iconst 1, 1) := by decide +kernel
theorem dX4_notice_94 : decode cX4_notice 94 = .ok (.isub, 1) := by decide +kernel
theorem dX4_notice_95 : decode cX4_notice 95 = .ok (.ireturn, 1) := by decide +kernel
theorem dX4_country_0 : decode cX4_country 0 = .ok (.aload_n 0, 1) := by decide +kernel
theorem dX4_country_1 : decode cX4_country 1 = .ok (.iload_n 1, 1) := by decide +kernel
theorem dX4_country_2 : decode cX4_country 2 = .ok (.invokevirtual 88, 3) := by decide +kernel
theorem dX4_country_5 : decode cX4_country 5 = .ok (.ifCond .eq 36, 3) := by decide +kernel
theorem dX4_country_8 : decode cX4_country 8 = .ok (.iload_n 2, 1) := by decide +kernel
theorem dX4_country_9 : decode cX4_country 9 = .ok (.invokestatic 92, 3) := by decide +kernel
theorem dX4_country_12 : decode cX4_country 12 = .ok (.ifCond .eq 29, 3) := by decide +kernel
theorem dX4_country_15 : decode cX4_country 15 = .ok (.iload_n 3, 1) := by decide +kernel
theorem dX4_country_16 : decode cX4_country 16 = .ok (.i2l, 1) := by decide +kernel
theorem dX4_country_17 : decode cX4_country 17 = .ok (.lconst 0, 1) := by decide +kernel
theorem dX4_country_18 : decode cX4_country 18 = .ok (.ldc2_w 95, 3) := by decide +kernel
theorem dX4_country_21 : decode cX4_country 21 = .ok (.invokestatic 78, 3) := by decide +kernel
theorem dX4_country_24 : decode cX4_country 24 = .ok (.ifCond .eq 17, 3) := by decide +kernel
theorem dX4_country_27 : decode cX4_country 27 = .ok (.aload_n 0, 1) := by decide +kernel
theorem dX4_country_28 : decode cX4_country 28 = .ok (.getfield 23, 3) := by decide +kernel
theorem dX4_country_31 : decode cX4_country 31 = .ok (.bipush 6, 2) := by decide +kernel
theorem dX4_country_33 : decode cX4_country 33 = .ok (.iload_n 1, 1) := by decide +kernel
theorem dX4_country_34 : decode cX4_country 34 = .ok (.imul, 1) := by decide +kernel
theorem dX4_country_35 : decode cX4_country 35 = .ok (.iload_n 2, 1) := by decide +kernel
theorem dX4_country_36 : decode cX4_country 36 = .ok (.iadd, 1) := by decide +kernel
theorem dX4_country_37 : decode cX4_country 37 = .ok (.baload, 1) := by decide +kernel
theorem dX4_country_38 : decode cX4_country 38 = .ok (.ifCond .eq 5, 3) := by decide +kernel
theorem dX4_country_41 : decode cX4_country 41 = .ok (.iconst 0, 1) := by decide +kernel
theorem dX4_country_42 : decode cX4_country 42 = .ok (.ireturn, 1) := by decide +kernel
theorem dX4_country_43 : decode cX4_country 43 = .ok (.bipush 6, 2) := by decide +kernel
theorem dX4_country_45 : decode cX4_country 45 = .ok (.iload_n 1, 1) := by decide +kernel
theorem dX4_country_46 : decode cX4_country 46 = .ok (.imul, 1) := by decide +kernel
theorem dX4_country_47 : decode cX4_country 47 = .ok (.iload_n 2, 1) := by decide +kernel
theorem dX4_country_48 : decode cX4_country 48 = .ok (.iadd, 1) := by decide +kernel
theorem dX4_country_49 : decode cX4_country 49 = .ok (.istore 4, 2) := by decide +kernel
theorem dX4_country_51 : decode cX4_country 51 = .ok (.aload_n 0, 1) := by decide +kernel
theorem dX4_country_52 : decode cX4_country 52 = .ok (.getfield 23, 3) := by decide +kernel
theorem dX4_country_55 : decode cX4_country 55 = .ok (.iload 4, 2) := by decide +kernel
theorem dX4_country_57 : decode cX4_country 57 = .ok (.iconst 1, 1) := by decide +kernel
theorem dX4_country_58 : decode cX4_country 58 = .ok (.bastore, 1) := by decide +kernel
theorem dX4_country_59 : decode cX4_country 59 = .ok (.aload_n 0, 1) := by decide +kernel
theorem dX4_country_60 : decode cX4_country 60 = .ok (.getfield 27, 3) := by decide +kernel
theorem dX4_country_63 : decode cX4_country 63 = .ok (.iload 4, 2) := by decide +kernel
theorem dX4_country_65 : decode cX4_country 65 = .ok (.iload_n 3, 1) := by decide +kernel
theorem dX4_country_66 : decode cX4_country 66 = .ok (.iastore, 1) := by decide +kernel
theorem dX4_country_67 : decode cX4_country 67 = .ok (.aload_n 0, 1) := by decide +kernel
theorem dX4_country_68 : decode cX4_country 68 = .ok (.getfield 30, 3) := by decide +kernel
theorem dX4_country_71 : decode cX4_country 71 = .ok (.iload 4, 2) := by decide +kernel
theorem dX4_country_73 : decode cX4_country 73 = .ok (.aload_n 0, 1) := by decide +kernel
theorem dX4_country_74 : decode cX4_country 74 = .ok (.getfield 73, 3) := by decide +kernel
theorem dX4_country_77 : decode cX4_country 77 = .ok (.iastore, 1) := by decide +kernel
theorem dX4_country_78 : decode cX4_country 78 = .ok (.aload_n 0, 1) := by decide +kernel
theorem dX4_country_79 : decode cX4_country 79 = .ok (.getfield 33, 3) := by decide +kernel
theorem dX4_country_82 : decode cX4_country 82 = .ok (.iload 4, 2) := by decide +kernel
theorem dX4_country_84 : decode cX4_country 84 = .ok (.iconst 0, 1) := by decide +kernel
theorem dX4_country_85 : decode cX4_country 85 = .ok (.iastore, 1) := by decide +kernel
theorem dX4_country_86 : decode cX4_country 86 = .ok (.iconst 1, 1) := by decide +kernel
theorem dX4_country_87 : decode cX4_country 87 = .ok (.ireturn, 1) := by decide +kernel
theorem dX4_says_0 : decode cX4_says 0 = .ok (.aload_n 0, 1) := by decide +kernel
theorem dX4_says_1 : decode cX4_says 1 = .ok (.iload_n 1, 1) := by decide +kernel
theorem dX4_says_2 : decode cX4_says 2 = .ok (.invokevirtual 88, 3) := by decide +kernel
theorem dX4_says_5 : decode cX4_says 5 = .ok (.ifCond .eq 10, 3) := by decide +kernel
theorem dX4_says_8 : decode cX4_says 8 = .ok (.iload_n 2, 1) := by decide +kernel
theorem dX4_says_9 : decode cX4_says 9 = .ok (.invokestatic 92, 3) := by decide +kernel
theorem dX4_says_12 : decode cX4_says 12 = .ok (.ifCond .ne 5, 3) := by decide +kernel
theorem dX4_says_15 : decode cX4_says 15 = .ok (.iconst 0, 1) := by decide +kernel
theorem dX4_says_16 : decode cX4_says 16 = .ok (.ireturn, 1) := by decide +kernel
theorem dX4_says_17 : decode cX4_says 17 = .ok (.bipush 6, 2) := by decide +kernel
theorem dX4_says_19 : decode cX4_says 19 = .ok (.iload_n 1, 1) := by decide +kernel
theorem dX4_says_20 : decode cX4_says 20 = .ok (.imul, 1) := by decide +kernel
theorem dX4_says_21 : decode cX4_says 21 = .ok (.iload_n 2, 1) := by decide +kernel
theorem dX4_says_22 : decode cX4_says 22 = .ok (.iadd, 1) := by decide +kernel
theorem dX4_says_23 : decode cX4_says 23 = .ok (.istore 4, 2) := by decide +kernel
theorem dX4_says_25 : decode cX4_says 25 = .ok (.aload_n 0, 1) := by decide +kernel
theorem dX4_says_26 : decode cX4_says 26 = .ok (.getfield 23, 3) := by decide +kernel
theorem dX4_says_29 : decode cX4_says 29 = .ok (.iload 4, 2) := by decide +kernel
theorem dX4_says_31 : decode cX4_says 31 = .ok (.baload, 1) := by decide +kernel
theorem dX4_says_32 : decode cX4_says 32 = .ok (.ifCond .eq 26, 3) := by decide +kernel
theorem dX4_says_35 : decode cX4_says 35 = .ok (.aload_n 0, 1) := by decide +kernel
theorem dX4_says_36 : decode cX4_says 36 = .ok (.getfield 33, 3) := by decide +kernel
theorem dX4_says_39 : decode cX4_says 39 = .ok (.iload 4, 2) := by decide +kernel
theorem dX4_says_41 : decode cX4_says 41 = .ok (.iaload, 1) := by decide +kernel
theorem dX4_says_42 : decode cX4_says 42 = .ok (.ifCond .ne 16, 3) := by decide +kernel
theorem dX4_says_45 : decode cX4_says 45 = .ok (.aload_n 0, 1) := by decide +kernel
theorem dX4_says_46 : decode cX4_says 46 = .ok (.iload 4, 2) := by decide +kernel
theorem dX4_says_48 : decode cX4_says 48 = .ok (.aload_n 0, 1) := by decide +kernel
theorem dX4_says_49 : decode cX4_says 49 = .ok (.getfield 73, 3) := by decide +kernel
theorem dX4_says_52 : decode cX4_says 52 = .ok (.invokevirtual 82, 3) := by decide +kernel
theorem dX4_says_55 : decode cX4_says 55 = .ok (.ifCond .eq 5, 3) := by decide +kernel
theorem dX4_says_58 : decode cX4_says 58 = .ok (.iconst 0, 1) := by decide +kernel
theorem dX4_says_59 : decode cX4_says 59 = .ok (.ireturn, 1) := by decide +kernel
theorem dX4_says_60 : decode cX4_says 60 = .ok (.aload_n 0, 1) := by decide +kernel
theorem dX4_says_61 : decode cX4_says 61 = .ok (.getfield 33, 3) := by decide +kernel
theorem dX4_says_64 : decode cX4_says 64 = .ok (.iload 4, 2) := by decide +kernel
theorem dX4_says_66 : decode cX4_says 66 = .ok (.iload_n 3, 1) := by decide +kernel
theorem dX4_says_67 : decode cX4_says 67 = .ok (.ifCond .eq 7, 3) := by decide +kernel
theorem dX4_says_70 : decode cX4_says 70 = .ok (.iconst 1, 1) := by decide +kernel
theorem dX4_says_71 : decode cX4_says 71 = .ok (.goto 4, 3) := by decide +kernel
theorem dX4_says_74 : decode cX4_says 74 = .ok (.iconst 2, 1) := by decide +kernel
theorem dX4_says_75 : decode cX4_says 75 = .ok (.iastore, 1) := by decide +kernel
theorem dX4_says_76 : decode cX4_says 76 = .ok (.iconst 1, 1) := by decide +kernel
theorem dX4_says_77 : decode cX4_says 77 = .ok (.ireturn, 1) := by decide +kernel
theorem dX4_state_0 : decode cX4_state 0 = .ok (.aload_n 0, 1) := by decide +kernel
theorem dX4_state_1 : decode cX4_state 1 = .ok (.iload_n 1, 1) := by decide +kernel
theorem dX4_state_2 : decode cX4_state 2 = .ok (.invokevirtual 88, 3) := by decide +kernel
theorem dX4_state_5 : decode cX4_state 5 = .ok (.ifCond .ne 5, 3) := by decide +kernel
theorem dX4_state_8 : decode cX4_state 8 = .ok (.iconst (-1), 1) := by decide +kernel
theorem dX4_state_9 : decode cX4_state 9 = .ok (.ireturn, 1) := by decide +kernel
theorem dX4_state_10 : decode cX4_state 10 = .ok (.iconst 0, 1) := by decide +kernel
theorem dX4_state_11 : decode cX4_state 11 = .ok (.istore_n 2, 1) := by decide +kernel
theorem dX4_state_12 : decode cX4_state 12 = .ok (.iconst 0, 1) := by decide +kernel
theorem dX4_state_13 : decode cX4_state 13 = .ok (.istore_n 3, 1) := by decide +kernel
theorem dX4_state_14 : decode cX4_state 14 = .ok (.iconst 1, 1) := by decide +kernel
theorem dX4_state_15 : decode cX4_state 15 = .ok (.istore 4, 2) := by decide +kernel
theorem dX4_state_17 : decode cX4_state 17 = .ok (.iconst 0, 1) := by decide +kernel
theorem dX4_state_18 : decode cX4_state 18 = .ok (.istore 5, 2) := by decide +kernel
theorem dX4_state_20 : decode cX4_state 20 = .ok (.iload 5, 2) := by decide +kernel
theorem dX4_state_22 : decode cX4_state 22 = .ok (.bipush 6, 2) := by decide +kernel
theorem dX4_state_24 : decode cX4_state 24 = .ok (.if_icmp .ge 115, 3) := by decide +kernel
theorem dX4_state_27 : decode cX4_state 27 = .ok (.bipush 6, 2) := by decide +kernel
theorem dX4_state_29 : decode cX4_state 29 = .ok (.iload_n 1, 1) := by decide +kernel
theorem dX4_state_30 : decode cX4_state 30 = .ok (.imul, 1) := by decide +kernel
theorem dX4_state_31 : decode cX4_state 31 = .ok (.iload 5, 2) := by decide +kernel
theorem dX4_state_33 : decode cX4_state 33 = .ok (.iadd, 1) := by decide +kernel
theorem dX4_state_34 : decode cX4_state 34 = .ok (.istore 6, 2) := by decide +kernel
theorem dX4_state_36 : decode cX4_state 36 = .ok (.iload_n 2, 1) := by decide +kernel
theorem dX4_state_37 : decode cX4_state 37 = .ok (.ifCond .ne 24, 3) := by decide +kernel
theorem dX4_state_40 : decode cX4_state 40 = .ok (.aload_n 0, 1) := by decide +kernel
theorem dX4_state_41 : decode cX4_state 41 = .ok (.getfield 23, 3) := by decide +kernel
theorem dX4_state_44 : decode cX4_state 44 = .ok (.iload 6, 2) := by decide +kernel
theorem dX4_state_46 : decode cX4_state 46 = .ok (.baload, 1) := by decide +kernel
theorem dX4_state_47 : decode cX4_state 47 = .ok (.ifCond .eq 18, 3) := by decide +kernel
theorem dX4_state_50 : decode cX4_state 50 = .ok (.aload_n 0, 1) := by decide +kernel
theorem dX4_state_51 : decode cX4_state 51 = .ok (.getfield 33, 3) := by decide +kernel
theorem dX4_state_54 : decode cX4_state 54 = .ok (.iload 6, 2) := by decide +kernel
theorem dX4_state_56 : decode cX4_state 56 = .ok (.iaload, 1) := by decide +kernel
theorem dX4_state_57 : decode cX4_state 57 = .ok (.iconst 2, 1) := by decide +kernel
theorem dX4_state_58 : decode cX4_state 58 = .ok (.if_icmp .ne 7, 3) := by decide +kernel
theorem dX4_state_61 : decode cX4_state 61 = .ok (.iconst 1, 1) := by decide +kernel
theorem dX4_state_62 : decode cX4_state 62 = .ok (.goto 4, 3) := by decide +kernel
theorem dX4_state_65 : decode cX4_state 65 = .ok (.iconst 0, 1) := by decide +kernel
theorem dX4_state_66 : decode cX4_state 66 = .ok (.istore_n 2, 1) := by decide +kernel
theorem dX4_state_67 : decode cX4_state 67 = .ok (.iload_n 3, 1) := by decide +kernel
theorem dX4_state_68 : decode cX4_state 68 = .ok (.ifCond .ne 13, 3) := by decide +kernel
theorem dX4_state_71 : decode cX4_state 71 = .ok (.aload_n 0, 1) := by decide +kernel
theorem dX4_state_72 : decode cX4_state 72 = .ok (.getfield 23, 3) := by decide +kernel
theorem dX4_state_75 : decode cX4_state 75 = .ok (.iload 6, 2) := by decide +kernel
theorem dX4_state_77 : decode cX4_state 77 = .ok (.baload, 1) := by decide +kernel
theorem dX4_state_78 : decode cX4_state 78 = .ok (.ifCond .eq 7, 3) := by decide +kernel
theorem dX4_state_81 : decode cX4_state 81 = .ok (.iconst 1, 1) := by decide +kernel
theorem dX4_state_82 : decode cX4_state 82 = .ok (.goto 4, 3) := by decide +kernel
theorem dX4_state_85 : decode cX4_state 85 = .ok (.iconst 0, 1) := by decide +kernel
theorem dX4_state_86 : decode cX4_state 86 = .ok (.istore_n 3, 1) := by decide +kernel
theorem dX4_state_87 : decode cX4_state 87 = .ok (.iload 4, 2) := by decide +kernel
theorem dX4_state_89 : decode cX4_state 89 = .ok (.ifCond .eq 41, 3) := by decide +kernel
theorem dX4_state_92 : decode cX4_state 92 = .ok (.aload_n 0, 1) := by decide +kernel
theorem dX4_state_93 : decode cX4_state 93 = .ok (.getfield 23, 3) := by decide +kernel
theorem dX4_state_96 : decode cX4_state 96 = .ok (.iload 6, 2) := by decide +kernel
theorem dX4_state_98 : decode cX4_state 98 = .ok (.baload, 1) := by decide +kernel
theorem dX4_state_99 : decode cX4_state 99 = .ok (.ifCond .eq 27, 3) := by decide +kernel
theorem dX4_state_102 : decode cX4_state 102 = .ok (.aload_n 0, 1) := by decide +kernel
theorem dX4_state_103 : decode cX4_state 103 = .ok (.getfield 33, 3) := by decide +kernel
theorem dX4_state_106 : decode cX4_state 106 = .ok (.iload 6, 2) := by decide +kernel
theorem dX4_state_108 : decode cX4_state 108 = .ok (.iaload, 1) := by decide +kernel
theorem dX4_state_109 : decode cX4_state 109 = .ok (.iconst 1, 1) := by decide +kernel
theorem dX4_state_110 : decode cX4_state 110 = .ok (.if_icmp .eq 16, 3) := by decide +kernel
theorem dX4_state_113 : decode cX4_state 113 = .ok (.aload_n 0, 1) := by decide +kernel
theorem dX4_state_114 : decode cX4_state 114 = .ok (.iload 6, 2) := by decide +kernel
theorem dX4_state_116 : decode cX4_state 116 = .ok (.aload_n 0, 1) := by decide +kernel
theorem dX4_state_117 : decode cX4_state 117 = .ok (.getfield 73, 3) := by decide +kernel
theorem dX4_state_120 : decode cX4_state 120 = .ok (.invokevirtual 82, 3) := by decide +kernel
theorem dX4_state_123 : decode cX4_state 123 = .ok (.ifCond .eq 7, 3) := by decide +kernel
theorem dX4_state_126 : decode cX4_state 126 = .ok (.iconst 1, 1) := by decide +kernel
theorem dX4_state_127 : decode cX4_state 127 = .ok (.goto 4, 3) := by decide +kernel
theorem dX4_state_130 : decode cX4_state 130 = .ok (.iconst 0, 1) := by decide +kernel
theorem dX4_state_131 : decode cX4_state 131 = .ok (.istore 4, 2) := by decide +kernel
theorem dX4_state_133 : decode cX4_state 133 = .ok (.iinc 5 1, 3) := by decide +kernel
theorem dX4_state_136 : decode cX4_state 136 = .ok (.goto (-116), 3) := by decide +kernel
theorem dX4_state_139 : decode cX4_state 139 = .ok (.iload_n 2, 1) := by decide +kernel
theorem dX4_state_140 : decode cX4_state 140 = .ok (.ifCond .eq 5, 3) := by decide +kernel
theorem dX4_state_143 : decode cX4_state 143 = .ok (.iconst 2, 1) := by decide +kernel
theorem dX4_state_144 : decode cX4_state 144 = .ok (.ireturn, 1) := by decide +kernel
theorem dX4_state_145 : decode cX4_state 145 = .ok (.aload_n 0, 1) := by decide +kernel
theorem dX4_state_146 : decode cX4_state 146 = .ok (.getfield 73, 3) := by decide +kernel
theorem dX4_state_149 : decode cX4_state 149 = .ok (.aload_n 0, 1) := by decide +kernel
theorem dX4_state_150 : decode cX4_state 150 = .ok (.getfield 17, 3) := by decide +kernel
theorem dX4_state_153 : decode cX4_state 153 = .ok (.iload_n 1, 1) := by decide +kernel
theorem dX4_state_154 : decode cX4_state 154 = .ok (.iaload, 1) := by decide +kernel
theorem dX4_state_155 : decode cX4_state 155 = .ok (.if_icmp .le 5, 3) := by decide +kernel
theorem dX4_state_158 : decode cX4_state 158 = .ok (.iconst 3, 1) := by decide +kernel
theorem dX4_state_159 : decode cX4_state 159 = .ok (.ireturn, 1) := by decide +kernel
theorem dX4_state_160 : decode cX4_state 160 = .ok (.iload_n 3, 1) := by decide +kernel
theorem dX4_state_161 : decode cX4_state 161 = .ok (.ifCond .eq 12, 3) := by decide +kernel
theorem dX4_state_164 : decode cX4_state 164 = .ok (.iload 4, 2) := by decide +kernel
theorem dX4_state_166 : decode cX4_state 166 = .ok (.ifCond .eq 7, 3) := by decide +kernel
theorem dX4_state_169 : decode cX4_state 169 = .ok (.iconst 1, 1) := by decide +kernel
theorem dX4_state_170 : decode cX4_state 170 = .ok (.goto 4, 3) := by decide +kernel
theorem dX4_state_173 : decode cX4_state 173 = .ok (.iconst 0, 1) := by decide +kernel
theorem dX4_state_174 : decode cX4_state 174 = .ok (.ireturn, 1) := by decide +kernel
theorem dX4_move_0 : decode cX4_move 0 = .ok (.aload_n 0, 1) := by decide +kernel
theorem dX4_move_1 : decode cX4_move 1 = .ok (.iload_n 1, 1) := by decide +kernel
theorem dX4_move_2 : decode cX4_move 2 = .ok (.invokevirtual 88, 3) := by decide +kernel
theorem dX4_move_5 : decode cX4_move 5 = .ok (.ifCond .eq 52, 3) := by decide +kernel
theorem dX4_move_8 : decode cX4_move 8 = .ok (.lload_n 2, 1) := by decide +kernel
theorem dX4_move_9 : decode cX4_move 9 = .ok (.lconst 1, 1) := by decide +kernel
theorem dX4_move_10 : decode cX4_move 10 = .ok (.lcmp, 1) := by decide +kernel
theorem dX4_move_11 : decode cX4_move 11 = .ok (.ifCond .lt 46, 3) := by decide +kernel
theorem dX4_move_14 : decode cX4_move 14 = .ok (.iload 4, 2) := by decide +kernel
theorem dX4_move_16 : decode cX4_move 16 = .ok (.i2l, 1) := by decide +kernel
theorem dX4_move_17 : decode cX4_move 17 = .ok (.aload_n 0, 1) := by decide +kernel
theorem dX4_move_18 : decode cX4_move 18 = .ok (.getfield 13, 3) := by decide +kernel
theorem dX4_move_21 : decode cX4_move 21 = .ok (.iload_n 1, 1) := by decide +kernel
theorem dX4_move_22 : decode cX4_move 22 = .ok (.iaload, 1) := by decide +kernel
theorem dX4_move_23 : decode cX4_move 23 = .ok (.i2l, 1) := by decide +kernel
theorem dX4_move_24 : decode cX4_move 24 = .ok (.aload_n 0, 1) := by decide +kernel
theorem dX4_move_25 : decode cX4_move 25 = .ok (.getfield 17, 3) := by decide +kernel
theorem dX4_move_28 : decode cX4_move 28 = .ok (.iload_n 1, 1) := by decide +kernel
theorem dX4_move_29 : decode cX4_move 29 = .ok (.iaload, 1) := by decide +kernel
theorem dX4_move_30 : decode cX4_move 30 = .ok (.i2l, 1) := by decide +kernel
theorem dX4_move_31 : decode cX4_move 31 = .ok (.invokestatic 78, 3) := by decide +kernel
theorem dX4_move_34 : decode cX4_move 34 = .ok (.ifCond .eq 23, 3) := by decide +kernel
theorem dX4_move_37 : decode cX4_move 37 = .ok (.iload 4, 2) := by decide +kernel
theorem dX4_move_39 : decode cX4_move 39 = .ok (.aload_n 0, 1) := by decide +kernel
theorem dX4_move_40 : decode cX4_move 40 = .ok (.getfield 73, 3) := by decide +kernel
theorem dX4_move_43 : decode cX4_move 43 = .ok (.iconst 3, 1) := by decide +kernel
theorem dX4_move_44 : decode cX4_move 44 = .ok (.iadd, 1) := by decide +kernel
theorem dX4_move_45 : decode cX4_move 45 = .ok (.if_icmp .lt 12, 3) := by decide +kernel
theorem dX4_move_48 : decode cX4_move 48 = .ok (.aload_n 0, 1) := by decide +kernel
theorem dX4_move_49 : decode cX4_move 49 = .ok (.getfield 70, 3) := by decide +kernel
theorem dX4_move_52 : decode cX4_move 52 = .ok (.bipush 12, 2) := by decide +kernel
theorem dX4_move_54 : decode cX4_move 54 = .ok (.if_icmp .ne 5, 3) := by decide +kernel
theorem dX4_move_57 : decode cX4_move 57 = .ok (.iconst (-1), 1) := by decide +kernel
theorem dX4_move_58 : decode cX4_move 58 = .ok (.ireturn, 1) := by decide +kernel
theorem dX4_move_59 : decode cX4_move 59 = .ok (.aload_n 0, 1) := by decide +kernel
theorem dX4_move_60 : decode cX4_move 60 = .ok (.iload_n 1, 1) := by decide +kernel
theorem dX4_move_61 : decode cX4_move 61 = .ok (.invokevirtual 97, 3) := by decide +kernel
theorem dX4_move_64 : decode cX4_move 64 = .ok (.iconst 1, 1) := by decide +kernel
theorem dX4_move_65 : decode cX4_move 65 = .ok (.if_icmp .eq 6, 3) := by decide +kernel
theorem dX4_move_68 : decode cX4_move 68 = .ok (.bipush (-2), 2) := by decide +kernel
theorem dX4_move_70 : decode cX4_move 70 = .ok (.ireturn, 1) := by decide +kernel
theorem dX4_move_71 : decode cX4_move 71 = .ok (.lload_n 2, 1) := by decide +kernel
theorem dX4_move_72 : decode cX4_move 72 = .ok (.aload_n 0, 1) := by decide +kernel
theorem dX4_move_73 : decode cX4_move 73 = .ok (.iload_n 1, 1) := by decide +kernel
theorem dX4_move_74 : decode cX4_move 74 = .ok (.invokevirtual 101, 3) := by decide +kernel
theorem dX4_move_77 : decode cX4_move 77 = .ok (.lcmp, 1) := by decide +kernel
theorem dX4_move_78 : decode cX4_move 78 = .ok (.ifCond .le 6, 3) := by decide +kernel
theorem dX4_move_81 : decode cX4_move 81 = .ok (.bipush (-3), 2) := by decide +kernel
theorem dX4_move_83 : decode cX4_move 83 = .ok (.ireturn, 1) := by decide +kernel
theorem dX4_move_84 : decode cX4_move 84 = .ok (.aload_n 0, 1) := by decide +kernel
theorem dX4_move_85 : decode cX4_move 85 = .ok (.getfield 36, 3) := by decide +kernel
theorem dX4_move_88 : decode cX4_move 88 = .ok (.aload_n 0, 1) := by decide +kernel
theorem dX4_move_89 : decode cX4_move 89 = .ok (.getfield 70, 3) := by decide +kernel
theorem dX4_move_92 : decode cX4_move 92 = .ok (.iload_n 1, 1) := by decide +kernel
theorem dX4_move_93 : decode cX4_move 93 = .ok (.iastore, 1) := by decide +kernel
theorem dX4_move_94 : decode cX4_move 94 = .ok (.aload_n 0, 1) := by decide +kernel
theorem dX4_move_95 : decode cX4_move 95 = .ok (.getfield 39, 3) := by decide +kernel
theorem dX4_move_98 : decode cX4_move 98 = .ok (.aload_n 0, 1) := by decide +kernel
theorem dX4_move_99 : decode cX4_move 99 = .ok (.getfield 70, 3) := by decide +kernel
theorem dX4_move_102 : decode cX4_move 102 = .ok (.lload_n 2, 1) := by decide +kernel
theorem dX4_move_103 : decode cX4_move 103 = .ok (.lastore, 1) := by decide +kernel
theorem dX4_move_104 : decode cX4_move 104 = .ok (.aload_n 0, 1) := by decide +kernel
theorem dX4_move_105 : decode cX4_move 105 = .ok (.getfield 42, 3) := by decide +kernel
theorem dX4_move_108 : decode cX4_move 108 = .ok (.aload_n 0, 1) := by decide +kernel
theorem dX4_move_109 : decode cX4_move 109 = .ok (.getfield 70, 3) := by decide +kernel
theorem dX4_move_112 : decode cX4_move 112 = .ok (.iload 4, 2) := by decide +kernel
theorem dX4_move_114 : decode cX4_move 114 = .ok (.iastore, 1) := by decide +kernel
theorem dX4_move_115 : decode cX4_move 115 = .ok (.aload_n 0, 1) := by decide +kernel
theorem dX4_move_116 : decode cX4_move 116 = .ok (.getfield 45, 3) := by decide +kernel
theorem dX4_move_119 : decode cX4_move 119 = .ok (.aload_n 0, 1) := by decide +kernel
theorem dX4_move_120 : decode cX4_move 120 = .ok (.getfield 70, 3) := by decide +kernel
theorem dX4_move_123 : decode cX4_move 123 = .ok (.iconst 0, 1) := by decide +kernel
theorem dX4_move_124 : decode cX4_move 124 = .ok (.iastore, 1) := by decide +kernel
theorem dX4_move_125 : decode cX4_move 125 = .ok (.aload_n 0, 1) := by decide +kernel
theorem dX4_move_126 : decode cX4_move 126 = .ok (.getfield 48, 3) := by decide +kernel
theorem dX4_move_129 : decode cX4_move 129 = .ok (.aload_n 0, 1) := by decide +kernel
theorem dX4_move_130 : decode cX4_move 130 = .ok (.getfield 70, 3) := by decide +kernel
theorem dX4_move_133 : decode cX4_move 133 = .ok (.aload_n 0, 1) := by decide +kernel
theorem dX4_move_134 : decode cX4_move 134 = .ok (.getfield 73, 3) := by decide +kernel
theorem dX4_move_137 : decode cX4_move 137 = .ok (.iastore, 1) := by decide +kernel
theorem dX4_move_138 : decode cX4_move 138 = .ok (.aload_n 0, 1) := by decide +kernel
theorem dX4_move_139 : decode cX4_move 139 = .ok (.dup, 1) := by decide +kernel
theorem dX4_move_140 : decode cX4_move 140 = .ok (.getfield 70, 3) := by decide +kernel
theorem dX4_move_143 : decode cX4_move 143 = .ok (.iconst 1, 1) := by decide +kernel
theorem dX4_move_144 : decode cX4_move 144 = .ok (.iadd, 1) := by decide +kernel
theorem dX4_move_145 : decode cX4_move 145 = .ok (.putfield 70, 3) := by decide +kernel
theorem dX4_move_148 : decode cX4_move 148 = .ok (.aload_n 0, 1) := by decide +kernel
theorem dX4_move_149 : decode cX4_move 149 = .ok (.getfield 70, 3) := by decide +kernel
theorem dX4_move_152 : decode cX4_move 152 = .ok (.iconst 1, 1) := by decide +kernel
theorem dX4_move_153 : decode cX4_move 153 = .ok (.isub, 1) := by decide +kernel
theorem dX4_move_154 : decode cX4_move 154 = .ok (.ireturn, 1) := by decide +kernel
theorem dX4_moveState_0 : decode cX4_moveState 0 = .ok (.aload_n 0, 1) := by decide +kernel
theorem dX4_moveState_1 : decode cX4_moveState 1 = .ok (.iload_n 1, 1) := by decide +kernel
theorem dX4_moveState_2 : decode cX4_moveState 2 = .ok (.invokevirtual 105, 3) := by decide +kernel
theorem dX4_moveState_5 : decode cX4_moveState 5 = .ok (.ifCond .eq 12, 3) := by decide +kernel
theorem dX4_moveState_8 : decode cX4_moveState 8 = .ok (.aload_n 0, 1) := by decide +kernel
theorem dX4_moveState_9 : decode cX4_moveState 9 = .ok (.getfield 45, 3) := by decide +kernel
theorem dX4_moveState_12 : decode cX4_moveState 12 = .ok (.iload_n 1, 1) := by decide +kernel
theorem dX4_moveState_13 : decode cX4_moveState 13 = .ok (.iaload, 1) := by decide +kernel
theorem dX4_moveState_14 : decode cX4_moveState 14 = .ok (.goto 4, 3) := by decide +kernel
theorem dX4_moveState_17 : decode cX4_moveState 17 = .ok (.iconst (-1), 1) := by decide +kernel
theorem dX4_moveState_18 : decode cX4_moveState 18 = .ok (.ireturn, 1) := by decide +kernel
theorem dX4_right_0 : decode cX4_right 0 = .ok (.iload_n 1, 1) := by decide +kernel
theorem dX4_right_1 : decode cX4_right 1 = .ok (.invokestatic 108, 3) := by decide +kernel
theorem dX4_right_4 : decode cX4_right 4 = .ok (.ifCond .eq 10, 3) := by decide +kernel
theorem dX4_right_7 : decode cX4_right 7 = .ok (.iload_n 2, 1) := by decide +kernel
theorem dX4_right_8 : decode cX4_right 8 = .ok (.invokestatic 111, 3) := by decide +kernel
theorem dX4_right_11 : decode cX4_right 11 = .ok (.ifCond .ne 5, 3) := by decide +kernel
theorem dX4_right_14 : decode cX4_right 14 = .ok (.iconst 0, 1) := by decide +kernel
theorem dX4_right_15 : decode cX4_right 15 = .ok (.ireturn, 1) := by decide +kernel
theorem dX4_right_16 : decode cX4_right 16 = .ok (.aload_n 0, 1) := by decide +kernel
theorem dX4_right_17 : decode cX4_right 17 = .ok (.getfield 60, 3) := by decide +kernel
theorem dX4_right_20 : decode cX4_right 20 = .ok (.iconst 5, 1) := by decide +kernel
theorem dX4_right_21 : decode cX4_right 21 = .ok (.iload_n 1, 1) := by decide +kernel
theorem dX4_right_22 : decode cX4_right 22 = .ok (.imul, 1) := by decide +kernel
theorem dX4_right_23 : decode cX4_right 23 = .ok (.iload_n 2, 1) := by decide +kernel
theorem dX4_right_24 : decode cX4_right 24 = .ok (.iadd, 1) := by decide +kernel
theorem dX4_right_25 : decode cX4_right 25 = .ok (.iload_n 3, 1) := by decide +kernel
theorem dX4_right_26 : decode cX4_right 26 = .ok (.bastore, 1) := by decide +kernel
theorem dX4_right_27 : decode cX4_right 27 = .ok (.iconst 1, 1) := by decide +kernel
theorem dX4_right_28 : decode cX4_right 28 = .ok (.ireturn, 1) := by decide +kernel
theorem dX4_may_0 : decode cX4_may 0 = .ok (.iload_n 1, 1) := by decide +kernel
theorem dX4_may_1 : decode cX4_may 1 = .ok (.invokestatic 108, 3) := by decide +kernel
theorem dX4_may_4 : decode cX4_may 4 = .ok (.ifCond .eq 27, 3) := by decide +kernel
theorem dX4_may_7 : decode cX4_may 7 = .ok (.iload_n 2, 1) := by decide +kernel
theorem dX4_may_8 : decode cX4_may 8 = .ok (.invokestatic 111, 3) := by decide +kernel
theorem dX4_may_11 : decode cX4_may 11 = .ok (.ifCond .eq 20, 3) := by decide +kernel
theorem dX4_may_14 : decode cX4_may 14 = .ok (.aload_n 0, 1) := by decide +kernel
theorem dX4_may_15 : decode cX4_may 15 = .ok (.getfield 60, 3) := by decide +kernel
theorem dX4_may_18 : decode cX4_may 18 = .ok (.iconst 5, 1) := by decide +kernel
theorem dX4_may_19 : decode cX4_may 19 = .ok (.iload_n 1, 1) := by decide +kernel
theorem dX4_may_20 : decode cX4_may 20 = .ok (.imul, 1) := by decide +kernel
theorem dX4_may_21 : decode cX4_may 21 = .ok (.iload_n 2, 1) := by decide +kernel
theorem dX4_may_22 : decode cX4_may 22 = .ok (.iadd, 1) := by decide +kernel
theorem dX4_may_23 : decode cX4_may 23 = .ok (.baload, 1) := by decide +kernel
theorem dX4_may_24 : decode cX4_may 24 = .ok (.ifCond .eq 7, 3) := by decide +kernel
theorem dX4_may_27 : decode cX4_may 27 = .ok (.iconst 1, 1) := by decide +kernel
theorem dX4_may_28 : decode cX4_may 28 = .ok (.goto 4, 3) := by decide +kernel
theorem dX4_may_31 : decode cX4_may 31 = .ok (.iconst 0, 1) := by decide +kernel
theorem dX4_may_32 : decode cX4_may 32 = .ok (.ireturn, 1) := by decide +kernel
theorem dX4_leads_0 : decode cX4_leads 0 = .ok (.iload_n 1, 1) := by decide +kernel
theorem dX4_leads_1 : decode cX4_leads 1 = .ok (.tableswitch 67 0 4 #[35, 45, 56, 67, 35], 35) := by decide +kernel
theorem dX4_leads_36 : decode cX4_leads 36 = .ok (.iload_n 0, 1) := by decide +kernel
theorem dX4_leads_37 : decode cX4_leads 37 = .ok (.ifCond .ne 7, 3) := by decide +kernel
theorem dX4_leads_40 : decode cX4_leads 40 = .ok (.iconst 1, 1) := by decide +kernel
theorem dX4_leads_41 : decode cX4_leads 41 = .ok (.goto 4, 3) := by decide +kernel
theorem dX4_leads_44 : decode cX4_leads 44 = .ok (.iconst 0, 1) := by decide +kernel
theorem dX4_leads_45 : decode cX4_leads 45 = .ok (.ireturn, 1) := by decide +kernel
theorem dX4_leads_46 : decode cX4_leads 46 = .ok (.iload_n 0, 1) := by decide +kernel
theorem dX4_leads_47 : decode cX4_leads 47 = .ok (.iconst 1, 1) := by decide +kernel
theorem dX4_leads_48 : decode cX4_leads 48 = .ok (.if_icmp .ne 7, 3) := by decide +kernel
theorem dX4_leads_51 : decode cX4_leads 51 = .ok (.iconst 1, 1) := by decide +kernel
theorem dX4_leads_52 : decode cX4_leads 52 = .ok (.goto 4, 3) := by decide +kernel
theorem dX4_leads_55 : decode cX4_leads 55 = .ok (.iconst 0, 1) := by decide +kernel
theorem dX4_leads_56 : decode cX4_leads 56 = .ok (.ireturn, 1) := by decide +kernel
theorem dX4_leads_57 : decode cX4_leads 57 = .ok (.iload_n 0, 1) := by decide +kernel
theorem dX4_leads_58 : decode cX4_leads 58 = .ok (.iconst 2, 1) := by decide +kernel
theorem dX4_leads_59 : decode cX4_leads 59 = .ok (.if_icmp .ne 7, 3) := by decide +kernel
theorem dX4_leads_62 : decode cX4_leads 62 = .ok (.iconst 1, 1) := by decide +kernel
theorem dX4_leads_63 : decode cX4_leads 63 = .ok (.goto 4, 3) := by decide +kernel
theorem dX4_leads_66 : decode cX4_leads 66 = .ok (.iconst 0, 1) := by decide +kernel
theorem dX4_leads_67 : decode cX4_leads 67 = .ok (.ireturn, 1) := by decide +kernel
theorem dX4_leads_68 : decode cX4_leads 68 = .ok (.iload_n 0, 1) := by decide +kernel
theorem dX4_leads_69 : decode cX4_leads 69 = .ok (.iconst 1, 1) := by decide +kernel
theorem dX4_leads_70 : decode cX4_leads 70 = .ok (.if_icmp .eq 8, 3) := by decide +kernel
theorem dX4_leads_73 : decode cX4_leads 73 = .ok (.iload_n 0, 1) := by decide +kernel
theorem dX4_leads_74 : decode cX4_leads 74 = .ok (.iconst 2, 1) := by decide +kernel
theorem dX4_leads_75 : decode cX4_leads 75 = .ok (.if_icmp .ne 7, 3) := by decide +kernel
theorem dX4_leads_78 : decode cX4_leads 78 = .ok (.iconst 1, 1) := by decide +kernel
theorem dX4_leads_79 : decode cX4_leads 79 = .ok (.goto 4, 3) := by decide +kernel
theorem dX4_leads_82 : decode cX4_leads 82 = .ok (.iconst 0, 1) := by decide +kernel
theorem dX4_leads_83 : decode cX4_leads 83 = .ok (.ireturn, 1) := by decide +kernel
theorem dX4_event_0 : decode cX4_event 0 = .ok (.aload_n 0, 1) := by decide +kernel
theorem dX4_event_1 : decode cX4_event 1 = .ok (.iload_n 1, 1) := by decide +kernel
theorem dX4_event_2 : decode cX4_event 2 = .ok (.invokevirtual 105, 3) := by decide +kernel
theorem dX4_event_5 : decode cX4_event 5 = .ok (.ifCond .eq 17, 3) := by decide +kernel
theorem dX4_event_8 : decode cX4_event 8 = .ok (.iload_n 2, 1) := by decide +kernel
theorem dX4_event_9 : decode cX4_event 9 = .ok (.invokestatic 111, 3) := by decide +kernel
theorem dX4_event_12 : decode cX4_event 12 = .ok (.ifCond .eq 10, 3) := by decide +kernel
theorem dX4_event_15 : decode cX4_event 15 = .ok (.iload_n 3, 1) := by decide +kernel
theorem dX4_event_16 : decode cX4_event 16 = .ok (.invokestatic 108, 3) := by decide +kernel
theorem dX4_event_19 : decode cX4_event 19 = .ok (.ifCond .ne 5, 3) := by decide +kernel
theorem dX4_event_22 : decode cX4_event 22 = .ok (.iconst (-1), 1) := by decide +kernel
theorem dX4_event_23 : decode cX4_event 23 = .ok (.ireturn, 1) := by decide +kernel
theorem dX4_event_24 : decode cX4_event 24 = .ok (.aload_n 0, 1) := by decide +kernel
theorem dX4_event_25 : decode cX4_event 25 = .ok (.iload_n 3, 1) := by decide +kernel
theorem dX4_event_26 : decode cX4_event 26 = .ok (.iload_n 2, 1) := by decide +kernel
theorem dX4_event_27 : decode cX4_event 27 = .ok (.invokevirtual 114, 3) := by decide +kernel
theorem dX4_event_30 : decode cX4_event 30 = .ok (.ifCond .ne 6, 3) := by decide +kernel
theorem dX4_event_33 : decode cX4_event 33 = .ok (.bipush (-2), 2) := by decide +kernel
theorem dX4_event_35 : decode cX4_event 35 = .ok (.ireturn, 1) := by decide +kernel
theorem dX4_event_36 : decode cX4_event 36 = .ok (.aload_n 0, 1) := by decide +kernel
theorem dX4_event_37 : decode cX4_event 37 = .ok (.getfield 45, 3) := by decide +kernel
theorem dX4_event_40 : decode cX4_event 40 = .ok (.iload_n 1, 1) := by decide +kernel
theorem dX4_event_41 : decode cX4_event 41 = .ok (.iaload, 1) := by decide +kernel
theorem dX4_event_42 : decode cX4_event 42 = .ok (.iload_n 2, 1) := by decide +kernel
theorem dX4_event_43 : decode cX4_event 43 = .ok (.invokestatic 117, 3) := by decide +kernel
theorem dX4_event_46 : decode cX4_event 46 = .ok (.ifCond .ne 6, 3) := by decide +kernel
theorem dX4_event_49 : decode cX4_event 49 = .ok (.bipush (-3), 2) := by decide +kernel
theorem dX4_event_51 : decode cX4_event 51 = .ok (.ireturn, 1) := by decide +kernel
theorem dX4_event_52 : decode cX4_event 52 = .ok (.iload_n 2, 1) := by decide +kernel
theorem dX4_event_53 : decode cX4_event 53 = .ok (.ifCond .ne 33, 3) := by decide +kernel
theorem dX4_event_56 : decode cX4_event 56 = .ok (.aload_n 0, 1) := by decide +kernel
theorem dX4_event_57 : decode cX4_event 57 = .ok (.getfield 73, 3) := by decide +kernel
theorem dX4_event_60 : decode cX4_event 60 = .ok (.aload_n 0, 1) := by decide +kernel
theorem dX4_event_61 : decode cX4_event 61 = .ok (.getfield 42, 3) := by decide +kernel
theorem dX4_event_64 : decode cX4_event 64 = .ok (.iload_n 1, 1) := by decide +kernel
theorem dX4_event_65 : decode cX4_event 65 = .ok (.iaload, 1) := by decide +kernel
theorem dX4_event_66 : decode cX4_event 66 = .ok (.if_icmp .lt 17, 3) := by decide +kernel
theorem dX4_event_69 : decode cX4_event 69 = .ok (.aload_n 0, 1) := by decide +kernel
theorem dX4_event_70 : decode cX4_event 70 = .ok (.aload_n 0, 1) := by decide +kernel
theorem dX4_event_71 : decode cX4_event 71 = .ok (.getfield 36, 3) := by decide +kernel
theorem dX4_event_74 : decode cX4_event 74 = .ok (.iload_n 1, 1) := by decide +kernel
theorem dX4_event_75 : decode cX4_event 75 = .ok (.iaload, 1) := by decide +kernel
theorem dX4_event_76 : decode cX4_event 76 = .ok (.invokevirtual 97, 3) := by decide +kernel
theorem dX4_event_79 : decode cX4_event 79 = .ok (.iconst 1, 1) := by decide +kernel
theorem dX4_event_80 : decode cX4_event 80 = .ok (.if_icmp .eq 6, 3) := by decide +kernel
theorem dX4_event_83 : decode cX4_event 83 = .ok (.bipush (-4), 2) := by decide +kernel
theorem dX4_event_85 : decode cX4_event 85 = .ok (.ireturn, 1) := by decide +kernel
theorem dX4_event_86 : decode cX4_event 86 = .ok (.iload_n 2, 1) := by decide +kernel
theorem dX4_event_87 : decode cX4_event 87 = .ok (.iconst 2, 1) := by decide +kernel
theorem dX4_event_88 : decode cX4_event 88 = .ok (.if_icmp .ne 15, 3) := by decide +kernel
theorem dX4_event_91 : decode cX4_event 91 = .ok (.aload_n 0, 1) := by decide +kernel
theorem dX4_event_92 : decode cX4_event 92 = .ok (.getfield 51, 3) := by decide +kernel
theorem dX4_event_95 : decode cX4_event 95 = .ok (.iload_n 1, 1) := by decide +kernel
theorem dX4_event_96 : decode cX4_event 96 = .ok (.baload, 1) := by decide +kernel
theorem dX4_event_97 : decode cX4_event 97 = .ok (.ifCond .ne 6, 3) := by decide +kernel
theorem dX4_event_100 : decode cX4_event 100 = .ok (.bipush (-5), 2) := by decide +kernel
theorem dX4_event_102 : decode cX4_event 102 = .ok (.ireturn, 1) := by decide +kernel
theorem dX4_event_103 : decode cX4_event 103 = .ok (.aload_n 0, 1) := by decide +kernel
theorem dX4_event_104 : decode cX4_event 104 = .ok (.getfield 45, 3) := by decide +kernel
theorem dX4_event_107 : decode cX4_event 107 = .ok (.iload_n 1, 1) := by decide +kernel
theorem dX4_event_108 : decode cX4_event 108 = .ok (.iload_n 2, 1) := by decide +kernel
theorem dX4_event_109 : decode cX4_event 109 = .ok (.iconst 1, 1) := by decide +kernel
theorem dX4_event_110 : decode cX4_event 110 = .ok (.iadd, 1) := by decide +kernel
theorem dX4_event_111 : decode cX4_event 111 = .ok (.iastore, 1) := by decide +kernel
theorem dX4_event_112 : decode cX4_event 112 = .ok (.aload_n 0, 1) := by decide +kernel
theorem dX4_event_113 : decode cX4_event 113 = .ok (.getfield 48, 3) := by decide +kernel
theorem dX4_event_116 : decode cX4_event 116 = .ok (.iload_n 1, 1) := by decide +kernel
theorem dX4_event_117 : decode cX4_event 117 = .ok (.aload_n 0, 1) := by decide +kernel
theorem dX4_event_118 : decode cX4_event 118 = .ok (.getfield 73, 3) := by decide +kernel
theorem dX4_event_121 : decode cX4_event 121 = .ok (.iastore, 1) := by decide +kernel
theorem dX4_event_122 : decode cX4_event 122 = .ok (.aload_n 0, 1) := by decide +kernel
theorem dX4_event_123 : decode cX4_event 123 = .ok (.getfield 45, 3) := by decide +kernel
theorem dX4_event_126 : decode cX4_event 126 = .ok (.iload_n 1, 1) := by decide +kernel
theorem dX4_event_127 : decode cX4_event 127 = .ok (.iaload, 1) := by decide +kernel
theorem dX4_event_128 : decode cX4_event 128 = .ok (.ireturn, 1) := by decide +kernel
theorem dX4_mark_0 : decode cX4_mark 0 = .ok (.aload_n 0, 1) := by decide +kernel
theorem dX4_mark_1 : decode cX4_mark 1 = .ok (.iload_n 1, 1) := by decide +kernel
theorem dX4_mark_2 : decode cX4_mark 2 = .ok (.invokevirtual 105, 3) := by decide +kernel
theorem dX4_mark_5 : decode cX4_mark 5 = .ok (.ifCond .eq 45, 3) := by decide +kernel
theorem dX4_mark_8 : decode cX4_mark 8 = .ok (.iload_n 2, 1) := by decide +kernel
theorem dX4_mark_9 : decode cX4_mark 9 = .ok (.iload_n 3, 1) := by decide +kernel
theorem dX4_mark_10 : decode cX4_mark 10 = .ok (.if_icmp .eq 40, 3) := by decide +kernel
theorem dX4_mark_13 : decode cX4_mark 13 = .ok (.aload_n 0, 1) := by decide +kernel
theorem dX4_mark_14 : decode cX4_mark 14 = .ok (.iload_n 2, 1) := by decide +kernel
theorem dX4_mark_15 : decode cX4_mark 15 = .ok (.iconst 2, 1) := by decide +kernel
theorem dX4_mark_16 : decode cX4_mark 16 = .ok (.invokevirtual 114, 3) := by decide +kernel
theorem dX4_mark_19 : decode cX4_mark 19 = .ok (.ifCond .eq 31, 3) := by decide +kernel
theorem dX4_mark_22 : decode cX4_mark 22 = .ok (.aload_n 0, 1) := by decide +kernel
theorem dX4_mark_23 : decode cX4_mark 23 = .ok (.iload_n 3, 1) := by decide +kernel
theorem dX4_mark_24 : decode cX4_mark 24 = .ok (.iconst 2, 1) := by decide +kernel
theorem dX4_mark_25 : decode cX4_mark 25 = .ok (.invokevirtual 114, 3) := by decide +kernel
theorem dX4_mark_28 : decode cX4_mark 28 = .ok (.ifCond .eq 22, 3) := by decide +kernel
theorem dX4_mark_31 : decode cX4_mark 31 = .ok (.aload_n 0, 1) := by decide +kernel
theorem dX4_mark_32 : decode cX4_mark 32 = .ok (.getfield 45, 3) := by decide +kernel
theorem dX4_mark_35 : decode cX4_mark 35 = .ok (.iload_n 1, 1) := by decide +kernel
theorem dX4_mark_36 : decode cX4_mark 36 = .ok (.iaload, 1) := by decide +kernel
theorem dX4_mark_37 : decode cX4_mark 37 = .ok (.iconst 2, 1) := by decide +kernel
theorem dX4_mark_38 : decode cX4_mark 38 = .ok (.if_icmp .ne 12, 3) := by decide +kernel
theorem dX4_mark_41 : decode cX4_mark 41 = .ok (.aload_n 0, 1) := by decide +kernel
theorem dX4_mark_42 : decode cX4_mark 42 = .ok (.getfield 51, 3) := by decide +kernel
theorem dX4_mark_45 : decode cX4_mark 45 = .ok (.iload_n 1, 1) := by decide +kernel
theorem dX4_mark_46 : decode cX4_mark 46 = .ok (.baload, 1) := by decide +kernel
theorem dX4_mark_47 : decode cX4_mark 47 = .ok (.ifCond .eq 5, 3) := by decide +kernel
theorem dX4_mark_50 : decode cX4_mark 50 = .ok (.iconst 0, 1) := by decide +kernel
theorem dX4_mark_51 : decode cX4_mark 51 = .ok (.ireturn, 1) := by decide +kernel
theorem dX4_mark_52 : decode cX4_mark 52 = .ok (.aload_n 0, 1) := by decide +kernel
theorem dX4_mark_53 : decode cX4_mark 53 = .ok (.getfield 51, 3) := by decide +kernel
theorem dX4_mark_56 : decode cX4_mark 56 = .ok (.iload_n 1, 1) := by decide +kernel
theorem dX4_mark_57 : decode cX4_mark 57 = .ok (.iconst 1, 1) := by decide +kernel
theorem dX4_mark_58 : decode cX4_mark 58 = .ok (.bastore, 1) := by decide +kernel
theorem dX4_mark_59 : decode cX4_mark 59 = .ok (.iconst 1, 1) := by decide +kernel
theorem dX4_mark_60 : decode cX4_mark 60 = .ok (.ireturn, 1) := by decide +kernel
theorem dX4_left_0 : decode cX4_left 0 = .ok (.aload_n 0, 1) := by decide +kernel
theorem dX4_left_1 : decode cX4_left 1 = .ok (.iload_n 1, 1) := by decide +kernel
theorem dX4_left_2 : decode cX4_left 2 = .ok (.invokevirtual 88, 3) := by decide +kernel
theorem dX4_left_5 : decode cX4_left 5 = .ok (.ifCond .ne 7, 3) := by decide +kernel
theorem dX4_left_8 : decode cX4_left 8 = .ok (.ldc2_w 120, 3) := by decide +kernel
theorem dX4_left_11 : decode cX4_left 11 = .ok (.lreturn, 1) := by decide +kernel
theorem dX4_left_12 : decode cX4_left 12 = .ok (.aload_n 0, 1) := by decide +kernel
theorem dX4_left_13 : decode cX4_left 13 = .ok (.getfield 7, 3) := by decide +kernel
theorem dX4_left_16 : decode cX4_left 16 = .ok (.iload_n 1, 1) := by decide +kernel
theorem dX4_left_17 : decode cX4_left 17 = .ok (.laload, 1) := by decide +kernel
theorem dX4_left_18 : decode cX4_left 18 = .ok (.lstore_n 2, 1) := by decide +kernel
theorem dX4_left_19 : decode cX4_left 19 = .ok (.iconst 0, 1) := by decide +kernel
theorem dX4_left_20 : decode cX4_left 20 = .ok (.istore 4, 2) := by decide +kernel
theorem dX4_left_22 : decode cX4_left 22 = .ok (.iload 4, 2) := by decide +kernel
theorem dX4_left_24 : decode cX4_left 24 = .ok (.aload_n 0, 1) := by decide +kernel
theorem dX4_left_25 : decode cX4_left 25 = .ok (.getfield 70, 3) := by decide +kernel
theorem dX4_left_28 : decode cX4_left 28 = .ok (.if_icmp .ge 68, 3) := by decide +kernel
theorem dX4_left_31 : decode cX4_left 31 = .ok (.aload_n 0, 1) := by decide +kernel
theorem dX4_left_32 : decode cX4_left 32 = .ok (.getfield 36, 3) := by decide +kernel
theorem dX4_left_35 : decode cX4_left 35 = .ok (.iload 4, 2) := by decide +kernel
theorem dX4_left_37 : decode cX4_left 37 = .ok (.iaload, 1) := by decide +kernel
theorem dX4_left_38 : decode cX4_left 38 = .ok (.iload_n 1, 1) := by decide +kernel
theorem dX4_left_39 : decode cX4_left 39 = .ok (.if_icmp .ne 29, 3) := by decide +kernel
theorem dX4_left_42 : decode cX4_left 42 = .ok (.aload_n 0, 1) := by decide +kernel
theorem dX4_left_43 : decode cX4_left 43 = .ok (.getfield 45, 3) := by decide +kernel
theorem dX4_left_46 : decode cX4_left 46 = .ok (.iload 4, 2) := by decide +kernel
theorem dX4_left_48 : decode cX4_left 48 = .ok (.iaload, 1) := by decide +kernel
theorem dX4_left_49 : decode cX4_left 49 = .ok (.iconst 4, 1) := by decide +kernel
theorem dX4_left_50 : decode cX4_left 50 = .ok (.if_icmp .eq 18, 3) := by decide +kernel
theorem dX4_left_53 : decode cX4_left 53 = .ok (.aload_n 0, 1) := by decide +kernel
theorem dX4_left_54 : decode cX4_left 54 = .ok (.getfield 45, 3) := by decide +kernel
theorem dX4_left_57 : decode cX4_left 57 = .ok (.iload 4, 2) := by decide +kernel
theorem dX4_left_59 : decode cX4_left 59 = .ok (.iaload, 1) := by decide +kernel
theorem dX4_left_60 : decode cX4_left 60 = .ok (.iconst 5, 1) := by decide +kernel
theorem dX4_left_61 : decode cX4_left 61 = .ok (.if_icmp .eq 7, 3) := by decide +kernel
theorem dX4_left_64 : decode cX4_left 64 = .ok (.iconst 1, 1) := by decide +kernel
theorem dX4_left_65 : decode cX4_left 65 = .ok (.goto 4, 3) := by decide +kernel
theorem dX4_left_68 : decode cX4_left 68 = .ok (.iconst 0, 1) := by decide +kernel
theorem dX4_left_69 : decode cX4_left 69 = .ok (.istore 5, 2) := by decide +kernel
theorem dX4_left_71 : decode cX4_left 71 = .ok (.lload_n 2, 1) := by decide +kernel
theorem dX4_left_72 : decode cX4_left 72 = .ok (.iload 5, 2) := by decide +kernel
theorem dX4_left_74 : decode cX4_left 74 = .ok (.ifCond .eq 13, 3) := by decide +kernel
theorem dX4_left_77 : decode cX4_left 77 = .ok (.aload_n 0, 1) := by decide +kernel
theorem dX4_left_78 : decode cX4_left 78 = .ok (.getfield 39, 3) := by decide +kernel
theorem dX4_left_81 : decode cX4_left 81 = .ok (.iload 4, 2) := by decide +kernel
theorem dX4_left_83 : decode cX4_left 83 = .ok (.laload, 1) := by decide +kernel
theorem dX4_left_84 : decode cX4_left 84 = .ok (.goto 4, 3) := by decide +kernel
theorem dX4_left_87 : decode cX4_left 87 = .ok (.lconst 0, 1) := by decide +kernel
theorem dX4_left_88 : decode cX4_left 88 = .ok (.lsub, 1) := by decide +kernel
theorem dX4_left_89 : decode cX4_left 89 = .ok (.lstore_n 2, 1) := by decide +kernel
theorem dX4_left_90 : decode cX4_left 90 = .ok (.iinc 4 1, 3) := by decide +kernel
theorem dX4_left_93 : decode cX4_left 93 = .ok (.goto (-71), 3) := by decide +kernel
theorem dX4_left_96 : decode cX4_left 96 = .ok (.lload_n 2, 1) := by decide +kernel
theorem dX4_left_97 : decode cX4_left 97 = .ok (.lreturn, 1) := by decide +kernel
theorem dX4_bank_0 : decode cX4_bank 0 = .ok (.aload_n 0, 1) := by decide +kernel
theorem dX4_bank_1 : decode cX4_bank 1 = .ok (.iload_n 1, 1) := by decide +kernel
theorem dX4_bank_2 : decode cX4_bank 2 = .ok (.invokevirtual 88, 3) := by decide +kernel
theorem dX4_bank_5 : decode cX4_bank 5 = .ok (.ifCond .eq 29, 3) := by decide +kernel
theorem dX4_bank_8 : decode cX4_bank 8 = .ok (.lload_n 2, 1) := by decide +kernel
theorem dX4_bank_9 : decode cX4_bank 9 = .ok (.lconst 1, 1) := by decide +kernel
theorem dX4_bank_10 : decode cX4_bank 10 = .ok (.ldc2_w 86, 3) := by decide +kernel
theorem dX4_bank_13 : decode cX4_bank 13 = .ok (.invokestatic 78, 3) := by decide +kernel
theorem dX4_bank_16 : decode cX4_bank 16 = .ok (.ifCond .eq 18, 3) := by decide +kernel
theorem dX4_bank_19 : decode cX4_bank 19 = .ok (.aload_n 0, 1) := by decide +kernel
theorem dX4_bank_20 : decode cX4_bank 20 = .ok (.getfield 20, 3) := by decide +kernel
theorem dX4_bank_23 : decode cX4_bank 23 = .ok (.iload_n 1, 1) := by decide +kernel
theorem dX4_bank_24 : decode cX4_bank 24 = .ok (.laload, 1) := by decide +kernel
theorem dX4_bank_25 : decode cX4_bank 25 = .ok (.lload_n 2, 1) := by decide +kernel
theorem dX4_bank_26 : decode cX4_bank 26 = .ok (.ladd, 1) := by decide +kernel
theorem dX4_bank_27 : decode cX4_bank 27 = .ok (.ldc2_w 122, 3) := by decide +kernel
theorem dX4_bank_30 : decode cX4_bank 30 = .ok (.lcmp, 1) := by decide +kernel
theorem dX4_bank_31 : decode cX4_bank 31 = .ok (.ifCond .le 5, 3) := by decide +kernel
theorem dX4_bank_34 : decode cX4_bank 34 = .ok (.iconst 0, 1) := by decide +kernel
theorem dX4_bank_35 : decode cX4_bank 35 = .ok (.ireturn, 1) := by decide +kernel
theorem dX4_bank_36 : decode cX4_bank 36 = .ok (.aload_n 0, 1) := by decide +kernel
theorem dX4_bank_37 : decode cX4_bank 37 = .ok (.getfield 20, 3) := by decide +kernel
theorem dX4_bank_40 : decode cX4_bank 40 = .ok (.iload_n 1, 1) := by decide +kernel
theorem dX4_bank_41 : decode cX4_bank 41 = .ok (.dup2, 1) := by decide +kernel
theorem dX4_bank_42 : decode cX4_bank 42 = .ok (.laload, 1) := by decide +kernel
theorem dX4_bank_43 : decode cX4_bank 43 = .ok (.lload_n 2, 1) := by decide +kernel
theorem dX4_bank_44 : decode cX4_bank 44 = .ok (.ladd, 1) := by decide +kernel
theorem dX4_bank_45 : decode cX4_bank 45 = .ok (.lastore, 1) := by decide +kernel
theorem dX4_bank_46 : decode cX4_bank 46 = .ok (.iconst 1, 1) := by decide +kernel
theorem dX4_bank_47 : decode cX4_bank 47 = .ok (.ireturn, 1) := by decide +kernel
theorem dX4_held_0 : decode cX4_held 0 = .ok (.aload_n 0, 1) := by decide +kernel
theorem dX4_held_1 : decode cX4_held 1 = .ok (.iload_n 1, 1) := by decide +kernel
theorem dX4_held_2 : decode cX4_held 2 = .ok (.invokevirtual 88, 3) := by decide +kernel
theorem dX4_held_5 : decode cX4_held 5 = .ok (.ifCond .ne 7, 3) := by decide +kernel
theorem dX4_held_8 : decode cX4_held 8 = .ok (.ldc2_w 120, 3) := by decide +kernel
theorem dX4_held_11 : decode cX4_held 11 = .ok (.lreturn, 1) := by decide +kernel
theorem dX4_held_12 : decode cX4_held 12 = .ok (.lconst 0, 1) := by decide +kernel
theorem dX4_held_13 : decode cX4_held 13 = .ok (.lstore_n 2, 1) := by decide +kernel
theorem dX4_held_14 : decode cX4_held 14 = .ok (.iconst 0, 1) := by decide +kernel
theorem dX4_held_15 : decode cX4_held 15 = .ok (.istore 4, 2) := by decide +kernel
theorem dX4_held_17 : decode cX4_held 17 = .ok (.iload 4, 2) := by decide +kernel
theorem dX4_held_19 : decode cX4_held 19 = .ok (.aload_n 0, 1) := by decide +kernel
theorem dX4_held_20 : decode cX4_held 20 = .ok (.getfield 70, 3) := by decide +kernel
theorem dX4_held_23 : decode cX4_held 23 = .ok (.if_icmp .ge 45, 3) := by decide +kernel
theorem dX4_held_26 : decode cX4_held 26 = .ok (.lload_n 2, 1) := by decide +kernel
theorem dX4_held_27 : decode cX4_held 27 = .ok (.aload_n 0, 1) := by decide +kernel
theorem dX4_held_28 : decode cX4_held 28 = .ok (.getfield 36, 3) := by decide +kernel
theorem dX4_held_31 : decode cX4_held 31 = .ok (.iload 4, 2) := by decide +kernel
theorem dX4_held_33 : decode cX4_held 33 = .ok (.iaload, 1) := by decide +kernel
theorem dX4_held_34 : decode cX4_held 34 = .ok (.iload_n 1, 1) := by decide +kernel
theorem dX4_held_35 : decode cX4_held 35 = .ok (.if_icmp .ne 24, 3) := by decide +kernel
theorem dX4_held_38 : decode cX4_held 38 = .ok (.aload_n 0, 1) := by decide +kernel
theorem dX4_held_39 : decode cX4_held 39 = .ok (.getfield 45, 3) := by decide +kernel
theorem dX4_held_42 : decode cX4_held 42 = .ok (.iload 4, 2) := by decide +kernel
theorem dX4_held_44 : decode cX4_held 44 = .ok (.iaload, 1) := by decide +kernel
theorem dX4_held_45 : decode cX4_held 45 = .ok (.iconst 3, 1) := by decide +kernel
theorem dX4_held_46 : decode cX4_held 46 = .ok (.if_icmp .ne 13, 3) := by decide +kernel
theorem dX4_held_49 : decode cX4_held 49 = .ok (.aload_n 0, 1) := by decide +kernel
theorem dX4_held_50 : decode cX4_held 50 = .ok (.getfield 39, 3) := by decide +kernel
theorem dX4_held_53 : decode cX4_held 53 = .ok (.iload 4, 2) := by decide +kernel
theorem dX4_held_55 : decode cX4_held 55 = .ok (.laload, 1) := by decide +kernel
theorem dX4_held_56 : decode cX4_held 56 = .ok (.goto 4, 3) := by decide +kernel
theorem dX4_held_59 : decode cX4_held 59 = .ok (.lconst 0, 1) := by decide +kernel
theorem dX4_held_60 : decode cX4_held 60 = .ok (.ladd, 1) := by decide +kernel
theorem dX4_held_61 : decode cX4_held 61 = .ok (.lstore_n 2, 1) := by decide +kernel
theorem dX4_held_62 : decode cX4_held 62 = .ok (.iinc 4 1, 3) := by decide +kernel
theorem dX4_held_65 : decode cX4_held 65 = .ok (.goto (-48), 3) := by decide +kernel
theorem dX4_held_68 : decode cX4_held 68 = .ok (.aload_n 0, 1) := by decide +kernel
theorem dX4_held_69 : decode cX4_held 69 = .ok (.getfield 20, 3) := by decide +kernel
theorem dX4_held_72 : decode cX4_held 72 = .ok (.iload_n 1, 1) := by decide +kernel
theorem dX4_held_73 : decode cX4_held 73 = .ok (.laload, 1) := by decide +kernel
theorem dX4_held_74 : decode cX4_held 74 = .ok (.aload_n 0, 1) := by decide +kernel
theorem dX4_held_75 : decode cX4_held 75 = .ok (.getfield 7, 3) := by decide +kernel
theorem dX4_held_78 : decode cX4_held 78 = .ok (.iload_n 1, 1) := by decide +kernel
theorem dX4_held_79 : decode cX4_held 79 = .ok (.laload, 1) := by decide +kernel
theorem dX4_held_80 : decode cX4_held 80 = .ok (.ldiv, 1) := by decide +kernel
theorem dX4_held_81 : decode cX4_held 81 = .ok (.lstore 4, 2) := by decide +kernel
theorem dX4_held_83 : decode cX4_held 83 = .ok (.aload_n 0, 1) := by decide +kernel
theorem dX4_held_84 : decode cX4_held 84 = .ok (.getfield 20, 3) := by decide +kernel
theorem dX4_held_87 : decode cX4_held 87 = .ok (.iload_n 1, 1) := by decide +kernel
theorem dX4_held_88 : decode cX4_held 88 = .ok (.laload, 1) := by decide +kernel
theorem dX4_held_89 : decode cX4_held 89 = .ok (.aload_n 0, 1) := by decide +kernel
theorem dX4_held_90 : decode cX4_held 90 = .ok (.getfield 7, 3) := by decide +kernel
theorem dX4_held_93 : decode cX4_held 93 = .ok (.iload_n 1, 1) := by decide +kernel
theorem dX4_held_94 : decode cX4_held 94 = .ok (.laload, 1) := by decide +kernel
theorem dX4_held_95 : decode cX4_held 95 = .ok (.lrem, 1) := by decide +kernel
theorem dX4_held_96 : decode cX4_held 96 = .ok (.lstore 6, 2) := by decide +kernel
theorem dX4_held_98 : decode cX4_held 98 = .ok (.aload_n 0, 1) := by decide +kernel
theorem dX4_held_99 : decode cX4_held 99 = .ok (.getfield 20, 3) := by decide +kernel
theorem dX4_held_102 : decode cX4_held 102 = .ok (.iload_n 1, 1) := by decide +kernel
theorem dX4_held_103 : decode cX4_held 103 = .ok (.laload, 1) := by decide +kernel
theorem dX4_held_104 : decode cX4_held 104 = .ok (.lload 4, 2) := by decide +kernel
theorem dX4_held_106 : decode cX4_held 106 = .ok (.lload_n 2, 1) := by decide +kernel
theorem dX4_held_107 : decode cX4_held 107 = .ok (.lmul, 1) := by decide +kernel
theorem dX4_held_108 : decode cX4_held 108 = .ok (.lload 6, 2) := by decide +kernel
theorem dX4_held_110 : decode cX4_held 110 = .ok (.lload_n 2, 1) := by decide +kernel
theorem dX4_held_111 : decode cX4_held 111 = .ok (.lmul, 1) := by decide +kernel
theorem dX4_held_112 : decode cX4_held 112 = .ok (.aload_n 0, 1) := by decide +kernel
theorem dX4_held_113 : decode cX4_held 113 = .ok (.getfield 7, 3) := by decide +kernel
theorem dX4_held_116 : decode cX4_held 116 = .ok (.iload_n 1, 1) := by decide +kernel
theorem dX4_held_117 : decode cX4_held 117 = .ok (.laload, 1) := by decide +kernel
theorem dX4_held_118 : decode cX4_held 118 = .ok (.ldiv, 1) := by decide +kernel
theorem dX4_held_119 : decode cX4_held 119 = .ok (.ladd, 1) := by decide +kernel
theorem dX4_held_120 : decode cX4_held 120 = .ok (.lsub, 1) := by decide +kernel
theorem dX4_held_121 : decode cX4_held 121 = .ok (.lreturn, 1) := by decide +kernel
theorem dX4_limit_0 : decode cX4_limit 0 = .ok (.iload_n 1, 1) := by decide +kernel
theorem dX4_limit_1 : decode cX4_limit 1 = .ok (.i2l, 1) := by decide +kernel
theorem dX4_limit_2 : decode cX4_limit 2 = .ok (.lconst 0, 1) := by decide +kernel
theorem dX4_limit_3 : decode cX4_limit 3 = .ok (.ldc2_w 95, 3) := by decide +kernel
theorem dX4_limit_6 : decode cX4_limit 6 = .ok (.invokestatic 78, 3) := by decide +kernel
theorem dX4_limit_9 : decode cX4_limit 9 = .ok (.ifCond .ne 5, 3) := by decide +kernel
theorem dX4_limit_12 : decode cX4_limit 12 = .ok (.iconst 0, 1) := by decide +kernel
theorem dX4_limit_13 : decode cX4_limit 13 = .ok (.ireturn, 1) := by decide +kernel
theorem dX4_limit_14 : decode cX4_limit 14 = .ok (.aload_n 0, 1) := by decide +kernel
theorem dX4_limit_15 : decode cX4_limit 15 = .ok (.iload_n 1, 1) := by decide +kernel
theorem dX4_limit_16 : decode cX4_limit 16 = .ok (.putfield 63, 3) := by decide +kernel
theorem dX4_limit_19 : decode cX4_limit 19 = .ok (.iconst 1, 1) := by decide +kernel
theorem dX4_limit_20 : decode cX4_limit 20 = .ok (.ireturn, 1) := by decide +kernel
theorem dX4_late_0 : decode cX4_late 0 = .ok (.iconst 0, 1) := by decide +kernel
theorem dX4_late_1 : decode cX4_late 1 = .ok (.istore_n 2, 1) := by decide +kernel
theorem dX4_late_2 : decode cX4_late 2 = .ok (.iconst 0, 1) := by decide +kernel
theorem dX4_late_3 : decode cX4_late 3 = .ok (.istore_n 3, 1) := by decide +kernel
theorem dX4_late_4 : decode cX4_late 4 = .ok (.iload_n 3, 1) := by decide +kernel
theorem dX4_late_5 : decode cX4_late 5 = .ok (.aload_n 0, 1) := by decide +kernel
theorem dX4_late_6 : decode cX4_late 6 = .ok (.getfield 70, 3) := by decide +kernel
theorem dX4_late_9 : decode cX4_late 9 = .ok (.if_icmp .ge 47, 3) := by decide +kernel
theorem dX4_late_12 : decode cX4_late 12 = .ok (.aload_n 0, 1) := by decide +kernel
theorem dX4_late_13 : decode cX4_late 13 = .ok (.getfield 45, 3) := by decide +kernel
theorem dX4_late_16 : decode cX4_late 16 = .ok (.iload_n 3, 1) := by decide +kernel
theorem dX4_late_17 : decode cX4_late 17 = .ok (.iaload, 1) := by decide +kernel
theorem dX4_late_18 : decode cX4_late 18 = .ok (.iconst 2, 1) := by decide +kernel
theorem dX4_late_19 : decode cX4_late 19 = .ok (.if_icmp .ne 31, 3) := by decide +kernel
theorem dX4_late_22 : decode cX4_late 22 = .ok (.aload_n 0, 1) := by decide +kernel
theorem dX4_late_23 : decode cX4_late 23 = .ok (.getfield 73, 3) := by decide +kernel
theorem dX4_late_26 : decode cX4_late 26 = .ok (.aload_n 0, 1) := by decide +kernel
theorem dX4_late_27 : decode cX4_late 27 = .ok (.getfield 48, 3) := by decide +kernel
theorem dX4_late_30 : decode cX4_late 30 = .ok (.iload_n 3, 1) := by decide +kernel
theorem dX4_late_31 : decode cX4_late 31 = .ok (.iaload, 1) := by decide +kernel
theorem dX4_late_32 : decode cX4_late 32 = .ok (.isub, 1) := by decide +kernel
theorem dX4_late_33 : decode cX4_late 33 = .ok (.aload_n 0, 1) := by decide +kernel
theorem dX4_late_34 : decode cX4_late 34 = .ok (.getfield 63, 3) := by decide +kernel
theorem dX4_late_37 : decode cX4_late 37 = .ok (.if_icmp .le 13, 3) := by decide +kernel
theorem dX4_late_40 : decode cX4_late 40 = .ok (.iload_n 2, 1) := by decide +kernel
theorem dX4_late_41 : decode cX4_late 41 = .ok (.iload_n 1, 1) := by decide +kernel
theorem dX4_late_42 : decode cX4_late 42 = .ok (.if_icmp .ne 5, 3) := by decide +kernel
theorem dX4_late_45 : decode cX4_late 45 = .ok (.iload_n 3, 1) := by decide +kernel
theorem dX4_late_46 : decode cX4_late 46 = .ok (.ireturn, 1) := by decide +kernel
theorem dX4_late_47 : decode cX4_late 47 = .ok (.iinc 2 1, 3) := by decide +kernel
theorem dX4_late_50 : decode cX4_late 50 = .ok (.iinc 3 1, 3) := by decide +kernel
theorem dX4_late_53 : decode cX4_late 53 = .ok (.goto (-49), 3) := by decide +kernel
theorem dX4_late_56 : decode cX4_late 56 = .ok (.iconst (-1), 1) := by decide +kernel
theorem dX4_late_57 : decode cX4_late 57 = .ok (.ireturn, 1) := by decide +kernel
theorem dX4_carrier_0 : decode cX4_carrier 0 = .ok (.aload_n 0, 1) := by decide +kernel
theorem dX4_carrier_1 : decode cX4_carrier 1 = .ok (.iload_n 1, 1) := by decide +kernel
theorem dX4_carrier_2 : decode cX4_carrier 2 = .ok (.invokevirtual 105, 3) := by decide +kernel
theorem dX4_carrier_5 : decode cX4_carrier 5 = .ok (.ifCond .eq 36, 3) := by decide +kernel
theorem dX4_carrier_8 : decode cX4_carrier 8 = .ok (.iload_n 2, 1) := by decide +kernel
theorem dX4_carrier_9 : decode cX4_carrier 9 = .ok (.i2l, 1) := by decide +kernel
theorem dX4_carrier_10 : decode cX4_carrier 10 = .ok (.lconst 0, 1) := by decide +kernel
theorem dX4_carrier_11 : decode cX4_carrier 11 = .ok (.ldc2_w 124, 3) := by decide +kernel
theorem dX4_carrier_14 : decode cX4_carrier 14 = .ok (.invokestatic 78, 3) := by decide +kernel
theorem dX4_carrier_17 : decode cX4_carrier 17 = .ok (.ifCond .eq 24, 3) := by decide +kernel
theorem dX4_carrier_20 : decode cX4_carrier 20 = .ok (.aload_n 0, 1) := by decide +kernel
theorem dX4_carrier_21 : decode cX4_carrier 21 = .ok (.getfield 45, 3) := by decide +kernel
theorem dX4_carrier_24 : decode cX4_carrier 24 = .ok (.iload_n 1, 1) := by decide +kernel
theorem dX4_carrier_25 : decode cX4_carrier 25 = .ok (.iaload, 1) := by decide +kernel
theorem dX4_carrier_26 : decode cX4_carrier 26 = .ok (.iconst 1, 1) := by decide +kernel
theorem dX4_carrier_27 : decode cX4_carrier 27 = .ok (.if_icmp .ne 14, 3) := by decide +kernel
theorem dX4_carrier_30 : decode cX4_carrier 30 = .ok (.aload_n 0, 1) := by decide +kernel
theorem dX4_carrier_31 : decode cX4_carrier 31 = .ok (.getfield 54, 3) := by decide +kernel
theorem dX4_carrier_34 : decode cX4_carrier 34 = .ok (.iload_n 1, 1) := by decide +kernel
theorem dX4_carrier_35 : decode cX4_carrier 35 = .ok (.iaload, 1) := by decide +kernel
theorem dX4_carrier_36 : decode cX4_carrier 36 = .ok (.bipush 6, 2) := by decide +kernel
theorem dX4_carrier_38 : decode cX4_carrier 38 = .ok (.if_icmp .ne 5, 3) := by decide +kernel
theorem dX4_carrier_41 : decode cX4_carrier 41 = .ok (.iconst (-1), 1) := by decide +kernel
theorem dX4_carrier_42 : decode cX4_carrier 42 = .ok (.ireturn, 1) := by decide +kernel
theorem dX4_carrier_43 : decode cX4_carrier 43 = .ok (.bipush 6, 2) := by decide +kernel
theorem dX4_carrier_45 : decode cX4_carrier 45 = .ok (.iload_n 1, 1) := by decide +kernel
theorem dX4_carrier_46 : decode cX4_carrier 46 = .ok (.imul, 1) := by decide +kernel
theorem dX4_carrier_47 : decode cX4_carrier 47 = .ok (.aload_n 0, 1) := by decide +kernel
theorem dX4_carrier_48 : decode cX4_carrier 48 = .ok (.getfield 54, 3) := by decide +kernel
theorem dX4_carrier_51 : decode cX4_carrier 51 = .ok (.iload_n 1, 1) := by decide +kernel
theorem dX4_carrier_52 : decode cX4_carrier 52 = .ok (.iaload, 1) := by decide +kernel
theorem dX4_carrier_53 : decode cX4_carrier 53 = .ok (.iadd, 1) := by decide +kernel
theorem dX4_carrier_54 : decode cX4_carrier 54 = .ok (.istore_n 3, 1) := by decide +kernel
theorem dX4_carrier_55 : decode cX4_carrier 55 = .ok (.aload_n 0, 1) := by decide +kernel
theorem dX4_carrier_56 : decode cX4_carrier 56 = .ok (.getfield 54, 3) := by decide +kernel
theorem dX4_carrier_59 : decode cX4_carrier 59 = .ok (.iload_n 1, 1) := by decide +kernel
theorem dX4_carrier_60 : decode cX4_carrier 60 = .ok (.iaload, 1) := by decide +kernel
theorem dX4_carrier_61 : decode cX4_carrier 61 = .ok (.ifCond .le 17, 3) := by decide +kernel
theorem dX4_carrier_64 : decode cX4_carrier 64 = .ok (.aload_n 0, 1) := by decide +kernel
theorem dX4_carrier_65 : decode cX4_carrier 65 = .ok (.getfield 57, 3) := by decide +kernel
theorem dX4_carrier_68 : decode cX4_carrier 68 = .ok (.iload_n 3, 1) := by decide +kernel
theorem dX4_carrier_69 : decode cX4_carrier 69 = .ok (.iconst 1, 1) := by decide +kernel
theorem dX4_carrier_70 : decode cX4_carrier 70 = .ok (.isub, 1) := by decide +kernel
theorem dX4_carrier_71 : decode cX4_carrier 71 = .ok (.iaload, 1) := by decide +kernel
theorem dX4_carrier_72 : decode cX4_carrier 72 = .ok (.iload_n 2, 1) := by decide +kernel
theorem dX4_carrier_73 : decode cX4_carrier 73 = .ok (.if_icmp .ne 5, 3) := by decide +kernel
theorem dX4_carrier_76 : decode cX4_carrier 76 = .ok (.iconst (-1), 1) := by decide +kernel
theorem dX4_carrier_77 : decode cX4_carrier 77 = .ok (.ireturn, 1) := by decide +kernel
theorem dX4_carrier_78 : decode cX4_carrier 78 = .ok (.aload_n 0, 1) := by decide +kernel
theorem dX4_carrier_79 : decode cX4_carrier 79 = .ok (.getfield 57, 3) := by decide +kernel
theorem dX4_carrier_82 : decode cX4_carrier 82 = .ok (.iload_n 3, 1) := by decide +kernel
theorem dX4_carrier_83 : decode cX4_carrier 83 = .ok (.iload_n 2, 1) := by decide +kernel
theorem dX4_carrier_84 : decode cX4_carrier 84 = .ok (.iastore, 1) := by decide +kernel
theorem dX4_carrier_85 : decode cX4_carrier 85 = .ok (.aload_n 0, 1) := by decide +kernel
theorem dX4_carrier_86 : decode cX4_carrier 86 = .ok (.getfield 54, 3) := by decide +kernel
theorem dX4_carrier_89 : decode cX4_carrier 89 = .ok (.iload_n 1, 1) := by decide +kernel
theorem dX4_carrier_90 : decode cX4_carrier 90 = .ok (.dup2, 1) := by decide +kernel
theorem dX4_carrier_91 : decode cX4_carrier 91 = .ok (.iaload, 1) := by decide +kernel
theorem dX4_carrier_92 : decode cX4_carrier 92 = .ok (.iconst 1, 1) := by decide +kernel
theorem dX4_carrier_93 : decode cX4_carrier 93 = .ok (.iadd, 1) := by decide +kernel
theorem dX4_carrier_94 : decode cX4_carrier 94 = .ok (.iastore, 1) := by decide +kernel
theorem dX4_carrier_95 : decode cX4_carrier 95 = .ok (.aload_n 0, 1) := by decide +kernel
theorem dX4_carrier_96 : decode cX4_carrier 96 = .ok (.getfield 54, 3) := by decide +kernel
theorem dX4_carrier_99 : decode cX4_carrier 99 = .ok (.iload_n 1, 1) := by decide +kernel
theorem dX4_carrier_100 : decode cX4_carrier 100 = .ok (.iaload, 1) := by decide +kernel
theorem dX4_carrier_101 : decode cX4_carrier 101 = .ok (.ireturn, 1) := by decide +kernel
theorem dX4_back_0 : decode cX4_back 0 = .ok (.aload_n 0, 1) := by decide +kernel
theorem dX4_back_1 : decode cX4_back 1 = .ok (.iload_n 1, 1) := by decide +kernel
theorem dX4_back_2 : decode cX4_back 2 = .ok (.invokevirtual 105, 3) := by decide +kernel
theorem dX4_back_5 : decode cX4_back 5 = .ok (.ifCond .eq 17, 3) := by decide +kernel
theorem dX4_back_8 : decode cX4_back 8 = .ok (.iload_n 2, 1) := by decide +kernel
theorem dX4_back_9 : decode cX4_back 9 = .ok (.ifCond .lt 13, 3) := by decide +kernel
theorem dX4_back_12 : decode cX4_back 12 = .ok (.iload_n 2, 1) := by decide +kernel
theorem dX4_back_13 : decode cX4_back 13 = .ok (.aload_n 0, 1) := by decide +kernel
theorem dX4_back_14 : decode cX4_back 14 = .ok (.getfield 54, 3) := by decide +kernel
theorem dX4_back_17 : decode cX4_back 17 = .ok (.iload_n 1, 1) := by decide +kernel
theorem dX4_back_18 : decode cX4_back 18 = .ok (.iaload, 1) := by decide +kernel
theorem dX4_back_19 : decode cX4_back 19 = .ok (.if_icmp .lt 5, 3) := by decide +kernel
theorem dX4_back_22 : decode cX4_back 22 = .ok (.iconst (-1), 1) := by decide +kernel
theorem dX4_back_23 : decode cX4_back 23 = .ok (.ireturn, 1) := by decide +kernel
theorem dX4_back_24 : decode cX4_back 24 = .ok (.aload_n 0, 1) := by decide +kernel
theorem dX4_back_25 : decode cX4_back 25 = .ok (.getfield 57, 3) := by decide +kernel
theorem dX4_back_28 : decode cX4_back 28 = .ok (.bipush 6, 2) := by decide +kernel
theorem dX4_back_30 : decode cX4_back 30 = .ok (.iload_n 1, 1) := by decide +kernel
theorem dX4_back_31 : decode cX4_back 31 = .ok (.imul, 1) := by decide +kernel
theorem dX4_back_32 : decode cX4_back 32 = .ok (.aload_n 0, 1) := by decide +kernel
theorem dX4_back_33 : decode cX4_back 33 = .ok (.getfield 54, 3) := by decide +kernel
theorem dX4_back_36 : decode cX4_back 36 = .ok (.iload_n 1, 1) := by decide +kernel
theorem dX4_back_37 : decode cX4_back 37 = .ok (.iaload, 1) := by decide +kernel
theorem dX4_back_38 : decode cX4_back 38 = .ok (.iadd, 1) := by decide +kernel
theorem dX4_back_39 : decode cX4_back 39 = .ok (.iconst 1, 1) := by decide +kernel
theorem dX4_back_40 : decode cX4_back 40 = .ok (.isub, 1) := by decide +kernel
theorem dX4_back_41 : decode cX4_back 41 = .ok (.iload_n 2, 1) := by decide +kernel
theorem dX4_back_42 : decode cX4_back 42 = .ok (.isub, 1) := by decide +kernel
theorem dX4_back_43 : decode cX4_back 43 = .ok (.iaload, 1) := by decide +kernel
theorem dX4_back_44 : decode cX4_back 44 = .ok (.ireturn, 1) := by decide +kernel
theorem dX4_put_0 : decode cX4_put 0 = .ok (.aload_n 0, 1) := by decide +kernel
theorem dX4_put_1 : decode cX4_put 1 = .ok (.aload_n 0, 1) := by decide +kernel
theorem dX4_put_2 : decode cX4_put 2 = .ok (.getfield 126, 3) := by decide +kernel
theorem dX4_put_5 : decode cX4_put 5 = .ok (.ifCond .ne 7, 3) := by decide +kernel
theorem dX4_put_8 : decode cX4_put 8 = .ok (.iload_n 1, 1) := by decide +kernel
theorem dX4_put_9 : decode cX4_put 9 = .ok (.goto 7, 3) := by decide +kernel
theorem dX4_put_12 : decode cX4_put 12 = .ok (.aload_n 0, 1) := by decide +kernel
theorem dX4_put_13 : decode cX4_put 13 = .ok (.getfield 129, 3) := by decide +kernel
theorem dX4_put_16 : decode cX4_put 16 = .ok (.putfield 129, 3) := by decide +kernel
theorem dX4_put_19 : decode cX4_put 19 = .ok (.aload_n 0, 1) := by decide +kernel
theorem dX4_put_20 : decode cX4_put 20 = .ok (.dup, 1) := by decide +kernel
theorem dX4_put_21 : decode cX4_put 21 = .ok (.getfield 126, 3) := by decide +kernel
theorem dX4_put_24 : decode cX4_put 24 = .ok (.iconst 1, 1) := by decide +kernel
theorem dX4_put_25 : decode cX4_put 25 = .ok (.isub, 1) := by decide +kernel
theorem dX4_put_26 : decode cX4_put 26 = .ok (.putfield 126, 3) := by decide +kernel
theorem dX4_put_29 : decode cX4_put 29 = .ok (.return_, 1) := by decide +kernel
theorem dX4_putNumber_0 : decode cX4_putNumber 0 = .ok (.lconst 1, 1) := by decide +kernel
theorem dX4_putNumber_1 : decode cX4_putNumber 1 = .ok (.lstore_n 3, 1) := by decide +kernel
theorem dX4_putNumber_2 : decode cX4_putNumber 2 = .ok (.lload_n 1, 1) := by decide +kernel
theorem dX4_putNumber_3 : decode cX4_putNumber 3 = .ok (.lload_n 3, 1) := by decide +kernel
theorem dX4_putNumber_4 : decode cX4_putNumber 4 = .ok (.ldiv, 1) := by decide +kernel
theorem dX4_putNumber_5 : decode cX4_putNumber 5 = .ok (.ldc2_w 132, 3) := by decide +kernel
theorem dX4_putNumber_8 : decode cX4_putNumber 8 = .ok (.lcmp, 1) := by decide +kernel
theorem dX4_putNumber_9 : decode cX4_putNumber 9 = .ok (.ifCond .le 12, 3) := by decide +kernel
theorem dX4_putNumber_12 : decode cX4_putNumber 12 = .ok (.lload_n 3, 1) := by decide +kernel
theorem dX4_putNumber_13 : decode cX4_putNumber 13 = .ok (.ldc2_w 134, 3) := by decide +kernel
theorem dX4_putNumber_16 : decode cX4_putNumber 16 = .ok (.lmul, 1) := by decide +kernel
theorem dX4_putNumber_17 : decode cX4_putNumber 17 = .ok (.lstore_n 3, 1) := by decide +kernel
theorem dX4_putNumber_18 : decode cX4_putNumber 18 = .ok (.goto (-16), 3) := by decide +kernel
theorem dX4_putNumber_21 : decode cX4_putNumber 21 = .ok (.lload_n 3, 1) := by decide +kernel
theorem dX4_putNumber_22 : decode cX4_putNumber 22 = .ok (.lconst 0, 1) := by decide +kernel
theorem dX4_putNumber_23 : decode cX4_putNumber 23 = .ok (.lcmp, 1) := by decide +kernel
theorem dX4_putNumber_24 : decode cX4_putNumber 24 = .ok (.ifCond .le 28, 3) := by decide +kernel
theorem dX4_putNumber_27 : decode cX4_putNumber 27 = .ok (.aload_n 0, 1) := by decide +kernel
theorem dX4_putNumber_28 : decode cX4_putNumber 28 = .ok (.ldc2_w 136, 3) := by decide +kernel
theorem dX4_putNumber_31 : decode cX4_putNumber 31 = .ok (.lload_n 1, 1) := by decide +kernel
theorem dX4_putNumber_32 : decode cX4_putNumber 32 = .ok (.lload_n 3, 1) := by decide +kernel
theorem dX4_putNumber_33 : decode cX4_putNumber 33 = .ok (.ldiv, 1) := by decide +kernel
theorem dX4_putNumber_34 : decode cX4_putNumber 34 = .ok (.ldc2_w 134, 3) := by decide +kernel
theorem dX4_putNumber_37 : decode cX4_putNumber 37 = .ok (.lrem, 1) := by decide +kernel
theorem dX4_putNumber_38 : decode cX4_putNumber 38 = .ok (.ladd, 1) := by decide +kernel
theorem dX4_putNumber_39 : decode cX4_putNumber 39 = .ok (.l2i, 1) := by decide +kernel
theorem dX4_putNumber_40 : decode cX4_putNumber 40 = .ok (.invokevirtual 138, 3) := by decide +kernel
theorem dX4_putNumber_43 : decode cX4_putNumber 43 = .ok (.lload_n 3, 1) := by decide +kernel
theorem dX4_putNumber_44 : decode cX4_putNumber 44 = .ok (.ldc2_w 134, 3) := by decide +kernel
theorem dX4_putNumber_47 : decode cX4_putNumber 47 = .ok (.ldiv, 1) := by decide +kernel
theorem dX4_putNumber_48 : decode cX4_putNumber 48 = .ok (.lstore_n 3, 1) := by decide +kernel
theorem dX4_putNumber_49 : decode cX4_putNumber 49 = .ok (.goto (-28), 3) := by decide +kernel
theorem dX4_putNumber_52 : decode cX4_putNumber 52 = .ok (.return_, 1) := by decide +kernel
theorem dX4_letterOf_0 : decode cX4_letterOf 0 = .ok (.iload_n 0, 1) := by decide +kernel
theorem dX4_letterOf_1 : decode cX4_letterOf 1 = .ok (.tableswitch 50 0 4 #[35, 38, 41, 44, 47], 35) := by decide +kernel
theorem dX4_letterOf_36 : decode cX4_letterOf 36 = .ok (.bipush 116, 2) := by decide +kernel
theorem dX4_letterOf_38 : decode cX4_letterOf 38 = .ok (.ireturn, 1) := by decide +kernel
theorem dX4_letterOf_39 : decode cX4_letterOf 39 = .ok (.bipush 107, 2) := by decide +kernel
theorem dX4_letterOf_41 : decode cX4_letterOf 41 = .ok (.ireturn, 1) := by decide +kernel
theorem dX4_letterOf_42 : decode cX4_letterOf 42 = .ok (.bipush 118, 2) := by decide +kernel
theorem dX4_letterOf_44 : decode cX4_letterOf 44 = .ok (.ireturn, 1) := by decide +kernel
theorem dX4_letterOf_45 : decode cX4_letterOf 45 = .ok (.bipush 99, 2) := by decide +kernel
theorem dX4_letterOf_47 : decode cX4_letterOf 47 = .ok (.ireturn, 1) := by decide +kernel
theorem dX4_letterOf_48 : decode cX4_letterOf 48 = .ok (.bipush 114, 2) := by decide +kernel
theorem dX4_letterOf_50 : decode cX4_letterOf 50 = .ok (.ireturn, 1) := by decide +kernel
theorem dX4_letterOf_51 : decode cX4_letterOf 51 = .ok (.bipush 120, 2) := by decide +kernel
theorem dX4_letterOf_53 : decode cX4_letterOf 53 = .ok (.ireturn, 1) := by decide +kernel
theorem dX4_print_0 : decode cX4_print 0 = .ok (.aload_n 0, 1) := by decide +kernel
theorem dX4_print_1 : decode cX4_print 1 = .ok (.iload_n 1, 1) := by decide +kernel
theorem dX4_print_2 : decode cX4_print 2 = .ok (.invokevirtual 88, 3) := by decide +kernel
theorem dX4_print_5 : decode cX4_print 5 = .ok (.ifCond .eq 7, 3) := by decide +kernel
theorem dX4_print_8 : decode cX4_print 8 = .ok (.iload_n 2, 1) := by decide +kernel
theorem dX4_print_9 : decode cX4_print 9 = .ok (.ifCond .ge 5, 3) := by decide +kernel
theorem dX4_print_12 : decode cX4_print 12 = .ok (.iconst (-1), 1) := by decide +kernel
theorem dX4_print_13 : decode cX4_print 13 = .ok (.ireturn, 1) := by decide +kernel
theorem dX4_print_14 : decode cX4_print 14 = .ok (.aload_n 0, 1) := by decide +kernel
theorem dX4_print_15 : decode cX4_print 15 = .ok (.iload_n 2, 1) := by decide +kernel
theorem dX4_print_16 : decode cX4_print 16 = .ok (.putfield 126, 3) := by decide +kernel
theorem dX4_print_19 : decode cX4_print 19 = .ok (.aload_n 0, 1) := by decide +kernel
theorem dX4_print_20 : decode cX4_print 20 = .ok (.iconst (-1), 1) := by decide +kernel
theorem dX4_print_21 : decode cX4_print 21 = .ok (.putfield 129, 3) := by decide +kernel
theorem dX4_print_24 : decode cX4_print 24 = .ok (.aload_n 0, 1) := by decide +kernel
theorem dX4_print_25 : decode cX4_print 25 = .ok (.iload_n 1, 1) := by decide +kernel
theorem dX4_print_26 : decode cX4_print 26 = .ok (.i2l, 1) := by decide +kernel
theorem dX4_print_27 : decode cX4_print 27 = .ok (.invokevirtual 142, 3) := by decide +kernel
theorem dX4_print_30 : decode cX4_print 30 = .ok (.aload_n 0, 1) := by decide +kernel
theorem dX4_print_31 : decode cX4_print 31 = .ok (.bipush 32, 2) := by decide +kernel
theorem dX4_print_33 : decode cX4_print 33 = .ok (.invokevirtual 138, 3) := by decide +kernel
theorem dX4_print_36 : decode cX4_print 36 = .ok (.aload_n 0, 1) := by decide +kernel
theorem dX4_print_37 : decode cX4_print 37 = .ok (.aload_n 0, 1) := by decide +kernel
theorem dX4_print_38 : decode cX4_print 38 = .ok (.getfield 7, 3) := by decide +kernel
theorem dX4_print_41 : decode cX4_print 41 = .ok (.iload_n 1, 1) := by decide +kernel
theorem dX4_print_42 : decode cX4_print 42 = .ok (.laload, 1) := by decide +kernel
theorem dX4_print_43 : decode cX4_print 43 = .ok (.invokevirtual 142, 3) := by decide +kernel
theorem dX4_print_46 : decode cX4_print 46 = .ok (.aload_n 0, 1) := by decide +kernel
theorem dX4_print_47 : decode cX4_print 47 = .ok (.bipush 32, 2) := by decide +kernel
theorem dX4_print_49 : decode cX4_print 49 = .ok (.invokevirtual 138, 3) := by decide +kernel
theorem dX4_print_52 : decode cX4_print 52 = .ok (.aload_n 0, 1) := by decide +kernel
theorem dX4_print_53 : decode cX4_print 53 = .ok (.aload_n 0, 1) := by decide +kernel
theorem dX4_print_54 : decode cX4_print 54 = .ok (.getfield 13, 3) := by decide +kernel
theorem dX4_print_57 : decode cX4_print 57 = .ok (.iload_n 1, 1) := by decide +kernel
theorem dX4_print_58 : decode cX4_print 58 = .ok (.iaload, 1) := by decide +kernel
theorem dX4_print_59 : decode cX4_print 59 = .ok (.i2l, 1) := by decide +kernel
theorem dX4_print_60 : decode cX4_print 60 = .ok (.invokevirtual 142, 3) := by decide +kernel
theorem dX4_print_63 : decode cX4_print 63 = .ok (.aload_n 0, 1) := by decide +kernel
theorem dX4_print_64 : decode cX4_print 64 = .ok (.bipush 32, 2) := by decide +kernel
theorem dX4_print_66 : decode cX4_print 66 = .ok (.invokevirtual 138, 3) := by decide +kernel
theorem dX4_print_69 : decode cX4_print 69 = .ok (.aload_n 0, 1) := by decide +kernel
theorem dX4_print_70 : decode cX4_print 70 = .ok (.aload_n 0, 1) := by decide +kernel
theorem dX4_print_71 : decode cX4_print 71 = .ok (.getfield 17, 3) := by decide +kernel
theorem dX4_print_74 : decode cX4_print 74 = .ok (.iload_n 1, 1) := by decide +kernel
theorem dX4_print_75 : decode cX4_print 75 = .ok (.iaload, 1) := by decide +kernel
theorem dX4_print_76 : decode cX4_print 76 = .ok (.i2l, 1) := by decide +kernel
theorem dX4_print_77 : decode cX4_print 77 = .ok (.invokevirtual 142, 3) := by decide +kernel
theorem dX4_print_80 : decode cX4_print 80 = .ok (.aload_n 0, 1) := by decide +kernel
theorem dX4_print_81 : decode cX4_print 81 = .ok (.bipush 32, 2) := by decide +kernel
theorem dX4_print_83 : decode cX4_print 83 = .ok (.invokevirtual 138, 3) := by decide +kernel
theorem dX4_print_86 : decode cX4_print 86 = .ok (.aload_n 0, 1) := by decide +kernel
theorem dX4_print_87 : decode cX4_print 87 = .ok (.aload_n 0, 1) := by decide +kernel
theorem dX4_print_88 : decode cX4_print 88 = .ok (.iload_n 1, 1) := by decide +kernel
theorem dX4_print_89 : decode cX4_print 89 = .ok (.invokevirtual 97, 3) := by decide +kernel
theorem dX4_print_92 : decode cX4_print 92 = .ok (.i2l, 1) := by decide +kernel
theorem dX4_print_93 : decode cX4_print 93 = .ok (.invokevirtual 142, 3) := by decide +kernel
theorem dX4_print_96 : decode cX4_print 96 = .ok (.iconst 0, 1) := by decide +kernel
theorem dX4_print_97 : decode cX4_print 97 = .ok (.istore_n 3, 1) := by decide +kernel
theorem dX4_print_98 : decode cX4_print 98 = .ok (.iload_n 3, 1) := by decide +kernel
theorem dX4_print_99 : decode cX4_print 99 = .ok (.aload_n 0, 1) := by decide +kernel
theorem dX4_print_100 : decode cX4_print 100 = .ok (.getfield 70, 3) := by decide +kernel
theorem dX4_print_103 : decode cX4_print 103 = .ok (.if_icmp .ge 60, 3) := by decide +kernel
theorem dX4_print_106 : decode cX4_print 106 = .ok (.aload_n 0, 1) := by decide +kernel
theorem dX4_print_107 : decode cX4_print 107 = .ok (.getfield 36, 3) := by decide +kernel
theorem dX4_print_110 : decode cX4_print 110 = .ok (.iload_n 3, 1) := by decide +kernel
theorem dX4_print_111 : decode cX4_print 111 = .ok (.iaload, 1) := by decide +kernel
theorem dX4_print_112 : decode cX4_print 112 = .ok (.iload_n 1, 1) := by decide +kernel
theorem dX4_print_113 : decode cX4_print 113 = .ok (.if_icmp .ne 44, 3) := by decide +kernel
theorem dX4_print_116 : decode cX4_print 116 = .ok (.aload_n 0, 1) := by decide +kernel
theorem dX4_print_117 : decode cX4_print 117 = .ok (.bipush 44, 2) := by decide +kernel
theorem dX4_print_119 : decode cX4_print 119 = .ok (.invokevirtual 138, 3) := by decide +kernel
theorem dX4_print_122 : decode cX4_print 122 = .ok (.aload_n 0, 1) := by decide +kernel
theorem dX4_print_123 : decode cX4_print 123 = .ok (.iload_n 3, 1) := by decide +kernel
theorem dX4_print_124 : decode cX4_print 124 = .ok (.i2l, 1) := by decide +kernel
theorem dX4_print_125 : decode cX4_print 125 = .ok (.invokevirtual 142, 3) := by decide +kernel
theorem dX4_print_128 : decode cX4_print 128 = .ok (.aload_n 0, 1) := by decide +kernel
theorem dX4_print_129 : decode cX4_print 129 = .ok (.bipush 58, 2) := by decide +kernel
theorem dX4_print_131 : decode cX4_print 131 = .ok (.invokevirtual 138, 3) := by decide +kernel
theorem dX4_print_134 : decode cX4_print 134 = .ok (.aload_n 0, 1) := by decide +kernel
theorem dX4_print_135 : decode cX4_print 135 = .ok (.aload_n 0, 1) := by decide +kernel
theorem dX4_print_136 : decode cX4_print 136 = .ok (.getfield 39, 3) := by decide +kernel
theorem dX4_print_139 : decode cX4_print 139 = .ok (.iload_n 3, 1) := by decide +kernel
theorem dX4_print_140 : decode cX4_print 140 = .ok (.laload, 1) := by decide +kernel
theorem dX4_print_141 : decode cX4_print 141 = .ok (.invokevirtual 142, 3) := by decide +kernel
theorem dX4_print_144 : decode cX4_print 144 = .ok (.aload_n 0, 1) := by decide +kernel
theorem dX4_print_145 : decode cX4_print 145 = .ok (.aload_n 0, 1) := by decide +kernel
theorem dX4_print_146 : decode cX4_print 146 = .ok (.getfield 45, 3) := by decide +kernel
theorem dX4_print_149 : decode cX4_print 149 = .ok (.iload_n 3, 1) := by decide +kernel
theorem dX4_print_150 : decode cX4_print 150 = .ok (.iaload, 1) := by decide +kernel
theorem dX4_print_151 : decode cX4_print 151 = .ok (.invokestatic 146, 3) := by decide +kernel
theorem dX4_print_154 : decode cX4_print 154 = .ok (.invokevirtual 138, 3) := by decide +kernel
theorem dX4_print_157 : decode cX4_print 157 = .ok (.iinc 3 1, 3) := by decide +kernel
theorem dX4_print_160 : decode cX4_print 160 = .ok (.goto (-62), 3) := by decide +kernel
theorem dX4_print_163 : decode cX4_print 163 = .ok (.aload_n 0, 1) := by decide +kernel
theorem dX4_print_164 : decode cX4_print 164 = .ok (.getfield 129, 3) := by decide +kernel
theorem dX4_print_167 : decode cX4_print 167 = .ok (.ireturn, 1) := by decide +kernel
end
section
/-! POOL ROWS: a world that is one map from addresses to cells: 'va_pl L f' alone. -/
section PW
variable {p : Program} {l : Launch} {e : Env} {R : Room} {s : State} {m : MethodId} {args : Array Value} {below : List Frame} {meth : Method} {c : Code} {H : Heap} {locs : List Loc} {cells slots : Nat} {Q : State → Prop}
variable {cc : ByteArray} {pc : Nat} {ls : Array Slot} {rest : List Value} {D : va_G} {cl : List vw_C} {A : Nat → Prop} {a : Nat} {tys : List (ClassId × FieldType)} {H0 : Heap} {L : List Nat} {f : Nat → va_E}
theorem pw_at (h : a ∈ L) : ∃ k : Nat, (va_pl L f)[k]? = some (a, f a) := va_pl_get (X := []) h
theorem pw_set {k : Nat} {x : va_E} (hD : va_D A (va_pl L f)) (h : a ∈ L) (hk : (va_pl L f)[k]? = some (a, f a)) : (va_pl L f).set k (a, x) = va_pl L (va_up f a x) := va_pl_set (X := []) hD h hk
theorem pw_get (hexec : p.tables.exec = Jvm.exec) (hb : c.code = cc) {own ref C : String} {T : u_T} {N ci index : Nat} {Ts : List Cond} (hts : ∀ w ∈ Ts, w.before args s = true) (hin : ∀ w ∈ u_ws C T N, w ∈ Ts) (hown : s.vm.findClass own = some m.cls) (hK : va_K D cl tys s) (hP : va_P D cl (va_pl L f) H) (hm : a ∈ L) {fs : List Value} (he : f a = .inr (ci, fs)) (hc : cl[ci]? = some (C, T, N)) (k : Nat) (hk : k < N) (hlink : (Cond.fieldLink own index ref (T k).2.1 (T k).2.2.1).before args s = true) (hsame : ∀ x, s.fieldFound? (T k).1 (T k).2.1 (T k).2.2.1 = some x → s.fieldFound? ref (T k).2.1 (T k).2.2.1 = some x) {v : Value} (hv : fs[k]? = some v) (hdg : decode cc pc = .ok (.getfield index, 3))
    (kk : W p l e R s m args below meth c H locs cells slots Q (F0 m (pc + 3) ls (v :: rest))) : W p l e R s m args below meth c H locs cells slots Q (F0 m pc ls (.ref a :: rest)) := by
  obtain ⟨q0, hq⟩ := pw_at (f := f) hm
  rw [he] at hq
  exact va_get hexec hb hts hin hown hK hP q0 hq hc k hk hlink hsame hv hdg kk
theorem pw_put (hexec : p.tables.exec = Jvm.exec) (hb : c.code = cc) {own ref C : String} {T : u_T} {N ci index : Nat} {Ts : List Cond} (hts : ∀ w ∈ Ts, w.before args s = true) (hin : ∀ w ∈ u_ws C T N, w ∈ Ts) (ty0 : Nat → FieldType) (hty : ∀ k, k < N → parseFieldDescriptor (T k).2.2.1 = some (ty0 k)) (hnm : ∀ a, a < N → ∀ b, b < N → a ≠ b → (T a).2.1 ≠ (T b).2.1) (hown : s.vm.findClass own = some m.cls) (hK : va_K D cl tys s) (hP : va_P D cl (va_pl L f) H) (hD : va_D A (va_pl L f)) (hS : va_S A H0 H locs) (hm : a ∈ L) {fs : List Value} (he : f a = .inr (ci, fs)) (hc : cl[ci]? = some (C, T, N)) (k : Nat) (hk : k < N) (hlink : (Cond.fieldLink own index ref (T k).2.1 (T k).2.2.1).before args s = true) (hsame : ∀ x, s.fieldFound? (T k).1 (T k).2.1 (T k).2.2.1 = some x → s.fieldFound? ref (T k).2.1 (T k).2.2.1 = some x) (hfin : (T k).2.2.2 = false) {ty : FieldType} {v : Value} (hd : parseFieldDescriptor (T k).2.2.1 = some ty) (hn : narrow ty v = v) (hfit : fits ty v = true) (hl : k < fs.length)
    (hdg : decode cc pc = .ok (.putfield index, 3)) (kk : ∀ (H1 : Heap) (locs1 : List Loc), va_P D cl (va_pl L (va_up f a (.inr (ci, fs.set k v)))) H1 → va_D A (va_pl L (va_up f a (.inr (ci, fs.set k v)))) → va_S A H0 H1 locs1 → W p l e R s m args below meth c H1 locs1 cells slots Q (F0 m (pc + 3) ls rest)) : W p l e R s m args below meth c H locs cells slots Q (F0 m pc ls (v :: .ref a :: rest)) := by
  obtain ⟨q0, hq⟩ := pw_at (f := f) hm
  have hq' := hq
  rw [he] at hq
  refine va_put hexec hb hts hin ty0 hty hnm hown hK hP hD hS q0 hq hc k hk hlink hsame hfin hd hn hfit hl hdg (fun H1 locs1 hP1 hD1 hS1 => ?_)
  rw [pw_set hD hm hq'] at hP1 hD1
  exact kk H1 locs1 hP1 hD1 hS1
theorem pw_putF (hexec : p.tables.exec = Jvm.exec) (hb : c.code = cc) {own ref C : String} {T : u_T} {N ci index : Nat} {Ts : List Cond} (hts : ∀ w ∈ Ts, w.before args s = true) (hin : ∀ w ∈ u_ws C T N, w ∈ Ts) (ty0 : Nat → FieldType) (hty : ∀ k, k < N → parseFieldDescriptor (T k).2.2.1 = some (ty0 k)) (hnm : ∀ a, a < N → ∀ b, b < N → a ≠ b → (T a).2.1 ≠ (T b).2.1) (hown : s.vm.findClass own = some m.cls) (hK : va_K D cl tys s) (hP : va_P D cl (va_pl L f) H) (hD : va_D A (va_pl L f)) (hS : va_S A H0 H locs) (hm : a ∈ L) {fs : List Value} (he : f a = .inr (ci, fs)) (hc : cl[ci]? = some (C, T, N)) (k : Nat) (hk : k < N) (hlink : (Cond.fieldLink own index ref (T k).2.1 (T k).2.2.1).before args s = true) (hsame : ∀ x, s.fieldFound? (T k).1 (T k).2.1 (T k).2.2.1 = some x → s.fieldFound? ref (T k).2.1 (T k).2.2.1 = some x) (hfin : (T k).2.2.2 = true) (hin2 : meth.name = "<init>") (hdecl : (T k).1 = own) {ty : FieldType} {v : Value} (hd : parseFieldDescriptor (T k).2.2.1 = some ty) (hn : narrow ty v = v) (hfit : fits ty v = true) (hl : k < fs.length)
    (hdg : decode cc pc = .ok (.putfield index, 3)) (kk : ∀ (H1 : Heap) (locs1 : List Loc), va_P D cl (va_pl L (va_up f a (.inr (ci, fs.set k v)))) H1 → va_D A (va_pl L (va_up f a (.inr (ci, fs.set k v)))) → va_S A H0 H1 locs1 → W p l e R s m args below meth c H1 locs1 cells slots Q (F0 m (pc + 3) ls rest)) : W p l e R s m args below meth c H locs cells slots Q (F0 m pc ls (v :: .ref a :: rest)) := by
  obtain ⟨q0, hq⟩ := pw_at (f := f) hm
  have hq' := hq
  rw [he] at hq
  refine va_putF hexec hb hts hin ty0 hty hnm hown hK hP hD hS q0 hq hc k hk hlink hsame hfin hin2 hdecl hd hn hfit hl hdg (fun H1 locs1 hP1 hD1 hS1 => ?_)
  rw [pw_set hD hm hq'] at hP1 hD1
  exact kk H1 locs1 hP1 hD1 hS1
theorem pw_iald (hexec : p.tables.exec = Jvm.exec) (hb : c.code = cc) (hK : va_K D cl tys s) (hP : va_P D cl (va_pl L f) H) (hm : a ∈ L) (t0 : Nat) {cA : ClassId} {n : Nat} {g : Nat → Int32} (he : f a = .inl (cA, n, .inl g)) (ht : tys[t0]? = some (cA, .int)) {i : Int32} (hin : vp_in i n) (hdg : decode cc pc = .ok (.iaload, 1))
    (kk : W p l e R s m args below meth c H locs cells slots Q (F0 m (pc + 1) ls (.int (g i.toNatClampNeg) :: rest))) : W p l e R s m args below meth c H locs cells slots Q (F0 m pc ls (.int i :: .ref a :: rest)) := by
  obtain ⟨q0, hq⟩ := pw_at (f := f) hm
  rw [he] at hq
  exact va_iald hexec hb hK hP q0 t0 hq ht hin hdg kk
theorem pw_bald (hexec : p.tables.exec = Jvm.exec) (hb : c.code = cc) (hK : va_K D cl tys s) (hP : va_P D cl (va_pl L f) H) (hm : a ∈ L) (t0 : Nat) {cA : ClassId} {n : Nat} {g : Nat → Int32} (he : f a = .inl (cA, n, .inl g)) (ht : tys[t0]? = some (cA, .byte)) {i : Int32} (hin : vp_in i n) (hdg : decode cc pc = .ok (.baload, 1))
    (kk : W p l e R s m args below meth c H locs cells slots Q (F0 m (pc + 1) ls (.int (g i.toNatClampNeg) :: rest))) : W p l e R s m args below meth c H locs cells slots Q (F0 m pc ls (.int i :: .ref a :: rest)) := by
  obtain ⟨q0, hq⟩ := pw_at (f := f) hm
  rw [he] at hq
  exact va_bald hexec hb hK hP q0 t0 hq ht hin hdg kk
theorem pw_zald (hexec : p.tables.exec = Jvm.exec) (hb : c.code = cc) (hK : va_K D cl tys s) (hP : va_P D cl (va_pl L f) H) (hm : a ∈ L) (t0 : Nat) {cA : ClassId} {n : Nat} {g : Nat → Int32} (he : f a = .inl (cA, n, .inl g)) (ht : tys[t0]? = some (cA, .boolean)) {i : Int32} (hin : vp_in i n) (hdg : decode cc pc = .ok (.baload, 1))
    (kk : W p l e R s m args below meth c H locs cells slots Q (F0 m (pc + 1) ls (.int (g i.toNatClampNeg) :: rest))) : W p l e R s m args below meth c H locs cells slots Q (F0 m pc ls (.int i :: .ref a :: rest)) := by
  obtain ⟨q0, hq⟩ := pw_at (f := f) hm
  rw [he] at hq
  exact va_zald hexec hb hK hP q0 t0 hq ht hin hdg kk
theorem pw_lald (hexec : p.tables.exec = Jvm.exec) (hb : c.code = cc) (hK : va_K D cl tys s) (hP : va_P D cl (va_pl L f) H) (hm : a ∈ L) (t0 : Nat) {cA : ClassId} {n : Nat} {g : Nat → Int64} (he : f a = .inl (cA, n, .inr (.inl g))) (ht : tys[t0]? = some (cA, .long)) {i : Int32} (hin : vp_in i n) (hdg : decode cc pc = .ok (.laload, 1))
    (kk : W p l e R s m args below meth c H locs cells slots Q (F0 m (pc + 1) ls (.long (g i.toNatClampNeg) :: rest))) : W p l e R s m args below meth c H locs cells slots Q (F0 m pc ls (.int i :: .ref a :: rest)) := by
  obtain ⟨q0, hq⟩ := pw_at (f := f) hm
  rw [he] at hq
  exact va_lald hexec hb hK hP q0 t0 hq ht hin hdg kk
theorem pw_aldq (hexec : p.tables.exec = Jvm.exec) (hb : c.code = cc) (hK : va_K D cl tys s) (hP : va_P D cl (va_pl L f) H) (hm : a ∈ L) (t0 : Nat) {cA : ClassId} {C : String} {n : Nat} {g : Nat → Option Nat} (he : f a = .inl (cA, n, .inr (.inr (.inr (.inr g))))) (ht : tys[t0]? = some (cA, .object C)) {i : Int32} (hin : vp_in i n) (hdg : decode cc pc = .ok (.aaload, 1))
    (kk : W p l e R s m args below meth c H locs cells slots Q (F0 m (pc + 1) ls (va_rf (g i.toNatClampNeg) :: rest))) : W p l e R s m args below meth c H locs cells slots Q (F0 m pc ls (.int i :: .ref a :: rest)) := by
  obtain ⟨q0, hq⟩ := pw_at (f := f) hm
  rw [he] at hq
  exact va_aldq hexec hb hK hP q0 t0 hq ht hin hdg kk
theorem pw_alen (hexec : p.tables.exec = Jvm.exec) (hb : c.code = cc) (hK : va_K D cl tys s) (hP : va_P D cl (va_pl L f) H) (hm : a ∈ L) (t0 : Nat) {cA : ClassId} {x : vp_A} (he : f a = .inl (cA, x)) {ty : FieldType} (ht : tys[t0]? = some (cA, ty)) {v : Int32} (hv : Int32.ofNat x.1 = v) (hdg : decode cc pc = .ok (.arraylength, 1))
    (kk : W p l e R s m args below meth c H locs cells slots Q (F0 m (pc + 1) ls (.int v :: rest))) : W p l e R s m args below meth c H locs cells slots Q (F0 m pc ls (.ref a :: rest)) := by
  obtain ⟨q0, hq⟩ := pw_at (f := f) hm
  rw [he] at hq
  exact va_alen hexec hb hK hP q0 t0 hq ht hv hdg kk
theorem pw_iast (hexec : p.tables.exec = Jvm.exec) (hb : c.code = cc) (hK : va_K D cl tys s) (hP : va_P D cl (va_pl L f) H) (hD : va_D A (va_pl L f)) (hS : va_S A H0 H locs) (hm : a ∈ L) (t0 : Nat) {cA : ClassId} {n : Nat} {g : Nat → Int32} (he : f a = .inl (cA, n, .inl g)) (ht : tys[t0]? = some (cA, .int)) {i : Int32} {x : Int32} (hin : vp_in i n) (hdg : decode cc pc = .ok (.iastore, 1))
    (kk : ∀ (H1 : Heap) (locs1 : List Loc), va_P D cl (va_pl L (va_up f a (.inl (cA, n, .inl (upd g i.toNatClampNeg x))))) H1 → va_D A (va_pl L (va_up f a (.inl (cA, n, .inl (upd g i.toNatClampNeg x))))) → va_S A H0 H1 locs1 → W p l e R s m args below meth c H1 locs1 cells slots Q (F0 m (pc + 1) ls rest)) : W p l e R s m args below meth c H locs cells slots Q (F0 m pc ls (.int x :: .int i :: .ref a :: rest)) := by
  obtain ⟨q0, hq⟩ := pw_at (f := f) hm
  have hq' := hq
  rw [he] at hq
  refine va_iast hexec hb hK hP hD hS q0 t0 hq ht hin hdg (fun H1 locs1 hP1 hD1 hS1 => ?_)
  rw [pw_set hD hm hq'] at hP1 hD1
  exact kk H1 locs1 hP1 hD1 hS1
theorem pw_bast (hexec : p.tables.exec = Jvm.exec) (hb : c.code = cc) (hK : va_K D cl tys s) (hP : va_P D cl (va_pl L f) H) (hD : va_D A (va_pl L f)) (hS : va_S A H0 H locs) (hm : a ∈ L) (t0 : Nat) {cA : ClassId} {n : Nat} {g : Nat → Int32} (he : f a = .inl (cA, n, .inl g)) (ht : tys[t0]? = some (cA, .byte)) {i : Int32} {x : Int32} (hin : vp_in i n) (hdg : decode cc pc = .ok (.bastore, 1))
    (kk : ∀ (H1 : Heap) (locs1 : List Loc), va_P D cl (va_pl L (va_up f a (.inl (cA, n, .inl (upd g i.toNatClampNeg (vp_nar .byte x)))))) H1 → va_D A (va_pl L (va_up f a (.inl (cA, n, .inl (upd g i.toNatClampNeg (vp_nar .byte x)))))) → va_S A H0 H1 locs1 → W p l e R s m args below meth c H1 locs1 cells slots Q (F0 m (pc + 1) ls rest)) : W p l e R s m args below meth c H locs cells slots Q (F0 m pc ls (.int x :: .int i :: .ref a :: rest)) := by
  obtain ⟨q0, hq⟩ := pw_at (f := f) hm
  have hq' := hq
  rw [he] at hq
  refine va_bast hexec hb hK hP hD hS q0 t0 hq ht hin hdg (fun H1 locs1 hP1 hD1 hS1 => ?_)
  rw [pw_set hD hm hq'] at hP1 hD1
  exact kk H1 locs1 hP1 hD1 hS1
theorem pw_zast (hexec : p.tables.exec = Jvm.exec) (hb : c.code = cc) (hK : va_K D cl tys s) (hP : va_P D cl (va_pl L f) H) (hD : va_D A (va_pl L f)) (hS : va_S A H0 H locs) (hm : a ∈ L) (t0 : Nat) {cA : ClassId} {n : Nat} {g : Nat → Int32} (he : f a = .inl (cA, n, .inl g)) (ht : tys[t0]? = some (cA, .boolean)) {i : Int32} {x : Int32} (hin : vp_in i n) (hdg : decode cc pc = .ok (.bastore, 1))
    (kk : ∀ (H1 : Heap) (locs1 : List Loc), va_P D cl (va_pl L (va_up f a (.inl (cA, n, .inl (upd g i.toNatClampNeg (vp_nar .boolean x)))))) H1 → va_D A (va_pl L (va_up f a (.inl (cA, n, .inl (upd g i.toNatClampNeg (vp_nar .boolean x)))))) → va_S A H0 H1 locs1 → W p l e R s m args below meth c H1 locs1 cells slots Q (F0 m (pc + 1) ls rest)) : W p l e R s m args below meth c H locs cells slots Q (F0 m pc ls (.int x :: .int i :: .ref a :: rest)) := by
  obtain ⟨q0, hq⟩ := pw_at (f := f) hm
  have hq' := hq
  rw [he] at hq
  refine va_zast hexec hb hK hP hD hS q0 t0 hq ht hin hdg (fun H1 locs1 hP1 hD1 hS1 => ?_)
  rw [pw_set hD hm hq'] at hP1 hD1
  exact kk H1 locs1 hP1 hD1 hS1
theorem pw_last (hexec : p.tables.exec = Jvm.exec) (hb : c.code = cc) (hK : va_K D cl tys s) (hP : va_P D cl (va_pl L f) H) (hD : va_D A (va_pl L f)) (hS : va_S A H0 H locs) (hm : a ∈ L) (t0 : Nat) {cA : ClassId} {n : Nat} {g : Nat → Int64} (he : f a = .inl (cA, n, .inr (.inl g))) (ht : tys[t0]? = some (cA, .long)) {i : Int32} {x : Int64} (hin : vp_in i n) (hdg : decode cc pc = .ok (.lastore, 1))
    (kk : ∀ (H1 : Heap) (locs1 : List Loc), va_P D cl (va_pl L (va_up f a (.inl (cA, n, .inr (.inl (vp_updL g i.toNatClampNeg x)))))) H1 → va_D A (va_pl L (va_up f a (.inl (cA, n, .inr (.inl (vp_updL g i.toNatClampNeg x)))))) → va_S A H0 H1 locs1 → W p l e R s m args below meth c H1 locs1 cells slots Q (F0 m (pc + 1) ls rest)) : W p l e R s m args below meth c H locs cells slots Q (F0 m pc ls (.long x :: .int i :: .ref a :: rest)) := by
  obtain ⟨q0, hq⟩ := pw_at (f := f) hm
  have hq' := hq
  rw [he] at hq
  refine va_last hexec hb hK hP hD hS q0 t0 hq ht hin hdg (fun H1 locs1 hP1 hD1 hS1 => ?_)
  rw [pw_set hD hm hq'] at hP1 hD1
  exact kk H1 locs1 hP1 hD1 hS1
theorem pw_astq (hexec : p.tables.exec = Jvm.exec) (hb : c.code = cc) (hK : va_K D cl tys s) (hP : va_P D cl (va_pl L f) H) (hD : va_D A (va_pl L f)) (hS : va_S A H0 H locs) (hm : a ∈ L) (t0 ci : Nat) {cA : ClassId} {r : vw_C} {n v : Nat} {vs : List Value} {g : Nat → Option Nat} (he : f a = .inl (cA, n, .inr (.inr (.inr (.inr g))))) (ht : tys[t0]? = some (cA, .object r.1)) (hm2 : v ∈ L) (hv : f v = .inr (ci, vs)) (hc : cl[ci]? = some r) {i : Int32} (hin : vp_in i n) (hdg : decode cc pc = .ok (.aastore, 1))
    (kk : ∀ (H1 : Heap) (locs1 : List Loc), va_P D cl (va_pl L (va_up f a (.inl (cA, n, .inr (.inr (.inr (.inr (va_up g i.toNatClampNeg (some v))))))))) H1 → va_D A (va_pl L (va_up f a (.inl (cA, n, .inr (.inr (.inr (.inr (va_up g i.toNatClampNeg (some v))))))))) → va_S A H0 H1 locs1 → W p l e R s m args below meth c H1 locs1 cells slots Q (F0 m (pc + 1) ls rest)) : W p l e R s m args below meth c H locs cells slots Q (F0 m pc ls (.ref v :: .int i :: .ref a :: rest)) := by
  obtain ⟨q0, hq⟩ := pw_at (f := f) hm
  obtain ⟨q1, hq1⟩ := pw_at (f := f) hm2
  have hq' := hq
  rw [he] at hq
  rw [hv] at hq1
  refine va_astq hexec hb hK hP hD hS q0 t0 q1 ci hq ht hq1 hc hin hdg (fun H1 locs1 hP1 hD1 hS1 => ?_)
  rw [pw_set hD hm hq'] at hP1 hD1
  exact kk H1 locs1 hP1 hD1 hS1
/-- a fresh cell goes into the pool -/
theorem pw_push {q : Nat} {x : va_E} (h : q ∉ L) : va_pl L f ++ [(q, x)] = va_pl (L ++ [q]) (va_up f q x) := va_pl_push h
theorem pw_new {c0 : Code} (hexec : p.tables.exec = Jvm.exec) (hb : c0.code = cc) {own C : String} {T : u_T} {N ci index : Nat} {Ts : List Cond} (hts : ∀ w ∈ Ts, w.before args s = true) (hin : ∀ w ∈ u_ws C T N, w ∈ Ts) (ty : Nat → FieldType) (hty : ∀ k, k < N → parseFieldDescriptor (T k).2.2.1 = some (ty k)) (hown : s.vm.findClass own = some m.cls) (hcl : (Cond.classLink own index C).before args s = true) (hinst : (Cond.instantiable C N).before args s = true) (hini : (Cond.initialized C).before args s = true)
    (hK : va_K D cl tys s) (hP : va_P D cl (va_pl L f) H) (hD : va_D A (va_pl L f)) (hS : va_S A H0 H locs) (hA : ∀ q, H0.size ≤ q → A q) (hc : cl[ci]? = some (C, T, N)) {fs : List Value} (hfs : ∀ j, j < N → defaultValue (ty j) = vp_V fs j) (hcells : cells + 1 ≤ R.cells) (hslots : slots + N ≤ R.slots) (hdg : decode cc pc = .ok (.new index, 3))
    (kk : ∀ (q : Nat) (H1 : Heap), q ∉ L → va_P D cl (va_pl (L ++ [q]) (va_up f q (.inr (ci, fs)))) H1 → va_D A (va_pl (L ++ [q]) (va_up f q (.inr (ci, fs)))) → va_S A H0 H1 locs →
      W p l e R s m args below meth c0 H1 locs (cells + 1) (slots + N) Q (F0 m (pc + 3) ls (.ref q :: rest))) : W p l e R s m args below meth c0 H locs cells slots Q (F0 m pc ls rest) := by
  refine va_new hexec hb hts hin ty hty hown hcl hinst hini hK hP hD hS hA hc hfs hcells hslots hdg (fun q H1 hP1 hD1 hS1 => ?_)
  have hq : q ∉ L := va_pl_fresh2 (X := []) hD1
  rw [pw_push hq] at hP1 hD1
  exact kk q H1 hq hP1 hD1 hS1
theorem pw_newa (hexec : p.tables.exec = Jvm.exec) (hb : c.code = cc) {atype : ArrayType} (harr : (Cond.arrayClass (newarray.typeOf atype)).before args s = true) {ty : FieldType} (hty : newarray.typeOf atype = ty) (hK : va_K D cl tys s) (hP : va_P D cl (va_pl L f) H) (hD : va_D A (va_pl L f)) (hS : va_S A H0 H locs) (hA : ∀ q, H0.size ≤ q → A q) (t0 : Nat) {cA : ClassId} (ht : tys[t0]? = some (cA, ty)) (hra : ∀ z : ClassId, va_RA s z ty → s.vm.findClass ("[" ++ ty.toString) = some z)
    {n : Int32} {N' : Nat} {a0 : vp_A} (ha : ∀ cA : ClassId, vp_cell cA a0 = arrV cA N' (fun _ => defaultValue ty)) (hn : ¬ n < 0) (hN : n.toNatClampNeg = N') (hbytes : N' * componentBytes ty ≤ 536870912) (hcells : cells + 1 ≤ R.cells) (hslots : slots + N' ≤ R.slots) (hdg : decode cc pc = .ok (.newarray atype, 2))
    (kk : ∀ (q : Nat) (H1 : Heap), q ∉ L → va_P D cl (va_pl (L ++ [q]) (va_up f q (.inl (cA, a0)))) H1 → va_D A (va_pl (L ++ [q]) (va_up f q (.inl (cA, a0)))) → va_S A H0 H1 locs →
      W p l e R s m args below meth c H1 locs (cells + 1) (slots + N') Q (F0 m (pc + 2) ls (.ref q :: rest))) : W p l e R s m args below meth c H locs cells slots Q (F0 m pc ls (.int n :: rest)) := by
  refine va_newa hexec hb harr hty hK hP hD hS hA ha hn hN hbytes hcells hslots hdg (fun q cB H1 hK1 hP1 hD1 hS1 => ?_)
  have h1 := hra cA (hK.2 t0 _ ht).2
  have h2 := hra cB (hK1.2 tys.length (cB, ty) (by rw [List.getElem?_append_right (Nat.le_refl _), Nat.sub_self]; rfl)).2
  have he : cB = cA := Option.some.inj (h2.symm.trans h1)
  subst he
  have hq : q ∉ L := va_pl_fresh2 (X := []) hD1
  rw [pw_push hq] at hP1 hD1
  exact kk q H1 hq hP1 hD1 hS1
theorem pw_newq (hexec : p.tables.exec = Jvm.exec) (hb : c.code = cc) {own C : String} {index : Nat} (hown : s.vm.findClass own = some m.cls) (hclink : (Cond.classLink own index C).before args s = true) (hover : va_AO C s) (hK : va_K D cl tys s) (hP : va_P D cl (va_pl L f) H) (hD : va_D A (va_pl L f)) (hS : va_S A H0 H locs) (hA : ∀ q, H0.size ≤ q → A q) (t0 : Nat) {cA : ClassId} (ht : tys[t0]? = some (cA, .object C))
    {n : Int32} {N' : Nat} (hn : ¬ n < 0) (hN : n.toNatClampNeg = N') (hbytes : N' * 4 ≤ 536870912) (hcells : cells + 1 ≤ R.cells) (hslots : slots + N' ≤ R.slots) (hdg : decode cc pc = .ok (.anewarray index, 3))
    (kk : ∀ (q : Nat) (H1 : Heap), q ∉ L → va_P D cl (va_pl (L ++ [q]) (va_up f q (.inl (cA, N', .inr (.inr (.inr (.inr (fun _ => none)))))))) H1 → va_D A (va_pl (L ++ [q]) (va_up f q (.inl (cA, N', .inr (.inr (.inr (.inr (fun _ => none)))))))) → va_S A H0 H1 locs →
      W p l e R s m args below meth c H1 locs (cells + 1) (slots + N') Q (F0 m (pc + 3) ls (.ref q :: rest))) : W p l e R s m args below meth c H locs cells slots Q (F0 m pc ls (.int n :: rest)) := by
  refine va_newq hexec hb hown hclink hover hK hP hD hS hA hn hN hbytes hcells hslots hdg (fun q cB H1 hK1 hP1 hD1 hS1 => ?_)
  obtain ⟨_, _, _, _, _, h1⟩ := (hK.2 t0 _ ht).2
  obtain ⟨_, _, _, _, _, h2⟩ := (hK1.2 tys.length (cB, .object C) (by rw [List.getElem?_append_right (Nat.le_refl _), Nat.sub_self]; rfl)).2
  have he : cB = cA := Option.some.inj (h2.symm.trans h1)
  subst he
  have hq : q ∉ L := va_pl_fresh2 (X := []) hD1
  rw [pw_push hq] at hP1 hD1
  exact kk q H1 hq hP1 hD1 hS1
/-- the receiver of a call -/
theorem pw_recv {ci : Nat} {q : vw_C} {fs : List Value} (hK : va_K D cl tys s) (hP : va_P D cl (va_pl L f) H) (hm : a ∈ L) (he : f a = .inr (ci, fs)) (hc : cl[ci]? = some q) : ∃ cell : Cell, H[a]? = some cell ∧ cell.vm.isStatics = false ∧ s.vm.findClass q.1 = some cell.cls := by
  obtain ⟨q0, hq⟩ := pw_at (f := f) hm
  rw [he] at hq
  exact va_recv hK hP hc hq
theorem pw_ialdN (hexec : p.tables.exec = Jvm.exec) (hb : c.code = cc) (hK : va_K D cl tys s) (hP : va_P D cl (va_pl L f) H) (hm : a ∈ L) (t0 : Nat) {cA : ClassId} {n k : Nat} {g : Nat → Int32} (he : f a = .inl (cA, n, .inl g)) (ht : tys[t0]? = some (cA, .int)) (hk : k < n) (hn : n < 2 ^ 31) (hdg : decode cc pc = .ok (.iaload, 1))
    (kk : W p l e R s m args below meth c H locs cells slots Q (F0 m (pc + 1) ls (.int (g k) :: rest))) : W p l e R s m args below meth c H locs cells slots Q (F0 m pc ls (.int (nI k) :: .ref a :: rest)) :=
  pw_iald hexec hb hK hP hm t0 he ht (vp_in_nI hk hn) hdg (by rw [nI_clamp (by omega)]; exact kk)
theorem pw_baldN (hexec : p.tables.exec = Jvm.exec) (hb : c.code = cc) (hK : va_K D cl tys s) (hP : va_P D cl (va_pl L f) H) (hm : a ∈ L) (t0 : Nat) {cA : ClassId} {n k : Nat} {g : Nat → Int32} (he : f a = .inl (cA, n, .inl g)) (ht : tys[t0]? = some (cA, .byte)) (hk : k < n) (hn : n < 2 ^ 31) (hdg : decode cc pc = .ok (.baload, 1))
    (kk : W p l e R s m args below meth c H locs cells slots Q (F0 m (pc + 1) ls (.int (g k) :: rest))) : W p l e R s m args below meth c H locs cells slots Q (F0 m pc ls (.int (nI k) :: .ref a :: rest)) :=
  pw_bald hexec hb hK hP hm t0 he ht (vp_in_nI hk hn) hdg (by rw [nI_clamp (by omega)]; exact kk)
theorem pw_zaldN (hexec : p.tables.exec = Jvm.exec) (hb : c.code = cc) (hK : va_K D cl tys s) (hP : va_P D cl (va_pl L f) H) (hm : a ∈ L) (t0 : Nat) {cA : ClassId} {n k : Nat} {g : Nat → Int32} (he : f a = .inl (cA, n, .inl g)) (ht : tys[t0]? = some (cA, .boolean)) (hk : k < n) (hn : n < 2 ^ 31) (hdg : decode cc pc = .ok (.baload, 1))
    (kk : W p l e R s m args below meth c H locs cells slots Q (F0 m (pc + 1) ls (.int (g k) :: rest))) : W p l e R s m args below meth c H locs cells slots Q (F0 m pc ls (.int (nI k) :: .ref a :: rest)) :=
  pw_zald hexec hb hK hP hm t0 he ht (vp_in_nI hk hn) hdg (by rw [nI_clamp (by omega)]; exact kk)
theorem pw_laldN (hexec : p.tables.exec = Jvm.exec) (hb : c.code = cc) (hK : va_K D cl tys s) (hP : va_P D cl (va_pl L f) H) (hm : a ∈ L) (t0 : Nat) {cA : ClassId} {n k : Nat} {g : Nat → Int64} (he : f a = .inl (cA, n, .inr (.inl g))) (ht : tys[t0]? = some (cA, .long)) (hk : k < n) (hn : n < 2 ^ 31) (hdg : decode cc pc = .ok (.laload, 1))
    (kk : W p l e R s m args below meth c H locs cells slots Q (F0 m (pc + 1) ls (.long (g k) :: rest))) : W p l e R s m args below meth c H locs cells slots Q (F0 m pc ls (.int (nI k) :: .ref a :: rest)) :=
  pw_lald hexec hb hK hP hm t0 he ht (vp_in_nI hk hn) hdg (by rw [nI_clamp (by omega)]; exact kk)
theorem pw_aldqN (hexec : p.tables.exec = Jvm.exec) (hb : c.code = cc) (hK : va_K D cl tys s) (hP : va_P D cl (va_pl L f) H) (hm : a ∈ L) (t0 : Nat) {cA : ClassId} {C : String} {n k : Nat} {g : Nat → Option Nat} (he : f a = .inl (cA, n, .inr (.inr (.inr (.inr g))))) (ht : tys[t0]? = some (cA, .object C)) (hk : k < n) (hn : n < 2 ^ 31) (hdg : decode cc pc = .ok (.aaload, 1))
    (kk : W p l e R s m args below meth c H locs cells slots Q (F0 m (pc + 1) ls (va_rf (g k) :: rest))) : W p l e R s m args below meth c H locs cells slots Q (F0 m pc ls (.int (nI k) :: .ref a :: rest)) :=
  pw_aldq hexec hb hK hP hm t0 he ht (vp_in_nI hk hn) hdg (by rw [nI_clamp (by omega)]; exact kk)
theorem pw_iastN (hexec : p.tables.exec = Jvm.exec) (hb : c.code = cc) (hK : va_K D cl tys s) (hP : va_P D cl (va_pl L f) H) (hD : va_D A (va_pl L f)) (hS : va_S A H0 H locs) (hm : a ∈ L) (t0 : Nat) {cA : ClassId} {n k : Nat} {g : Nat → Int32} (he : f a = .inl (cA, n, .inl g)) (ht : tys[t0]? = some (cA, .int)) {x : Int32} (hk : k < n) (hn : n < 2 ^ 31) (hdg : decode cc pc = .ok (.iastore, 1))
    (kk : ∀ (H1 : Heap) (locs1 : List Loc), va_P D cl (va_pl L (va_up f a (.inl (cA, n, .inl (upd g k x))))) H1 → va_D A (va_pl L (va_up f a (.inl (cA, n, .inl (upd g k x))))) → va_S A H0 H1 locs1 → W p l e R s m args below meth c H1 locs1 cells slots Q (F0 m (pc + 1) ls rest)) : W p l e R s m args below meth c H locs cells slots Q (F0 m pc ls (.int x :: .int (nI k) :: .ref a :: rest)) := by
  refine pw_iast hexec hb hK hP hD hS hm t0 he ht (vp_in_nI hk hn) hdg (fun H1 locs1 hP1 hD1 hS1 => ?_)
  rw [nI_clamp (by omega)] at hP1 hD1
  exact kk H1 locs1 hP1 hD1 hS1
theorem pw_bastN (hexec : p.tables.exec = Jvm.exec) (hb : c.code = cc) (hK : va_K D cl tys s) (hP : va_P D cl (va_pl L f) H) (hD : va_D A (va_pl L f)) (hS : va_S A H0 H locs) (hm : a ∈ L) (t0 : Nat) {cA : ClassId} {n k : Nat} {g : Nat → Int32} (he : f a = .inl (cA, n, .inl g)) (ht : tys[t0]? = some (cA, .byte)) {x : Int32} (hk : k < n) (hn : n < 2 ^ 31) (hdg : decode cc pc = .ok (.bastore, 1))
    (kk : ∀ (H1 : Heap) (locs1 : List Loc), va_P D cl (va_pl L (va_up f a (.inl (cA, n, .inl (upd g k (vp_nar .byte x)))))) H1 → va_D A (va_pl L (va_up f a (.inl (cA, n, .inl (upd g k (vp_nar .byte x)))))) → va_S A H0 H1 locs1 → W p l e R s m args below meth c H1 locs1 cells slots Q (F0 m (pc + 1) ls rest)) : W p l e R s m args below meth c H locs cells slots Q (F0 m pc ls (.int x :: .int (nI k) :: .ref a :: rest)) := by
  refine pw_bast hexec hb hK hP hD hS hm t0 he ht (vp_in_nI hk hn) hdg (fun H1 locs1 hP1 hD1 hS1 => ?_)
  rw [nI_clamp (by omega)] at hP1 hD1
  exact kk H1 locs1 hP1 hD1 hS1
theorem pw_zastN (hexec : p.tables.exec = Jvm.exec) (hb : c.code = cc) (hK : va_K D cl tys s) (hP : va_P D cl (va_pl L f) H) (hD : va_D A (va_pl L f)) (hS : va_S A H0 H locs) (hm : a ∈ L) (t0 : Nat) {cA : ClassId} {n k : Nat} {g : Nat → Int32} (he : f a = .inl (cA, n, .inl g)) (ht : tys[t0]? = some (cA, .boolean)) {x : Int32} (hk : k < n) (hn : n < 2 ^ 31) (hdg : decode cc pc = .ok (.bastore, 1))
    (kk : ∀ (H1 : Heap) (locs1 : List Loc), va_P D cl (va_pl L (va_up f a (.inl (cA, n, .inl (upd g k (vp_nar .boolean x)))))) H1 → va_D A (va_pl L (va_up f a (.inl (cA, n, .inl (upd g k (vp_nar .boolean x)))))) → va_S A H0 H1 locs1 → W p l e R s m args below meth c H1 locs1 cells slots Q (F0 m (pc + 1) ls rest)) : W p l e R s m args below meth c H locs cells slots Q (F0 m pc ls (.int x :: .int (nI k) :: .ref a :: rest)) := by
  refine pw_zast hexec hb hK hP hD hS hm t0 he ht (vp_in_nI hk hn) hdg (fun H1 locs1 hP1 hD1 hS1 => ?_)
  rw [nI_clamp (by omega)] at hP1 hD1
  exact kk H1 locs1 hP1 hD1 hS1
theorem pw_lastN (hexec : p.tables.exec = Jvm.exec) (hb : c.code = cc) (hK : va_K D cl tys s) (hP : va_P D cl (va_pl L f) H) (hD : va_D A (va_pl L f)) (hS : va_S A H0 H locs) (hm : a ∈ L) (t0 : Nat) {cA : ClassId} {n k : Nat} {g : Nat → Int64} (he : f a = .inl (cA, n, .inr (.inl g))) (ht : tys[t0]? = some (cA, .long)) {x : Int64} (hk : k < n) (hn : n < 2 ^ 31) (hdg : decode cc pc = .ok (.lastore, 1))
    (kk : ∀ (H1 : Heap) (locs1 : List Loc), va_P D cl (va_pl L (va_up f a (.inl (cA, n, .inr (.inl (vp_updL g k x)))))) H1 → va_D A (va_pl L (va_up f a (.inl (cA, n, .inr (.inl (vp_updL g k x)))))) → va_S A H0 H1 locs1 → W p l e R s m args below meth c H1 locs1 cells slots Q (F0 m (pc + 1) ls rest)) : W p l e R s m args below meth c H locs cells slots Q (F0 m pc ls (.long x :: .int (nI k) :: .ref a :: rest)) := by
  refine pw_last hexec hb hK hP hD hS hm t0 he ht (vp_in_nI hk hn) hdg (fun H1 locs1 hP1 hD1 hS1 => ?_)
  rw [nI_clamp (by omega)] at hP1 hD1
  exact kk H1 locs1 hP1 hD1 hS1
end PW
end
section
/-! CONTRACT FORMS over one pool: methods that only read (pr_), methods that write (pc_); X: what else they ask of the state -/
def pw_A (L : List Nat) (sz : Nat) : Nat → Prop := fun q => q ∈ L ∨ sz ≤ q
abbrev pw_M : Type := List Nat × (Nat → va_E)
def pr_P (av : List Value) (D : va_G) (cl : List vw_C) (tys : List (ClassId × FieldType)) (L : List Nat) (f : Nat → va_E) (X : State → Prop) : Array Value → State → Prop := va_Pc av (fun U => va_P D cl (va_pl L f) U.heap ∧ va_K D cl tys U ∧ X U)
def pc_P (av : List Value) (D : va_G) (cl : List vw_C) (tys : List (ClassId × FieldType)) (L : List Nat) (f : Nat → va_E) (sz : Nat) (X : State → Prop) : Array Value → State → Prop := va_Pc av (fun U => U.heap.size = sz ∧ va_P D cl (va_pl L f) U.heap ∧ va_K D cl tys U ∧ va_D (fun _ => True) (va_pl L f) ∧ X U)
def pc_B (D : va_G) (cl : List vw_C) (L : List Nat) (sz : Nat) (u : pw_M) (t : State) : Prop := va_P D cl (va_pl u.1 u.2) t.heap ∧ va_D (pw_A L sz) (va_pl u.1 u.2)
/-- X holds on when a call begins -/
def px_b (X : State → Prop) : Prop := ∀ (a : Array Value) (U : State) (g : JFrame) (mk : MethodId), X U → X (U.calling g mk a)
theorem px_T : px_b (fun _ => True) := fun _ _ _ _ _ => trivial
section PC
variable {p : Program} {l : Launch} {e : Env} {R : Room} {s : State} {m : MethodId} {args : Array Value} {below : List Frame} {meth : Method} {c : Code} {H : Heap} {locs : List Loc} {cells slots : Nat} {Q : State → Prop}
variable {cc : ByteArray} {pc : Nat} {ls : Array Slot} {rest st0 : List Value} {D : va_G} {cl : List vw_C} {A : Nat → Prop} {tys : List (ClassId × FieldType)} {H0 : Heap} {L : List Nat} {f : Nat → va_E} {X : State → Prop}
variable {y : MethodName} {bytes : ByteArray} {maxL nL mc ms n index ci : Nat} {ret : Option FieldType} {ws : List Cond} {rm : Room} {Ts : List Cond} {own C : String} {T : u_T} {N : Nat} {fs : List Value} {b : Nat} {As : List Value}
theorem pr_blind {av : List Value} (hX : px_b X) : FrameBlind (pr_P av D cl tys L f X) := fun a U g mk q => ⟨q.1, q.2.1, va_K.moved (u := U) (U := U.calling g mk a) (Vm.Alike.refl U.vm) q.2.2.1, hX a U g mk q.2.2.2⟩
theorem pc_blind {av : List Value} {sz : Nat} (hX : px_b X) : FrameBlind (pc_P av D cl tys L f sz X) := fun a U g mk q => ⟨q.1, q.2.1, q.2.2.1, va_K.moved (u := U) (U := U.calling g mk a) (Vm.Alike.refl U.vm) q.2.2.2.1, q.2.2.2.2.1, hX a U g mk q.2.2.2.2.2⟩
theorem pr_preS (hK : va_K D cl tys s) (hP : va_P D cl (va_pl L f) H) (hX : px_b X) (hXc : ∀ U : State, U.heap = H → s.WarmedH U.vm → X U) : PreS s H (pr_P As D cl tys L f X) As :=
  ⟨pr_blind hX, fun U hU hW => ⟨rfl, by rw [hU]; exact hP, va_K.moved hW.alike hK, hXc U hU hW⟩⟩
theorem pr_preV (hK : va_K D cl tys s) (hP : va_P D cl (va_pl L f) H) (hm : b ∈ L) (he : f b = .inr (ci, fs)) (hc : cl[ci]? = some (C, T, N)) (hX : px_b X) (hXc : ∀ U : State, U.heap = H → s.WarmedH U.vm → X U) : PreV s H C b (pr_P (.ref b :: As) D cl tys L f X) As :=
  ⟨pr_blind hX, pw_recv hK hP hm he hc, fun U hU hW => ⟨rfl, by rw [hU]; exact hP, va_K.moved hW.alike hK, hXc U hU hW⟩⟩
theorem pc_preS (hK : va_K D cl tys s) (hP : va_P D cl (va_pl L f) H) (hD : va_D A (va_pl L f)) (hX : px_b X) (hXc : ∀ U : State, U.heap = H → s.WarmedH U.vm → X U) : PreS s H (pc_P As D cl tys L f H.size X) As :=
  ⟨pc_blind hX, fun U hU hW => ⟨rfl, by rw [hU], by rw [hU]; exact hP, va_K.moved hW.alike hK, hD.weaken (fun _ _ _ _ => trivial), hXc U hU hW⟩⟩
theorem pc_preV (hK : va_K D cl tys s) (hP : va_P D cl (va_pl L f) H) (hD : va_D A (va_pl L f)) (hm : b ∈ L) (he : f b = .inr (ci, fs)) (hc : cl[ci]? = some (C, T, N)) (hX : px_b X) (hXc : ∀ U : State, U.heap = H → s.WarmedH U.vm → X U) : PreV s H C b (pc_P (.ref b :: As) D cl tys L f H.size X) As :=
  ⟨pc_blind hX, pw_recv hK hP hm he hc, fun U hU hW => ⟨rfl, by rw [hU], by rw [hU]; exact hP, va_K.moved hW.alike hK, hD.weaken (fun _ _ _ _ => trivial), hXc U hU hW⟩⟩
theorem pw_free (hD : va_D A (va_pl L f)) (hS : va_S A H0 H locs) (hA : ∀ q, H0.size ≤ q → A q) : ∀ q, pw_A L H.size q → A q := by
  intro q hq
  rcases hq with hq | hq
  · obtain ⟨k, hk⟩ := pw_at (f := f) hq
    exact hD.2 k _ hk
  · exact hA q (Nat.le_trans hS.1 hq)
theorem pw_selfD {sz : Nat} (hD : va_D A (va_pl L f)) : va_D (pw_A L sz) (va_pl L f) := ⟨hD.1, fun k q hk => Or.inl (by
  have h := List.mem_of_getElem? hk
  obtain ⟨z, hz, he⟩ := List.mem_map.mp h
  rw [← he]
  exact hz)⟩
-- calls of methods that only read
theorem pr_callVi {post : Int32 → Prop} (S : CallFix p m c cc nL s args Ts own) (hM : Met l y ws rm (pr_P (.ref b :: As) D cl tys L f X) (vp_Si post) 0 0 (fun _ => False)) (cw : CallW R s args own C index y bytes maxL ret ws rm 0 0 n) (hK : va_K D cl tys s) (hP : va_P D cl (va_pl L f) H) (hm : b ∈ L) (he : f b = .inr (ci, fs)) (hc : cl[ci]? = some (C, T, N)) (hX : px_b X) (hXc : ∀ U : State, U.heap = H → s.WarmedH U.vm → X U)
    (hn : As.length = n) (hsize : ls.size = nL) (hst : st0 = As.reverse ++ .ref b :: rest) (hW : 2 * (F0 m pc ls st0).monitorRoom + (rest.map fun v => v.category).sum ≤ 8) (hdg : decode cc pc = .ok (.invokevirtual index, 3)) (hf : cells + 0 ≤ R.cells ∧ slots + 0 ≤ R.slots)
    (kk : ∀ r : Int32, post r → W p l e R s m args below meth c H locs cells slots Q (F0 m (pc + 3) ls (.int r :: rest))) : W p l e R s m args below meth c H locs cells slots Q (F0 m pc ls st0) :=
  vp_callSi (W.runV S hM cw (pr_preV hK hP hm he hc hX hXc) rfl hn hsize hst hW hdg hf) kk
theorem pr_callVl {post : Int64 → Prop} (S : CallFix p m c cc nL s args Ts own) (hM : Met l y ws rm (pr_P (.ref b :: As) D cl tys L f X) (vp_Sl post) 0 0 (fun _ => False)) (cw : CallW R s args own C index y bytes maxL ret ws rm 0 0 n) (hK : va_K D cl tys s) (hP : va_P D cl (va_pl L f) H) (hm : b ∈ L) (he : f b = .inr (ci, fs)) (hc : cl[ci]? = some (C, T, N)) (hX : px_b X) (hXc : ∀ U : State, U.heap = H → s.WarmedH U.vm → X U)
    (hn : As.length = n) (hsize : ls.size = nL) (hst : st0 = As.reverse ++ .ref b :: rest) (hW : 2 * (F0 m pc ls st0).monitorRoom + (rest.map fun v => v.category).sum ≤ 8) (hdg : decode cc pc = .ok (.invokevirtual index, 3)) (hf : cells + 0 ≤ R.cells ∧ slots + 0 ≤ R.slots)
    (kk : ∀ r : Int64, post r → W p l e R s m args below meth c H locs cells slots Q (F0 m (pc + 3) ls (.long r :: rest))) : W p l e R s m args below meth c H locs cells slots Q (F0 m pc ls st0) :=
  vp_callSl (W.runV S hM cw (pr_preV hK hP hm he hc hX hXc) rfl hn hsize hst hW hdg hf) kk
theorem pr_callVq {post : Option Nat → Prop} (S : CallFix p m c cc nL s args Ts own) (hM : Met l y ws rm (pr_P (.ref b :: As) D cl tys L f X) (va_Sq post) 0 0 (fun _ => False)) (cw : CallW R s args own C index y bytes maxL ret ws rm 0 0 n) (hK : va_K D cl tys s) (hP : va_P D cl (va_pl L f) H) (hm : b ∈ L) (he : f b = .inr (ci, fs)) (hc : cl[ci]? = some (C, T, N)) (hX : px_b X) (hXc : ∀ U : State, U.heap = H → s.WarmedH U.vm → X U)
    (hn : As.length = n) (hsize : ls.size = nL) (hst : st0 = As.reverse ++ .ref b :: rest) (hW : 2 * (F0 m pc ls st0).monitorRoom + (rest.map fun v => v.category).sum ≤ 8) (hdg : decode cc pc = .ok (.invokevirtual index, 3)) (hf : cells + 0 ≤ R.cells ∧ slots + 0 ≤ R.slots)
    (kk : ∀ r : Option Nat, post r → W p l e R s m args below meth c H locs cells slots Q (F0 m (pc + 3) ls (va_rf r :: rest))) : W p l e R s m args below meth c H locs cells slots Q (F0 m pc ls st0) :=
  va_csq (W.runV S hM cw (pr_preV hK hP hm he hc hX hXc) rfl hn hsize hst hW hdg hf) kk
theorem pr_callSi {post : Int32 → Prop} (S : CallFix p m c cc nL s args Ts own) (hM : Met l y ws rm (pr_P As D cl tys L f X) (vp_Si post) 0 0 (fun _ => False)) (cw : CallB R s args own index y bytes maxL ret ws rm 0 0 n ∧ (Cond.static y).before args s = true) (hK : va_K D cl tys s) (hP : va_P D cl (va_pl L f) H) (hX : px_b X) (hXc : ∀ U : State, U.heap = H → s.WarmedH U.vm → X U)
    (hn : As.length = n) (hsize : ls.size = nL) (hst : st0 = As.reverse ++ rest) (hW : 2 * (F0 m pc ls st0).monitorRoom + (rest.map fun v => v.category).sum ≤ 8) (hdg : decode cc pc = .ok (.invokestatic index, 3)) (hf : cells + 0 ≤ R.cells ∧ slots + 0 ≤ R.slots)
    (kk : ∀ r : Int32, post r → W p l e R s m args below meth c H locs cells slots Q (F0 m (pc + 3) ls (.int r :: rest))) : W p l e R s m args below meth c H locs cells slots Q (F0 m pc ls st0) :=
  vp_callSi (W.runS S hM cw (pr_preS hK hP hX hXc) rfl hn hsize hst hW hdg hf) kk
theorem pr_callSl {post : Int64 → Prop} (S : CallFix p m c cc nL s args Ts own) (hM : Met l y ws rm (pr_P As D cl tys L f X) (vp_Sl post) 0 0 (fun _ => False)) (cw : CallB R s args own index y bytes maxL ret ws rm 0 0 n ∧ (Cond.static y).before args s = true) (hK : va_K D cl tys s) (hP : va_P D cl (va_pl L f) H) (hX : px_b X) (hXc : ∀ U : State, U.heap = H → s.WarmedH U.vm → X U)
    (hn : As.length = n) (hsize : ls.size = nL) (hst : st0 = As.reverse ++ rest) (hW : 2 * (F0 m pc ls st0).monitorRoom + (rest.map fun v => v.category).sum ≤ 8) (hdg : decode cc pc = .ok (.invokestatic index, 3)) (hf : cells + 0 ≤ R.cells ∧ slots + 0 ≤ R.slots)
    (kk : ∀ r : Int64, post r → W p l e R s m args below meth c H locs cells slots Q (F0 m (pc + 3) ls (.long r :: rest))) : W p l e R s m args below meth c H locs cells slots Q (F0 m pc ls st0) :=
  vp_callSl (W.runS S hM cw (pr_preS hK hP hX hXc) rfl hn hsize hst hW hdg hf) kk
-- calls of methods that write
theorem pc_callVi {post : Int32 → pw_M → Prop} (S : CallFix p m c cc nL s args Ts own) (hM : Met l y ws rm (pc_P (.ref b :: As) D cl tys L f H.size X) (va_Qi post (pc_B D cl L H.size) (pw_A L H.size)) mc ms (pw_A L H.size)) (cw : CallW R s args own C index y bytes maxL ret ws rm mc ms n) (hK : va_K D cl tys s) (hP : va_P D cl (va_pl L f) H) (hD : va_D A (va_pl L f)) (hS : va_S A H0 H locs) (hA : ∀ q, H0.size ≤ q → A q) (hm : b ∈ L) (he : f b = .inr (ci, fs)) (hc : cl[ci]? = some (C, T, N)) (hX : px_b X) (hXc : ∀ U : State, U.heap = H → s.WarmedH U.vm → X U)
    (hn : As.length = n) (hsize : ls.size = nL) (hst : st0 = As.reverse ++ .ref b :: rest) (hW : 2 * (F0 m pc ls st0).monitorRoom + (rest.map fun v => v.category).sum ≤ 8) (hdg : decode cc pc = .ok (.invokevirtual index, 3)) (hf : cells + mc ≤ R.cells ∧ slots + ms ≤ R.slots)
    (kk : ∀ (r : Int32) (L1 : List Nat) (f1 : Nat → va_E) (H1 : Heap) (locs1 : List Loc), post r (L1, f1) → va_P D cl (va_pl L1 f1) H1 → va_D A (va_pl L1 f1) → va_S A H0 H1 locs1 → W p l e R s m args below meth c H1 locs1 (cells + mc) (slots + ms) Q (F0 m (pc + 3) ls (.int r :: rest))) : W p l e R s m args below meth c H locs cells slots Q (F0 m pc ls st0) := by
  have hF := pw_free hD hS hA
  refine va_calli (va_runV S hM cw (pc_preV hK hP hD hm he hc hX hXc) rfl hn hsize hst hW hdg hf) hS (fun q _ h => hF q h) hF (fun r u t H1 locs1 ht hvm hp hB hz hk hS1 => ?_)
  obtain ⟨L1, f1⟩ := u
  exact kk r L1 f1 H1 locs1 hp (by rw [← ht]; exact hB.1) (hB.2.weaken (fun k q _ h => hF q.1 h)) hS1
theorem pc_callVv {post : pw_M → Prop} (S : CallFix p m c cc nL s args Ts own) (hM : Met l y ws rm (pc_P (.ref b :: As) D cl tys L f H.size X) (va_Qv post (pc_B D cl L H.size) (pw_A L H.size)) mc ms (pw_A L H.size)) (cw : CallW R s args own C index y bytes maxL ret ws rm mc ms n) (hK : va_K D cl tys s) (hP : va_P D cl (va_pl L f) H) (hD : va_D A (va_pl L f)) (hS : va_S A H0 H locs) (hA : ∀ q, H0.size ≤ q → A q) (hm : b ∈ L) (he : f b = .inr (ci, fs)) (hc : cl[ci]? = some (C, T, N)) (hX : px_b X) (hXc : ∀ U : State, U.heap = H → s.WarmedH U.vm → X U)
    (hn : As.length = n) (hsize : ls.size = nL) (hst : st0 = As.reverse ++ .ref b :: rest) (hW : 2 * (F0 m pc ls st0).monitorRoom + (rest.map fun v => v.category).sum ≤ 8) (hdg : decode cc pc = .ok (.invokevirtual index, 3)) (hf : cells + mc ≤ R.cells ∧ slots + ms ≤ R.slots)
    (kk : ∀ (L1 : List Nat) (f1 : Nat → va_E) (H1 : Heap) (locs1 : List Loc), post (L1, f1) → va_P D cl (va_pl L1 f1) H1 → va_D A (va_pl L1 f1) → va_S A H0 H1 locs1 → W p l e R s m args below meth c H1 locs1 (cells + mc) (slots + ms) Q (F0 m (pc + 3) ls rest)) : W p l e R s m args below meth c H locs cells slots Q (F0 m pc ls st0) := by
  have hF := pw_free hD hS hA
  refine va_callv (va_runV S hM cw (pc_preV hK hP hD hm he hc hX hXc) rfl hn hsize hst hW hdg hf) hS (fun q _ h => hF q h) hF (fun u t H1 locs1 ht hvm hp hB hz hk hS1 => ?_)
  obtain ⟨L1, f1⟩ := u
  exact kk L1 f1 H1 locs1 hp (by rw [← ht]; exact hB.1) (hB.2.weaken (fun k q _ h => hF q.1 h)) hS1
theorem pc_callI {post : pw_M → Prop} (S : CallFix p m c cc nL s args Ts own) (hM : Met l y ws rm (pc_P (.ref b :: As) D cl tys L f H.size X) (va_Qv post (pc_B D cl L H.size) (pw_A L H.size)) mc ms (pw_A L H.size)) (cw : CallB R s args own index y bytes maxL none ws rm mc ms n ∧ y.name = "<init>" ∧ (Cond.instanceMethod y).before args s = true) (hK : va_K D cl tys s) (hP : va_P D cl (va_pl L f) H) (hD : va_D A (va_pl L f)) (hS : va_S A H0 H locs) (hA : ∀ q, H0.size ≤ q → A q) (hX : px_b X) (hXc : ∀ U : State, U.heap = H → s.WarmedH U.vm → X U)
    (hn : As.length = n) (hsize : ls.size = nL) (hst : st0 = As.reverse ++ .ref b :: rest) (hW : 2 * (F0 m pc ls st0).monitorRoom + (rest.map fun v => v.category).sum ≤ 8) (hdg : decode cc pc = .ok (.invokespecial index, 3)) (hf : cells + mc ≤ R.cells ∧ slots + ms ≤ R.slots)
    (kk : ∀ (L1 : List Nat) (f1 : Nat → va_E) (H1 : Heap) (locs1 : List Loc), post (L1, f1) → va_P D cl (va_pl L1 f1) H1 → va_D A (va_pl L1 f1) → va_S A H0 H1 locs1 → W p l e R s m args below meth c H1 locs1 (cells + mc) (slots + ms) Q (F0 m (pc + 3) ls rest)) : W p l e R s m args below meth c H locs cells slots Q (F0 m pc ls st0) := by
  have hF := pw_free hD hS hA
  refine va_callv (va_runI S hM cw (pc_preS hK hP hD hX hXc) rfl hn hsize hst hW hdg hf) hS (fun q _ h => hF q h) hF (fun u t H1 locs1 ht hvm hp hB hz hk hS1 => ?_)
  obtain ⟨L1, f1⟩ := u
  exact kk L1 f1 H1 locs1 hp (by rw [← ht]; exact hB.1) (hB.2.weaken (fun k q _ h => hF q.1 h)) hS1
-- ends
theorem pr_reti {post : Int32 → Prop} {v : Int32} (hexec : p.tables.exec = Jvm.exec) (hb : c.code = cc) (hr : meth.sig.returnType = some .int) (hlocks : meth.locks = false) (hdg : decode cc pc = .ok (.ireturn, 1)) (hp : post v) : W p l e R s m args below meth c s.heap [] cells slots (MQ below (vp_Si post) args s cells slots (fun _ => False)) (F0 m pc ls [.int v]) :=
  W.iret hexec hb hr (fun t ht _ => ⟨v, rfl, hp, ht⟩) (fun _ h => by cases h) hdg hlocks
theorem pr_retz {post : Int32 → Prop} {v : Int32} {ty : FieldType} (hexec : p.tables.exec = Jvm.exec) (hb : c.code = cc) (hr : meth.sig.returnType = some ty) (hn : narrow ty (.int v) = .int v) (hlocks : meth.locks = false) (hdg : decode cc pc = .ok (.ireturn, 1)) (hp : post v) : W p l e R s m args below meth c s.heap [] cells slots (MQ below (vp_Si post) args s cells slots (fun _ => False)) (F0 m pc ls [.int v]) :=
  W.zret hexec hb hr hn (fun t ht _ => ⟨v, rfl, hp, ht⟩) (fun _ h => by cases h) hdg hlocks
theorem pr_retl {post : Int64 → Prop} {v : Int64} (hexec : p.tables.exec = Jvm.exec) (hb : c.code = cc) (hr : meth.sig.returnType = some .long) (hlocks : meth.locks = false) (hdg : decode cc pc = .ok (.lreturn, 1)) (hp : post v) : W p l e R s m args below meth c s.heap [] cells slots (MQ below (vp_Sl post) args s cells slots (fun _ => False)) (F0 m pc ls [.long v]) :=
  W.lret hexec hb hr (fun t ht _ => ⟨v, rfl, hp, ht⟩) (fun _ h => by cases h) hdg hlocks
theorem pr_retq {post : Option Nat → Prop} {r : Option Nat} {C0 : String} (hexec : p.tables.exec = Jvm.exec) (hb : c.code = cc) (hr : meth.sig.returnType = some (.object C0)) (hlocks : meth.locks = false) (hdg : decode cc pc = .ok (.areturn, 1)) (hp : post r) : W p l e R s m args below meth c s.heap [] cells slots (MQ below (va_Sq post) args s cells slots (fun _ => False)) (F0 m pc ls [va_rf r]) :=
  W.aret hexec hb hr (Or.inl ⟨C0, rfl⟩) (va_rf_or r) (fun t ht _ => ⟨r, rfl, hp, ht⟩) (fun _ h => by cases h) hdg hlocks
theorem pc_reti {post : Int32 → pw_M → Prop} {v : Int32} {L0 : List Nat} {sz : Nat} (hexec : p.tables.exec = Jvm.exec) (hb : c.code = cc) (hr : meth.sig.returnType = some .int) (hlocks : meth.locks = false) (hP : va_P D cl (va_pl L f) H) (hD : va_D (pw_A L0 sz) (va_pl L f)) (hS : va_S (pw_A L0 sz) s.heap H locs) (hdg : decode cc pc = .ok (.ireturn, 1)) (hp : post v (L, f)) : W p l e R s m args below meth c H locs cells slots (MQ below (va_Qi post (pc_B D cl L0 sz) (pw_A L0 sz)) args s cells slots (pw_A L0 sz)) (F0 m pc ls [.int v]) :=
  W.iret hexec hb hr (fun t ht _ => ⟨⟨v, (L, f), rfl, hp, by rw [ht]; exact hP, hD⟩, hS.F ht⟩) hS.2.2 hdg hlocks
theorem pc_retz {post : Int32 → pw_M → Prop} {v : Int32} {ty : FieldType} {L0 : List Nat} {sz : Nat} (hexec : p.tables.exec = Jvm.exec) (hb : c.code = cc) (hr : meth.sig.returnType = some ty) (hn : narrow ty (.int v) = .int v) (hlocks : meth.locks = false) (hP : va_P D cl (va_pl L f) H) (hD : va_D (pw_A L0 sz) (va_pl L f)) (hS : va_S (pw_A L0 sz) s.heap H locs) (hdg : decode cc pc = .ok (.ireturn, 1)) (hp : post v (L, f)) : W p l e R s m args below meth c H locs cells slots (MQ below (va_Qi post (pc_B D cl L0 sz) (pw_A L0 sz)) args s cells slots (pw_A L0 sz)) (F0 m pc ls [.int v]) :=
  W.zret hexec hb hr hn (fun t ht _ => ⟨⟨v, (L, f), rfl, hp, by rw [ht]; exact hP, hD⟩, hS.F ht⟩) hS.2.2 hdg hlocks
theorem pc_retv {post : pw_M → Prop} {L0 : List Nat} {sz : Nat} (hexec : p.tables.exec = Jvm.exec) (hb : c.code = cc) (hr : meth.sig.returnType = none) (hlocks : meth.locks = false) (hP : va_P D cl (va_pl L f) H) (hD : va_D (pw_A L0 sz) (va_pl L f)) (hS : va_S (pw_A L0 sz) s.heap H locs) (hdg : decode cc pc = .ok (.return_, 1)) (hp : post (L, f)) : W p l e R s m args below meth c H locs cells slots (MQ below (va_Qv post (pc_B D cl L0 sz) (pw_A L0 sz)) args s cells slots (pw_A L0 sz)) (F0 m pc ls []) :=
  W.vret hexec hb hr (fun t ht _ => ⟨⟨(L, f), rfl, hp, by rw [ht]; exact hP, hD⟩, hS.F ht⟩) hS.2.2 hdg hlocks
end PC
section PL
variable {p : Program} {l : Launch} {e : Env} {R : Room} {s : State} {m : MethodId} {args : Array Value} {below : List Frame} {meth : Method} {c : Code} {H : Heap} {locs : List Loc} {cells slots : Nat} {Q : State → Prop} {D : va_G} {cl : List vw_C} {A : Nat → Prop} {H0 : Heap}
/-- a loop that only reads: at its head with the state x of the loop -/
theorem pr_loop {σ : Type} {nL head : Nat} (μ : σ → Nat) (I : σ → Prop) (lv : σ → List (Nat × Value))
    (step : ∀ x, I x → (∀ x', I x' → μ x' < μ x → ∀ ls, lv_has ls nL (lv x') → W p l e R s m args below meth c H locs cells slots Q (F0 m head ls [])) → ∀ ls, lv_has ls nL (lv x) → W p l e R s m args below meth c H locs cells slots Q (F0 m head ls []))
    (x : σ) (hx : I x) (ls : Array Slot) (hl : lv_has ls nL (lv x)) : W p l e R s m args below meth c H locs cells slots Q (F0 m head ls []) := by
  have key : ∀ (n : Nat) (x : σ), μ x < n → I x → ∀ ls, lv_has ls nL (lv x) → W p l e R s m args below meth c H locs cells slots Q (F0 m head ls []) := by
    intro n
    induction n with
    | zero => intro x h; exact absurd h (Nat.not_lt_zero _)
    | succ n ih => exact fun x h hI ls hl => step x hI (fun x' hI' hlt => ih x' (by omega) hI') ls hl
  exact key (μ x + 1) x (Nat.lt_succ_self _) hx ls hl
/-- a loop that writes: its state says what the pool is -/
theorem pc_loop {σ : Type} {nL head : Nat} (μ : σ → Nat) (I : σ → Prop) (w : σ → pw_M) (lv : σ → List (Nat × Value))
    (step : ∀ x, I x → (∀ x', I x' → μ x' < μ x → ∀ H locs ls, va_P D cl (va_pl (w x').1 (w x').2) H → va_D A (va_pl (w x').1 (w x').2) → va_S A H0 H locs → lv_has ls nL (lv x') → W p l e R s m args below meth c H locs cells slots Q (F0 m head ls [])) → ∀ H locs ls, va_P D cl (va_pl (w x).1 (w x).2) H → va_D A (va_pl (w x).1 (w x).2) → va_S A H0 H locs → lv_has ls nL (lv x) → W p l e R s m args below meth c H locs cells slots Q (F0 m head ls []))
    (x : σ) (hx : I x) (hP : va_P D cl (va_pl (w x).1 (w x).2) H) (hD : va_D A (va_pl (w x).1 (w x).2)) (hS : va_S A H0 H locs) (ls : Array Slot) (hl : lv_has ls nL (lv x)) : W p l e R s m args below meth c H locs cells slots Q (F0 m head ls []) := by
  have key : ∀ (n : Nat) (x : σ), μ x < n → I x → ∀ H locs ls, va_P D cl (va_pl (w x).1 (w x).2) H → va_D A (va_pl (w x).1 (w x).2) → va_S A H0 H locs → lv_has ls nL (lv x) → W p l e R s m args below meth c H locs cells slots Q (F0 m head ls []) := by
    intro n
    induction n with
    | zero => intro x h; exact absurd h (Nat.not_lt_zero _)
    | succ n ih => exact fun x h hI H locs ls hP hD hS hl => step x hI (fun x' hI' hlt => ih x' (by omega) hI') H locs ls hP hD hS hl
  exact key (μ x + 1) x (Nat.lt_succ_self _) hx H locs ls hP hD hS hl
end PL
end
section
/-! STATE: what the class's objects hold. Array classes by number: cs 0 int, 1 byte, 2 boolean, 3 long, 4 Notice, 5 Move. -/
abbrev tyl (cs : Nat → ClassId) : List (ClassId × FieldType) := [(cs 0, .int), (cs 1, .byte), (cs 2, .boolean), (cs 3, .long), (cs 4, .object "PaperStates$Notice"), (cs 5, .object "PaperStates$Move")]
def NT (cs : Nat → ClassId) (L : List Nat) (f : Nat → va_E) (q q1 q2 q3 : Nat) (g : Int64) (fr to : Int32) (an ao dy : Nat → Int32) (ct : Int64) : Prop :=
  (q ∈ L ∧ q1 ∈ L ∧ q2 ∈ L ∧ q3 ∈ L) ∧ (f q = .inr (1, [.long g, .int fr, .int to, .ref q1, .ref q2, .ref q3, .long ct]) ∧ f q1 = .inl (cs 0, 6, .inl an) ∧ f q2 = .inl (cs 0, 6, .inl ao) ∧ f q3 = .inl (cs 0, 6, .inl dy)) ∧ (q1 ≠ q2 ∧ q1 ≠ q3 ∧ q2 ≠ q3)
def MV (cs : Nat → ClassId) (L : List Nat) (f : Nat → va_E) (q q1 : Nat) (no : Int32) (g : Int64) (dy : Int32) (cr : Nat → Int32) (cc : Nat) (st si mk : Int32) : Prop :=
  (q ∈ L ∧ q1 ∈ L) ∧ f q = .inr (0, [.int no, .long g, .int dy, .ref q1, .int (nI cc), .int st, .int si, .int mk]) ∧ f q1 = .inl (cs 0, 6, .inl cr)
def PP (cs : Nat → ClassId) (L : List Nat) (f : Nat → va_E) (q q1 : Nat) (n : Nat) (g : Nat → Int32) : Prop :=
  (q ∈ L ∧ q1 ∈ L) ∧ f q = .inr (2, [.ref q1, .int (nI n)]) ∧ f q1 = .inl (cs 1, 208, .inl g)
theorem pe_ne {f : Nat → va_E} {a b : Nat} {x y : va_E} (h1 : f a = x) (h2 : f b = y) (h : x ≠ y) : a ≠ b := fun e => h (by rw [← h1, ← h2, e])
theorem pe_ro {f : Nat → va_E} {a b : Nat} {x : Nat × List Value} {y : ClassId × vp_A} (h1 : f a = .inr x) (h2 : f b = .inl y) : a ≠ b := pe_ne h1 h2 (fun h => by cases h)
theorem vi_in {c : Int32} {n : Nat} (hn : n < 2 ^ 31) (h0 : ¬ c < 0) (h1 : ¬ nI n ≤ c) : vp_in c n := by
  rcases pk_ix c hn with h | h | ⟨j, hj, rfl⟩
  · exact absurd h h0
  · exact absurd h h1
  · exact vp_in_nI hj hn
theorem nI_of_ge {a b : Nat} (h : ¬ nI b ≤ nI a) (hb : a < 2 ^ 31) : a < b := Nat.lt_of_not_le fun z => h (nI_le z hb)
theorem nI_of_le {a b : Nat} (h : nI b ≤ nI a) (hb : b < 2 ^ 31) : b ≤ a := Nat.le_of_not_lt fun z => (nI_ge z hb) h
-- the notice's methods, as functions
def sp_covers (fr to d : Int32) : Int32 := if d < fr then 0 else if to < d then 0 else 1
def sp_cn (an : Nat → Int32) (x : Int32) : Nat → Nat
  | 0 => 0
  | k + 1 => sp_cn an x k + (if an k = x then 1 else 0)
def sp_state (an : Nat → Int32) (to t : Int32) : Int32 := if 0 < sp_cn an 3 6 then 2 else if to < t then 3 else if 0 < sp_cn an 2 6 then (if sp_cn an 1 6 = 0 then 1 else 0) else 0
def sp_sil (ao dy : Nat → Int32) (t : Int32) (an : Nat → Int32) : Nat → (Nat → Int32) × Nat
  | 0 => (an, 0)
  | k + 1 => if (sp_sil ao dy t an k).1 k = 1 then (if t - ao k ≤ dy k then sp_sil ao dy t an k else (upd (sp_sil ao dy t an k).1 k 2, (sp_sil ao dy t an k).2 + 1)) else sp_sil ao dy t an k
theorem sp_cn_le (an : Nat → Int32) (x : Int32) : ∀ k, sp_cn an x k ≤ k
  | 0 => Nat.le_refl 0
  | k + 1 => by
    have := sp_cn_le an x k
    unfold sp_cn
    split <;> omega
theorem sp_sil_le (ao dy : Nat → Int32) (t : Int32) (an : Nat → Int32) : ∀ k, (sp_sil ao dy t an k).2 ≤ k
  | 0 => Nat.le_refl 0
  | k + 1 => by
    have := sp_sil_le ao dy t an k
    unfold sp_sil
    split
    · split
      · omega
      · show (sp_sil ao dy t an k).2 + 1 ≤ k + 1
        omega
    · omega
-- the move's methods, as functions
def sp_uses (st : Int32) : Int32 := if st = 4 then 0 else if st = 5 then 0 else 1
def sp_back (cr : Nat → Int32) (cc : Nat) (k : Int32) : Int32 := if k < 0 then -1 else if k < nI cc then cr (cc - 1 - k.toNatClampNeg) else -1
def sp_leads (j : Nat) : Int32 := ([1, -1, -1, -1, -1, -1, -1, 2, -1, -1, -1, -1, -1, -1, 3, -1, -1, -1, -1, 4, 4, -1, -1, -1, 5, -1, -1, -1, -1, -1] : List Int32).getD j (-1)
def sp_lets (j : Nat) : Int32 := ([116, 107, 118, 99, 114, 120] : List Int32).getD j 63
def sp_letter (st : Int32) : Int32 := if st < 0 then 63 else if st < 6 then sp_lets st.toNatClampNeg else 63
theorem bk_ix {cc : Nat} {k : Int32} (h6 : cc ≤ 6) (h0 : ¬ k < 0) (h1 : k < nI cc) : ∃ j, j < cc ∧ k = nI j ∧ k.toNatClampNeg = j ∧ nI cc - 1 - k = nI (cc - 1 - j) := by
  obtain ⟨j, hj, rfl⟩ := nI_of h0
  have hjc : j < cc := (nI_ltI hj (by omega)).mp h1
  refine ⟨j, hjc, rfl, nI_clamp hj, ?_⟩
  rw [show (1 : Int32) = nI 1 from rfl, pk_sub (by omega), pk_sub (by omega)]
/-- the static tables of the class, and the link by which the move reads one of them -/
def SX (tL tC : Nat) (A : Nat → Prop) (U : State) (H : Heap) : Prop := va_Z "PaperStates" "LEADS" "[I" (.ref tL) A U H ∧ va_T .int tL 30 (fun j => .int (sp_leads j)) A U H ∧ va_Z "PaperStates" "STATE_LETTERS" "[C" (.ref tC) A U H ∧ va_T .char tC 6 (fun j => .int (sp_lets j)) A U H ∧ va_Nw (.fieldLinkNest "PaperStates$Move" 39 "PaperStates" "STATE_LETTERS" "[C" "PaperStates") U
theorem SX.calling {tL tC : Nat} {A : Nat → Prop} (a : Array Value) (U : State) (g : JFrame) (mk : MethodId) (h : SX tL tC A U U.heap) : SX tL tC A (U.calling g mk a) (U.calling g mk a).heap :=
  ⟨va_Z.moved (u := U) (U := U.calling g mk a) (Vm.Alike.refl U.vm) h.1, va_T.moved (u := U) (U := U.calling g mk a) (Vm.Alike.refl U.vm) h.2.1, va_Z.moved (u := U) (U := U.calling g mk a) (Vm.Alike.refl U.vm) h.2.2.1, va_T.moved (u := U) (U := U.calling g mk a) (Vm.Alike.refl U.vm) h.2.2.2.1, va_Nw.same rfl rfl h.2.2.2.2⟩
theorem SX.px {tL tC : Nat} {A : Nat → Prop} : px_b (fun U => SX tL tC A U U.heap) := fun a U g mk h => SX.calling a U g mk h
/-- the tables at a call, of a caller that has written A alone -/
theorem SX.use {tL tC : Nat} {A B : Nat → Prop} {s : State} {H : Heap} {locs : List Loc} (h : SX tL tC A s s.heap) (hS : va_S A s.heap H locs) (hAB : ∀ q, B q → A q) : ∀ U : State, U.heap = H → s.WarmedH U.vm → SX tL tC B U U.heap := by
  intro U hU hW
  have hk : ∀ a : Nat, a < s.heap.size → ¬ A a → U.heap[a]? = s.heap[a]? := fun a h1 h2 => by rw [hU]; exact hS.2.1 a h1 h2
  exact ⟨((h.1.kept hk).moved hW.alike).narrow hAB, ((h.2.1.kept hk).moved hW.alike).narrow hAB, ((h.2.2.1.kept hk).moved hW.alike).narrow hAB, ((h.2.2.2.1.kept hk).moved hW.alike).narrow hAB, va_Nw.warmF hW h.2.2.2.2⟩
-- the paper: its length and its row
abbrev sp_P : Type := Nat × (Nat → Int32)
def sp_add (p : sp_P) (c : Int32) : sp_P := if p.1 < 208 then (p.1 + 1, upd p.2 p.1 c.toInt8.toInt32) else p
def sp_dig (v : Nat) : Nat → Bool → sp_P → sp_P
  | 0, _, p => p
  | k + 1, b, p => if b = true ∨ ¬ v / 10 ^ k % 10 = 0 ∨ k = 0 then sp_dig v k true (sp_add p (nI (48 + v / 10 ^ k % 10))) else sp_dig v k false p
def pp_f (cs : Nat → ClassId) (f : Nat → va_E) (q q1 : Nat) (p : sp_P) : Nat → va_E := va_up (va_up f q1 (.inl (cs 1, 208, .inl p.2))) q (.inr (2, [.ref q1, .int (nI p.1)]))
theorem sp_add_le (p : sp_P) (c : Int32) (h : p.1 ≤ 208) : (sp_add p c).1 ≤ 208 := by
  unfold sp_add
  split
  · show p.1 + 1 ≤ 208
    omega
  · exact h
theorem sp_dig_le (v : Nat) : ∀ (k : Nat) (b : Bool) (p : sp_P), p.1 ≤ 208 → (sp_dig v k b p).1 ≤ 208
  | 0, _, _, h => h
  | k + 1, b, p, h => by
    unfold sp_dig
    split
    · exact sp_dig_le v k _ _ (sp_add_le p _ h)
    · exact sp_dig_le v k _ _ h
theorem pp_PP {cs : Nat → ClassId} {L : List Nat} {f : Nat → va_E} {q q1 : Nat} (m0 : q ∈ L) (m1 : q1 ∈ L) (hne : q ≠ q1) (p : sp_P) : PP cs L (pp_f cs f q q1 p) q q1 p.1 p.2 :=
  ⟨⟨m0, m1⟩, va_up_self _ _ _, (va_up_ne _ _ hne.symm).trans (va_up_self _ _ _)⟩
theorem pp_pp {cs : Nat → ClassId} {f : Nat → va_E} {q q1 : Nat} (hne : q ≠ q1) (p p' : sp_P) : pp_f cs (pp_f cs f q q1 p) q q1 p' = pp_f cs f q q1 p' := by
  funext b
  unfold pp_f va_up
  by_cases h : b = q
  · simp [h]
  · by_cases h1 : b = q1 <;> simp [h, h1]
theorem pp_self {cs : Nat → ClassId} {L : List Nat} {f : Nat → va_E} {q q1 n : Nat} {g : Nat → Int32} (h : PP cs L f q q1 n g) : pp_f cs f q q1 (n, g) = f := by
  obtain ⟨-, e0, e1⟩ := h
  funext b
  unfold pp_f va_up
  by_cases h : b = q
  · simp [h, e0]
  · by_cases h1 : b = q1
    · subst h1; simp [h, e1]
    · simp [h, h1]
end
section
/-! The class Notice: contracts. Laid by wip/gen/notice.py. -/
set_option maxHeartbeats 4000000 in
set_option maxRecDepth 100000 in
theorem k_N_covers (l : Launch) (G : va_G) (cs : Nat → ClassId) (L : List Nat) (f : Nat → va_E) (q q1 q2 q3 : Nat) (g : Int64) (fr to : Int32) (an ao dy : Nat → Int32) (ct : Int64) (d : Int32) (hN : NT cs L f q q1 q2 q3 g fr to an ao dy ct) : Met l yX1_covers (Cond.code yX1_covers cX1_covers 2 (some FieldType.boolean) :: wg) ({ frames := 0, cells := 0, slots := 0, locals := 0 }) (pr_P [.ref q, .int d] G vwCl (tyl cs) L f (fun _ => True)) (vp_Si (fun r => r = sp_covers fr to d)) 0 0 (fun _ => False) := by
  refine Met.ofW (cc := cX1_covers) (maxL := 2) (ret := (some FieldType.boolean)) (by decide) rfl ?_
  intro p e s m args below meth c s₁ B hml hv
  obtain ⟨rfl, hP, hK, hX⟩ := hv
  have hx := B.exec
  have hb := B.bytes
  have hr := B.returns
  have hts0 := atoms_spec (ws := (Cond.code yX1_covers cX1_covers 2 (some FieldType.boolean) :: wg)) B.pre
  have hts := fun (w : Cond) (h : w ∈ wg) => hts0 w (List.mem_cons_of_mem _ h)
  have hown : s.vm.findClass RX1 = some m.cls := findClass_of_methodNamed B.named
  have hlocks := B.notSynchronized
  have hl := lv_entry ([.ref q, .int d]) (n := 2) (Nat.le_of_ble_eq_true rfl)
  rw [lg_entry_eq]
  generalize (lg_sl ([.ref q, .int d]) ++ List.replicate (2 - (lg_sl ([.ref q, .int d])).length) Slot.unset).toArray = ls at hl ⊢
  have hl : lv_has ls 2 [(0, .ref q), (1, .int d)] := hl
  obtain ⟨⟨m0, m1, m2, m3⟩, ⟨e0, e1, e2, e3⟩, n12, n13, n23⟩ := hN
  refine lv_iload_n hx hb dX1_covers_0 rfl (lv_at hl 1 rfl) ?_
  refine lv_aload_n hx hb dX1_covers_1 rfl (lv_at hl 0 rfl) ?_
  refine pw_get (ci := 1) (C := RX1) (T := TX1) (N := 7) hx hb hts inX1 hown hK hP m0 e0 rfl 1 (by decide) (hts _ mw_83) (fun _ h9 => h9) rfl dX1_covers_2 ?_
  refine lv_icmp_lt (tgt := 20) hx hb dX1_covers_5 (by decide) (fun c_5 => ?_) (fun c_5 => ?_)
  · refine lv_iconst (v := 0) hx hb dX1_covers_20 (by decide) ?_
    exact pr_retz hx hb hr rfl hlocks dX1_covers_21 (by simp [sp_covers, c_5])
  · refine lv_iload_n hx hb dX1_covers_8 rfl (lv_at hl 1 rfl) ?_
    refine lv_aload_n hx hb dX1_covers_9 rfl (lv_at hl 0 rfl) ?_
    refine pw_get (ci := 1) (C := RX1) (T := TX1) (N := 7) hx hb hts inX1 hown hK hP m0 e0 rfl 2 (by decide) (hts _ mw_85) (fun _ h9 => h9) rfl dX1_covers_10 ?_
    refine lv_icmp_gt (tgt := 20) hx hb dX1_covers_13 (by decide) (fun c_13 => ?_) (fun c_13 => ?_)
    · refine lv_iconst (v := 0) hx hb dX1_covers_20 (by decide) ?_
      exact pr_retz hx hb hr rfl hlocks dX1_covers_21 (by simp [sp_covers, c_5, c_13])
    · refine lv_iconst (v := 1) hx hb dX1_covers_16 (by decide) ?_
      refine lv_goto (tgt := 21) hx hb dX1_covers_17 (by decide) ?_
      exact pr_retz hx hb hr rfl hlocks dX1_covers_21 (by simp [sp_covers, c_5, c_13])

set_option maxHeartbeats 4000000 in
set_option maxRecDepth 100000 in
theorem k_N_countOf (l : Launch) (G : va_G) (cs : Nat → ClassId) (L : List Nat) (f : Nat → va_E) (q q1 q2 q3 : Nat) (g : Int64) (fr to : Int32) (an ao dy : Nat → Int32) (ct : Int64) (x : Int32) (hN : NT cs L f q q1 q2 q3 g fr to an ao dy ct) : Met l yX1_countOf (Cond.code yX1_countOf cX1_countOf 4 (some FieldType.int) :: wg) ({ frames := 0, cells := 0, slots := 0, locals := 0 }) (pr_P [.ref q, .int x] G vwCl (tyl cs) L f (fun _ => True)) (vp_Si (fun r => r = nI (sp_cn an x 6))) 0 0 (fun _ => False) := by
  refine Met.ofW (cc := cX1_countOf) (maxL := 4) (ret := (some FieldType.int)) (by decide) rfl ?_
  intro p e s m args below meth c s₁ B hml hv
  obtain ⟨rfl, hP, hK, hX⟩ := hv
  have hx := B.exec
  have hb := B.bytes
  have hr := B.returns
  have hts0 := atoms_spec (ws := (Cond.code yX1_countOf cX1_countOf 4 (some FieldType.int) :: wg)) B.pre
  have hts := fun (w : Cond) (h : w ∈ wg) => hts0 w (List.mem_cons_of_mem _ h)
  have hown : s.vm.findClass RX1 = some m.cls := findClass_of_methodNamed B.named
  have hlocks := B.notSynchronized
  have hl := lv_entry ([.ref q, .int x]) (n := 4) (Nat.le_of_ble_eq_true rfl)
  rw [lg_entry_eq]
  generalize (lg_sl ([.ref q, .int x]) ++ List.replicate (4 - (lg_sl ([.ref q, .int x])).length) Slot.unset).toArray = ls at hl ⊢
  have hl : lv_has ls 4 [(0, .ref q), (1, .int x)] := hl
  obtain ⟨⟨m0, m1, m2, m3⟩, ⟨e0, e1, e2, e3⟩, n12, n13, n23⟩ := hN
  refine lv_iconst (v := 0) hx hb dX1_countOf_0 (by decide) ?_
  refine lv_istore_n (lv' := [(2, .int 0), (0, .ref q), (1, .int x)]) hx hb dX1_countOf_1 rfl hl (by decide) rfl (fun ls hl => ?_)
  refine lv_iconst (v := 0) hx hb dX1_countOf_2 (by decide) ?_
  refine lv_istore_n (lv' := [(3, .int 0), (2, .int 0), (0, .ref q), (1, .int x)]) hx hb dX1_countOf_3 rfl hl (by decide) rfl (fun ls hl => ?_)
  refine pr_loop (σ := Nat) (nL := 4) (fun k => 6 - k) (fun k => k ≤ 6) (fun k => [(3, .int (nI k)), (2, .int (nI (sp_cn an x k))), (0, .ref q), (1, .int x)]) ?_ 0 (by omega) ls (lv_sub hl [0, 1, 2, 3] rfl)
  intro k hk ih ls hl
  refine lv_iload_n hx hb dX1_countOf_4 rfl (lv_at hl 0 rfl) ?_
  refine lv_bipush (v := 6) hx hb dX1_countOf_5 (by decide) ?_
  refine lv_icmp_ge (tgt := 29) hx hb dX1_countOf_7 (by decide) (fun c_7 => ?_) (fun c_7 => ?_)
  · have hk6 : k = 6 := Nat.le_antisymm hk (nI_of_le (b := 6) c_7 (by decide))
    subst hk6
    refine lv_iload_n hx hb dX1_countOf_29 rfl (lv_at hl 1 rfl) ?_
    exact pr_reti hx hb hr hlocks dX1_countOf_30 rfl
  · have hk6 : k < 6 := nI_of_ge (b := 6) c_7 (by omega)
    refine lv_aload_n hx hb dX1_countOf_10 rfl (lv_at hl 2 rfl) ?_
    refine pw_get (ci := 1) (C := RX1) (T := TX1) (N := 7) hx hb hts inX1 hown hK hP m0 e0 rfl 3 (by decide) (hts _ mw_87) (fun _ h9 => h9) rfl dX1_countOf_11 ?_
    refine lv_iload_n hx hb dX1_countOf_14 rfl (lv_at hl 0 rfl) ?_
    refine pw_ialdN (k := k) hx hb hK hP m1 0 e1 rfl hk6 (by decide) dX1_countOf_15 ?_
    refine lv_iload_n hx hb dX1_countOf_16 rfl (lv_at hl 3 rfl) ?_
    refine lv_icmp_ne (tgt := 23) hx hb dX1_countOf_17 (by decide) (fun c_17 => ?_) (fun c_17 => ?_)
    · obtain ⟨z_1, ez_1⟩ : ∃ z : Int32, z = (nI k) + 1 := ⟨_, rfl⟩
      refine lv_iinc (v := z_1) (lv' := [(3, .int z_1), (2, .int (nI (sp_cn an x k))), (0, .ref q), (1, .int x)]) hx hb dX1_countOf_23 hl (k := 0) rfl (by rw [ez_1]; rfl) (by decide) rfl (fun ls hl => ?_)
      refine lv_goto (tgt := 4) hx hb dX1_countOf_26 (by decide) ?_
      obtain rfl : z_1 = nI (k + 1) := by rw [ez_1]; exact nI_1 k
      have hcn : sp_cn an x (k + 1) = sp_cn an x k := by simp [sp_cn, c_7, c_17]
      rw [← hcn] at hl
      exact ih (k + 1) (by omega) (by omega) ls (lv_sub hl [0, 1, 2, 3] rfl)
    · obtain ⟨z_2, ez_2⟩ : ∃ z : Int32, z = (nI (sp_cn an x k)) + 1 := ⟨_, rfl⟩
      refine lv_iinc (v := z_2) (lv' := [(2, .int z_2), (3, .int (nI k)), (0, .ref q), (1, .int x)]) hx hb dX1_countOf_20 hl (k := 1) rfl (by rw [ez_2]; rfl) (by decide) rfl (fun ls hl => ?_)
      obtain ⟨z_3, ez_3⟩ : ∃ z : Int32, z = (nI k) + 1 := ⟨_, rfl⟩
      refine lv_iinc (v := z_3) (lv' := [(3, .int z_3), (2, .int z_2), (0, .ref q), (1, .int x)]) hx hb dX1_countOf_23 hl (k := 1) rfl (by rw [ez_3]; rfl) (by decide) rfl (fun ls hl => ?_)
      refine lv_goto (tgt := 4) hx hb dX1_countOf_26 (by decide) ?_
      obtain rfl : z_3 = nI (k + 1) := by rw [ez_3]; exact nI_1 k
      obtain rfl : z_2 = nI (sp_cn an x (k + 1)) := by rw [ez_2, nI_1]; simp [sp_cn, c_7, c_17]
      exact ih (k + 1) (by omega) (by omega) ls (lv_sub hl [0, 1, 2, 3] rfl)

set_option maxHeartbeats 4000000 in
set_option maxRecDepth 100000 in
theorem k_N_stateOn (l : Launch) (G : va_G) (cs : Nat → ClassId) (L : List Nat) (f : Nat → va_E) (q q1 q2 q3 : Nat) (g : Int64) (fr to : Int32) (an ao dy : Nat → Int32) (ct : Int64) (t : Int32) (hN : NT cs L f q q1 q2 q3 g fr to an ao dy ct) : Met l yX1_stateOn (Cond.code yX1_stateOn cX1_stateOn 2 (some FieldType.int) :: wg) ({ frames := 1, cells := 0, slots := 0, locals := 23 }) (pr_P [.ref q, .int t] G vwCl (tyl cs) L f (fun _ => True)) (vp_Si (fun r => r = sp_state an to t)) 0 0 (fun _ => False) := by
  refine Met.ofW (cc := cX1_stateOn) (maxL := 2) (ret := (some FieldType.int)) (by decide) rfl ?_
  intro p e s m args below meth c s₁ B hml hv
  obtain ⟨rfl, hP, hK, hX⟩ := hv
  have hx := B.exec
  have hb := B.bytes
  have hr := B.returns
  have hts0 := atoms_spec (ws := (Cond.code yX1_stateOn cX1_stateOn 2 (some FieldType.int) :: wg)) B.pre
  have hts := fun (w : Cond) (h : w ∈ wg) => hts0 w (List.mem_cons_of_mem _ h)
  have hown : s.vm.findClass RX1 = some m.cls := findClass_of_methodNamed B.named
  have hlocks := B.notSynchronized
  have hl := lv_entry ([.ref q, .int t]) (n := 2) (Nat.le_of_ble_eq_true rfl)
  rw [lg_entry_eq]
  generalize (lg_sl ([.ref q, .int t]) ++ List.replicate (2 - (lg_sl ([.ref q, .int t])).length) Slot.unset).toArray = ls at hl ⊢
  have hl : lv_has ls 2 [(0, .ref q), (1, .int t)] := hl
  obtain ⟨⟨m0, m1, m2, m3⟩, ⟨e0, e1, e2, e3⟩, n12, n13, n23⟩ := id hN
  refine lv_aload_n hx hb dX1_stateOn_0 rfl (lv_at hl 0 rfl) ?_
  refine lv_iconst (v := 3) hx hb dX1_stateOn_1 (by decide) ?_
  refine pr_callVi (As := [.int 3]) (rest := []) ⟨hx, hb, hml, hown, hts⟩ (k_N_countOf l G cs L f q q1 q2 q3 g fr to an ao dy ct 3 hN) (cwV 1 hts (wg_V mw_131 mw_133 ms_1 mw_4 mw_134) rfl rfl rfl (by decide +kernel) ⟨Nat.le_of_ble_eq_true rfl, Nat.le_of_ble_eq_true rfl⟩) hK hP m0 e0 rfl px_T (fun _ _ _ => trivial) rfl hl.1 rfl (lv_room (Nat.le_of_ble_eq_true rfl)) dX1_stateOn_2 ⟨Nat.le_of_ble_eq_true rfl, Nat.le_of_ble_eq_true rfl⟩ (fun r_1 hr_1 => ?_)
  subst hr_1
  refine lv_if_le (tgt := 10) hx hb dX1_stateOn_5 (by decide) (fun c_5 => ?_) (fun c_5 => ?_)
  · have c_5 : ¬ 0 < sp_cn an 3 6 := fun h => nI_nle h (Nat.lt_of_le_of_lt (sp_cn_le an 3 6) (by decide)) c_5
    refine lv_iload_n hx hb dX1_stateOn_10 rfl (lv_at hl 1 rfl) ?_
    refine lv_aload_n hx hb dX1_stateOn_11 rfl (lv_at hl 0 rfl) ?_
    refine pw_get (ci := 1) (C := RX1) (T := TX1) (N := 7) hx hb hts inX1 hown hK hP m0 e0 rfl 2 (by decide) (hts _ mw_85) (fun _ h9 => h9) rfl dX1_stateOn_12 ?_
    refine lv_icmp_le (tgt := 20) hx hb dX1_stateOn_15 (by decide) (fun c_15 => ?_) (fun c_15 => ?_)
    · have c_15 : ¬ to < t := Int32.not_lt.mpr c_15
      refine lv_aload_n hx hb dX1_stateOn_20 rfl (lv_at hl 0 rfl) ?_
      refine lv_iconst (v := 2) hx hb dX1_stateOn_21 (by decide) ?_
      refine pr_callVi (As := [.int 2]) (rest := []) ⟨hx, hb, hml, hown, hts⟩ (k_N_countOf l G cs L f q q1 q2 q3 g fr to an ao dy ct 2 hN) (cwV 1 hts (wg_V mw_131 mw_133 ms_1 mw_4 mw_134) rfl rfl rfl (by decide +kernel) ⟨Nat.le_of_ble_eq_true rfl, Nat.le_of_ble_eq_true rfl⟩) hK hP m0 e0 rfl px_T (fun _ _ _ => trivial) rfl hl.1 rfl (lv_room (Nat.le_of_ble_eq_true rfl)) dX1_stateOn_22 ⟨Nat.le_of_ble_eq_true rfl, Nat.le_of_ble_eq_true rfl⟩ (fun r_2 hr_2 => ?_)
      subst hr_2
      refine lv_if_le (tgt := 40) hx hb dX1_stateOn_25 (by decide) (fun c_25 => ?_) (fun c_25 => ?_)
      · have c_25 : ¬ 0 < sp_cn an 2 6 := fun h => nI_nle h (Nat.lt_of_le_of_lt (sp_cn_le an 2 6) (by decide)) c_25
        refine lv_iconst (v := 0) hx hb dX1_stateOn_40 (by decide) ?_
        exact pr_reti hx hb hr hlocks dX1_stateOn_41 (by simp [sp_state, c_5, c_15, c_25])
      · have c_25 : 0 < sp_cn an 2 6 := Nat.pos_of_ne_zero fun h => c_25 (by rw [h]; decide)
        refine lv_aload_n hx hb dX1_stateOn_28 rfl (lv_at hl 0 rfl) ?_
        refine lv_iconst (v := 1) hx hb dX1_stateOn_29 (by decide) ?_
        refine pr_callVi (As := [.int 1]) (rest := []) ⟨hx, hb, hml, hown, hts⟩ (k_N_countOf l G cs L f q q1 q2 q3 g fr to an ao dy ct 1 hN) (cwV 1 hts (wg_V mw_131 mw_133 ms_1 mw_4 mw_134) rfl rfl rfl (by decide +kernel) ⟨Nat.le_of_ble_eq_true rfl, Nat.le_of_ble_eq_true rfl⟩) hK hP m0 e0 rfl px_T (fun _ _ _ => trivial) rfl hl.1 rfl (lv_room (Nat.le_of_ble_eq_true rfl)) dX1_stateOn_30 ⟨Nat.le_of_ble_eq_true rfl, Nat.le_of_ble_eq_true rfl⟩ (fun r_3 hr_3 => ?_)
        subst hr_3
        refine lv_if_ne (tgt := 40) hx hb dX1_stateOn_33 (by decide) (fun c_33 => ?_) (fun c_33 => ?_)
        · have c_33 : ¬ sp_cn an 1 6 = 0 := fun h => c_33 (by rw [h]; rfl)
          refine lv_iconst (v := 0) hx hb dX1_stateOn_40 (by decide) ?_
          exact pr_reti hx hb hr hlocks dX1_stateOn_41 (by simp [sp_state, c_5, c_15, c_25, c_33])
        · have c_33 : sp_cn an 1 6 = 0 := Decidable.byContradiction fun h => nI_ne0 (Nat.pos_of_ne_zero h) (Nat.lt_of_le_of_lt (sp_cn_le an 1 6) (by decide)) c_33
          refine lv_iconst (v := 1) hx hb dX1_stateOn_36 (by decide) ?_
          refine lv_goto (tgt := 41) hx hb dX1_stateOn_37 (by decide) ?_
          exact pr_reti hx hb hr hlocks dX1_stateOn_41 (by simp [sp_state, c_5, c_15, c_25, c_33])
    · have c_15 : to < t := Int32.not_le.mp c_15
      refine lv_iconst (v := 3) hx hb dX1_stateOn_18 (by decide) ?_
      exact pr_reti hx hb hr hlocks dX1_stateOn_19 (by simp [sp_state, c_5, c_15])
  · have c_5 : 0 < sp_cn an 3 6 := Nat.pos_of_ne_zero fun h => c_5 (by rw [h]; decide)
    refine lv_iconst (v := 2) hx hb dX1_stateOn_8 (by decide) ?_
    exact pr_reti hx hb hr hlocks dX1_stateOn_9 (by simp [sp_state, c_5])

def sp_ask (f : Nat → va_E) (cs : Nat → ClassId) (q1 q2 q3 : Nat) (an ao dy : Nat → Int32) (x d t : Int32) : Int32 × (Nat → va_E) := if x < 0 then (0, f) else if 6 ≤ x then (0, f) else if an x.toNatClampNeg = 0 then (1, va_up (va_up (va_up f q1 (.inl (cs 0, 6, .inl (upd an x.toNatClampNeg 1)))) q2 (.inl (cs 0, 6, .inl (upd ao x.toNatClampNeg t)))) q3 (.inl (cs 0, 6, .inl (upd dy x.toNatClampNeg d)))) else (0, f)
def sp_answer (f : Nat → va_E) (cs : Nat → ClassId) (q1 : Nat) (an : Nat → Int32) (x y : Int32) : Int32 × (Nat → va_E) := if x < 0 then (0, f) else if 6 ≤ x then (0, f) else if an x.toNatClampNeg = 1 then (1, va_up f q1 (.inl (cs 0, 6, .inl (upd an x.toNatClampNeg (if y = 0 then 3 else 2))))) else (0, f)

set_option maxHeartbeats 4000000 in
set_option maxRecDepth 100000 in
theorem k_N_ask (l : Launch) (G : va_G) (cs : Nat → ClassId) (L : List Nat) (f : Nat → va_E) (sz : Nat) (q q1 q2 q3 : Nat) (g : Int64) (fr to : Int32) (an ao dy : Nat → Int32) (ct : Int64) (x d t : Int32) (hN : NT cs L f q q1 q2 q3 g fr to an ao dy ct) : Met l yX1_ask (Cond.code yX1_ask cX1_ask 4 (some FieldType.boolean) :: wg) ({ frames := 0, cells := 0, slots := 0, locals := 0 }) (pc_P [.ref q, .int x, .int d, .int t] G vwCl (tyl cs) L f sz (fun _ => True)) (va_Qi (fun r u => (r, u) = ((sp_ask f cs q1 q2 q3 an ao dy x d t).1, (L, (sp_ask f cs q1 q2 q3 an ao dy x d t).2))) (pc_B G vwCl L sz) (pw_A L sz)) 0 0 (pw_A L sz) := by
  refine Met.ofW (cc := cX1_ask) (maxL := 4) (ret := (some FieldType.boolean)) (by decide) rfl ?_
  intro p e s m args below meth c s₁ B hml hv
  obtain ⟨rfl, hsz, hP, hK, hD0, hX⟩ := hv
  have hx := B.exec
  have hb := B.bytes
  have hr := B.returns
  have hts0 := atoms_spec (ws := (Cond.code yX1_ask cX1_ask 4 (some FieldType.boolean) :: wg)) B.pre
  have hts := fun (w : Cond) (h : w ∈ wg) => hts0 w (List.mem_cons_of_mem _ h)
  have hown : s.vm.findClass RX1 = some m.cls := findClass_of_methodNamed B.named
  have hlocks := B.notSynchronized
  subst hsz
  have hD := pw_selfD (sz := s.heap.size) hD0
  have hA : ∀ q : Nat, s.heap.size ≤ q → pw_A L s.heap.size q := fun q h => Or.inr h
  have hS : va_S (pw_A L s.heap.size) s.heap s.heap [] := va_S.rf
  have hl := lv_entry ([.ref q, .int x, .int d, .int t]) (n := 4) (Nat.le_of_ble_eq_true rfl)
  rw [lg_entry_eq]
  generalize (lg_sl ([.ref q, .int x, .int d, .int t]) ++ List.replicate (4 - (lg_sl ([.ref q, .int x, .int d, .int t])).length) Slot.unset).toArray = ls at hl ⊢
  have hl : lv_has ls 4 [(0, .ref q), (1, .int x), (2, .int d), (3, .int t)] := hl
  obtain ⟨⟨m0, m1, m2, m3⟩, ⟨e0, e1, e2, e3⟩, n12, n13, n23⟩ := hN
  refine lv_iload_n hx hb dX1_ask_0 rfl (lv_at hl 1 rfl) ?_
  refine lv_if_lt (tgt := 19) hx hb dX1_ask_1 (by decide) (fun c_1 => ?_) (fun c_1 => ?_)
  · refine lv_iconst (v := 0) hx hb dX1_ask_19 (by decide) ?_
    exact pc_retz hx hb hr rfl hlocks hP hD hS dX1_ask_20 (by simp [sp_ask, c_1])
  · refine lv_iload_n hx hb dX1_ask_4 rfl (lv_at hl 1 rfl) ?_
    refine lv_bipush (v := 6) hx hb dX1_ask_5 (by decide) ?_
    refine lv_icmp_ge (tgt := 19) hx hb dX1_ask_7 (by decide) (fun c_7 => ?_) (fun c_7 => ?_)
    · refine lv_iconst (v := 0) hx hb dX1_ask_19 (by decide) ?_
      exact pc_retz hx hb hr rfl hlocks hP hD hS dX1_ask_20 (by simp [sp_ask, c_1, c_7])
    · refine lv_aload_n hx hb dX1_ask_10 rfl (lv_at hl 0 rfl) ?_
      refine pw_get (ci := 1) (C := RX1) (T := TX1) (N := 7) hx hb hts inX1 hown hK hP m0 e0 rfl 3 (by decide) (hts _ mw_87) (fun _ h9 => h9) rfl dX1_ask_11 ?_
      refine lv_iload_n hx hb dX1_ask_14 rfl (lv_at hl 1 rfl) ?_
      refine pw_iald hx hb hK hP m1 0 e1 rfl (vi_in (n := 6) (by decide) c_1 c_7) dX1_ask_15 ?_
      refine lv_if_eq (tgt := 21) hx hb dX1_ask_16 (by decide) (fun c_16 => ?_) (fun c_16 => ?_)
      · refine lv_aload_n hx hb dX1_ask_21 rfl (lv_at hl 0 rfl) ?_
        refine pw_get (ci := 1) (C := RX1) (T := TX1) (N := 7) hx hb hts inX1 hown hK hP m0 e0 rfl 3 (by decide) (hts _ mw_87) (fun _ h9 => h9) rfl dX1_ask_22 ?_
        refine lv_iload_n hx hb dX1_ask_25 rfl (lv_at hl 1 rfl) ?_
        refine lv_iconst (v := 1) hx hb dX1_ask_26 (by decide) ?_
        refine pw_iast hx hb hK hP hD hS m1 0 e1 rfl (vi_in (n := 6) (by decide) c_1 c_7) dX1_ask_27 (fun H locs hP hD hS => ?_)
        obtain ⟨f_1, ef_1⟩ : ∃ zz : Nat → va_E, zz = va_up f q1 (.inl (cs 0, 6, .inl (upd an x.toNatClampNeg 1))) := ⟨_, rfl⟩
        have hP : va_P G vwCl (va_pl L f_1) H := by rw [ef_1]; exact hP
        have hD : va_D (pw_A L s.heap.size) (va_pl L f_1) := by rw [ef_1]; exact hD
        have hf_1_q := (show f_1 q = f q by rw [ef_1]; exact va_up_ne _ _ (pe_ro e0 e1)).trans e0
        have hf_1_q1 : f_1 q1 = .inl (cs 0, 6, .inl (upd an x.toNatClampNeg 1)) := by rw [ef_1]; exact va_up_self _ _ _
        have hf_1_q2 := (show f_1 q2 = f q2 by rw [ef_1]; exact va_up_ne _ _ (Ne.symm n12)).trans e2
        have hf_1_q3 := (show f_1 q3 = f q3 by rw [ef_1]; exact va_up_ne _ _ (Ne.symm n13)).trans e3
        refine lv_aload_n hx hb dX1_ask_28 rfl (lv_at hl 0 rfl) ?_
        refine pw_get (ci := 1) (C := RX1) (T := TX1) (N := 7) hx hb hts inX1 hown hK hP m0 hf_1_q rfl 4 (by decide) (hts _ mw_88) (fun _ h9 => h9) rfl dX1_ask_29 ?_
        refine lv_iload_n hx hb dX1_ask_32 rfl (lv_at hl 1 rfl) ?_
        refine lv_iload_n hx hb dX1_ask_33 rfl (lv_at hl 3 rfl) ?_
        refine pw_iast hx hb hK hP hD hS m2 0 hf_1_q2 rfl (vi_in (n := 6) (by decide) c_1 c_7) dX1_ask_34 (fun H locs hP hD hS => ?_)
        obtain ⟨f_2, ef_2⟩ : ∃ zz : Nat → va_E, zz = va_up f_1 q2 (.inl (cs 0, 6, .inl (upd ao x.toNatClampNeg t))) := ⟨_, rfl⟩
        have hP : va_P G vwCl (va_pl L f_2) H := by rw [ef_2]; exact hP
        have hD : va_D (pw_A L s.heap.size) (va_pl L f_2) := by rw [ef_2]; exact hD
        have hf_2_q := (show f_2 q = f_1 q by rw [ef_2]; exact va_up_ne _ _ (pe_ro e0 e2)).trans hf_1_q
        have hf_2_q1 := (show f_2 q1 = f_1 q1 by rw [ef_2]; exact va_up_ne _ _ n12).trans hf_1_q1
        have hf_2_q2 : f_2 q2 = .inl (cs 0, 6, .inl (upd ao x.toNatClampNeg t)) := by rw [ef_2]; exact va_up_self _ _ _
        have hf_2_q3 := (show f_2 q3 = f_1 q3 by rw [ef_2]; exact va_up_ne _ _ (Ne.symm n23)).trans hf_1_q3
        refine lv_aload_n hx hb dX1_ask_35 rfl (lv_at hl 0 rfl) ?_
        refine pw_get (ci := 1) (C := RX1) (T := TX1) (N := 7) hx hb hts inX1 hown hK hP m0 hf_2_q rfl 5 (by decide) (hts _ mw_89) (fun _ h9 => h9) rfl dX1_ask_36 ?_
        refine lv_iload_n hx hb dX1_ask_39 rfl (lv_at hl 1 rfl) ?_
        refine lv_iload_n hx hb dX1_ask_40 rfl (lv_at hl 2 rfl) ?_
        refine pw_iast hx hb hK hP hD hS m3 0 hf_2_q3 rfl (vi_in (n := 6) (by decide) c_1 c_7) dX1_ask_41 (fun H locs hP hD hS => ?_)
        obtain ⟨f_3, ef_3⟩ : ∃ zz : Nat → va_E, zz = va_up f_2 q3 (.inl (cs 0, 6, .inl (upd dy x.toNatClampNeg d))) := ⟨_, rfl⟩
        have hP : va_P G vwCl (va_pl L f_3) H := by rw [ef_3]; exact hP
        have hD : va_D (pw_A L s.heap.size) (va_pl L f_3) := by rw [ef_3]; exact hD
        have hf_3_q := (show f_3 q = f_2 q by rw [ef_3]; exact va_up_ne _ _ (pe_ro e0 e3)).trans hf_2_q
        have hf_3_q1 := (show f_3 q1 = f_2 q1 by rw [ef_3]; exact va_up_ne _ _ n13).trans hf_2_q1
        have hf_3_q2 := (show f_3 q2 = f_2 q2 by rw [ef_3]; exact va_up_ne _ _ n23).trans hf_2_q2
        have hf_3_q3 : f_3 q3 = .inl (cs 0, 6, .inl (upd dy x.toNatClampNeg d)) := by rw [ef_3]; exact va_up_self _ _ _
        refine lv_iconst (v := 1) hx hb dX1_ask_42 (by decide) ?_
        exact pc_retz hx hb hr rfl hlocks hP hD hS dX1_ask_43 (by simp [sp_ask, c_1, c_7, c_16, ef_1, ef_2, ef_3])
      · refine lv_iconst (v := 0) hx hb dX1_ask_19 (by decide) ?_
        exact pc_retz hx hb hr rfl hlocks hP hD hS dX1_ask_20 (by simp [sp_ask, c_1, c_7, c_16])

set_option maxHeartbeats 4000000 in
set_option maxRecDepth 100000 in
theorem k_N_answer (l : Launch) (G : va_G) (cs : Nat → ClassId) (L : List Nat) (f : Nat → va_E) (sz : Nat) (q q1 q2 q3 : Nat) (g : Int64) (fr to : Int32) (an ao dy : Nat → Int32) (ct : Int64) (x y : Int32) (hN : NT cs L f q q1 q2 q3 g fr to an ao dy ct) : Met l yX1_answer (Cond.code yX1_answer cX1_answer 3 (some FieldType.boolean) :: wg) ({ frames := 0, cells := 0, slots := 0, locals := 0 }) (pc_P [.ref q, .int x, .int y] G vwCl (tyl cs) L f sz (fun _ => True)) (va_Qi (fun r u => (r, u) = ((sp_answer f cs q1 an x y).1, (L, (sp_answer f cs q1 an x y).2))) (pc_B G vwCl L sz) (pw_A L sz)) 0 0 (pw_A L sz) := by
  refine Met.ofW (cc := cX1_answer) (maxL := 3) (ret := (some FieldType.boolean)) (by decide) rfl ?_
  intro p e s m args below meth c s₁ B hml hv
  obtain ⟨rfl, hsz, hP, hK, hD0, hX⟩ := hv
  have hx := B.exec
  have hb := B.bytes
  have hr := B.returns
  have hts0 := atoms_spec (ws := (Cond.code yX1_answer cX1_answer 3 (some FieldType.boolean) :: wg)) B.pre
  have hts := fun (w : Cond) (h : w ∈ wg) => hts0 w (List.mem_cons_of_mem _ h)
  have hown : s.vm.findClass RX1 = some m.cls := findClass_of_methodNamed B.named
  have hlocks := B.notSynchronized
  subst hsz
  have hD := pw_selfD (sz := s.heap.size) hD0
  have hA : ∀ q : Nat, s.heap.size ≤ q → pw_A L s.heap.size q := fun q h => Or.inr h
  have hS : va_S (pw_A L s.heap.size) s.heap s.heap [] := va_S.rf
  have hl := lv_entry ([.ref q, .int x, .int y]) (n := 3) (Nat.le_of_ble_eq_true rfl)
  rw [lg_entry_eq]
  generalize (lg_sl ([.ref q, .int x, .int y]) ++ List.replicate (3 - (lg_sl ([.ref q, .int x, .int y])).length) Slot.unset).toArray = ls at hl ⊢
  have hl : lv_has ls 3 [(0, .ref q), (1, .int x), (2, .int y)] := hl
  obtain ⟨⟨m0, m1, m2, m3⟩, ⟨e0, e1, e2, e3⟩, n12, n13, n23⟩ := hN
  refine lv_iload_n hx hb dX1_answer_0 rfl (lv_at hl 1 rfl) ?_
  refine lv_if_lt (tgt := 20) hx hb dX1_answer_1 (by decide) (fun c_1 => ?_) (fun c_1 => ?_)
  · refine lv_iconst (v := 0) hx hb dX1_answer_20 (by decide) ?_
    exact pc_retz hx hb hr rfl hlocks hP hD hS dX1_answer_21 (by simp [sp_answer, c_1])
  · refine lv_iload_n hx hb dX1_answer_4 rfl (lv_at hl 1 rfl) ?_
    refine lv_bipush (v := 6) hx hb dX1_answer_5 (by decide) ?_
    refine lv_icmp_ge (tgt := 20) hx hb dX1_answer_7 (by decide) (fun c_7 => ?_) (fun c_7 => ?_)
    · refine lv_iconst (v := 0) hx hb dX1_answer_20 (by decide) ?_
      exact pc_retz hx hb hr rfl hlocks hP hD hS dX1_answer_21 (by simp [sp_answer, c_1, c_7])
    · refine lv_aload_n hx hb dX1_answer_10 rfl (lv_at hl 0 rfl) ?_
      refine pw_get (ci := 1) (C := RX1) (T := TX1) (N := 7) hx hb hts inX1 hown hK hP m0 e0 rfl 3 (by decide) (hts _ mw_87) (fun _ h9 => h9) rfl dX1_answer_11 ?_
      refine lv_iload_n hx hb dX1_answer_14 rfl (lv_at hl 1 rfl) ?_
      refine pw_iald hx hb hK hP m1 0 e1 rfl (vi_in (n := 6) (by decide) c_1 c_7) dX1_answer_15 ?_
      refine lv_iconst (v := 1) hx hb dX1_answer_16 (by decide) ?_
      refine lv_icmp_eq (tgt := 22) hx hb dX1_answer_17 (by decide) (fun c_17 => ?_) (fun c_17 => ?_)
      · refine lv_aload_n hx hb dX1_answer_22 rfl (lv_at hl 0 rfl) ?_
        refine pw_get (ci := 1) (C := RX1) (T := TX1) (N := 7) hx hb hts inX1 hown hK hP m0 e0 rfl 3 (by decide) (hts _ mw_87) (fun _ h9 => h9) rfl dX1_answer_23 ?_
        refine lv_iload_n hx hb dX1_answer_26 rfl (lv_at hl 1 rfl) ?_
        refine lv_iload_n hx hb dX1_answer_27 rfl (lv_at hl 2 rfl) ?_
        refine lv_if_eq (tgt := 35) hx hb dX1_answer_28 (by decide) (fun c_28 => ?_) (fun c_28 => ?_)
        · refine lv_iconst (v := 3) hx hb dX1_answer_35 (by decide) ?_
          refine pw_iast hx hb hK hP hD hS m1 0 e1 rfl (vi_in (n := 6) (by decide) c_1 c_7) dX1_answer_36 (fun H locs hP hD hS => ?_)
          obtain ⟨f_1, ef_1⟩ : ∃ zz : Nat → va_E, zz = va_up f q1 (.inl (cs 0, 6, .inl (upd an x.toNatClampNeg 3))) := ⟨_, rfl⟩
          have hP : va_P G vwCl (va_pl L f_1) H := by rw [ef_1]; exact hP
          have hD : va_D (pw_A L s.heap.size) (va_pl L f_1) := by rw [ef_1]; exact hD
          have hf_1_q := (show f_1 q = f q by rw [ef_1]; exact va_up_ne _ _ (pe_ro e0 e1)).trans e0
          have hf_1_q1 : f_1 q1 = .inl (cs 0, 6, .inl (upd an x.toNatClampNeg 3)) := by rw [ef_1]; exact va_up_self _ _ _
          have hf_1_q2 := (show f_1 q2 = f q2 by rw [ef_1]; exact va_up_ne _ _ (Ne.symm n12)).trans e2
          have hf_1_q3 := (show f_1 q3 = f q3 by rw [ef_1]; exact va_up_ne _ _ (Ne.symm n13)).trans e3
          refine lv_iconst (v := 1) hx hb dX1_answer_37 (by decide) ?_
          exact pc_retz hx hb hr rfl hlocks hP hD hS dX1_answer_38 (by simp [sp_answer, c_1, c_7, c_17, c_28, ef_1])
        · refine lv_iconst (v := 2) hx hb dX1_answer_31 (by decide) ?_
          refine lv_goto (tgt := 36) hx hb dX1_answer_32 (by decide) ?_
          refine pw_iast hx hb hK hP hD hS m1 0 e1 rfl (vi_in (n := 6) (by decide) c_1 c_7) dX1_answer_36 (fun H locs hP hD hS => ?_)
          obtain ⟨f_2, ef_2⟩ : ∃ zz : Nat → va_E, zz = va_up f q1 (.inl (cs 0, 6, .inl (upd an x.toNatClampNeg 2))) := ⟨_, rfl⟩
          have hP : va_P G vwCl (va_pl L f_2) H := by rw [ef_2]; exact hP
          have hD : va_D (pw_A L s.heap.size) (va_pl L f_2) := by rw [ef_2]; exact hD
          have hf_2_q := (show f_2 q = f q by rw [ef_2]; exact va_up_ne _ _ (pe_ro e0 e1)).trans e0
          have hf_2_q1 : f_2 q1 = .inl (cs 0, 6, .inl (upd an x.toNatClampNeg 2)) := by rw [ef_2]; exact va_up_self _ _ _
          have hf_2_q2 := (show f_2 q2 = f q2 by rw [ef_2]; exact va_up_ne _ _ (Ne.symm n12)).trans e2
          have hf_2_q3 := (show f_2 q3 = f q3 by rw [ef_2]; exact va_up_ne _ _ (Ne.symm n13)).trans e3
          refine lv_iconst (v := 1) hx hb dX1_answer_37 (by decide) ?_
          exact pc_retz hx hb hr rfl hlocks hP hD hS dX1_answer_38 (by simp [sp_answer, c_1, c_7, c_17, c_28, ef_2])
      · refine lv_iconst (v := 0) hx hb dX1_answer_20 (by decide) ?_
        exact pc_retz hx hb hr rfl hlocks hP hD hS dX1_answer_21 (by simp [sp_answer, c_1, c_7, c_17])

set_option maxHeartbeats 4000000 in
set_option maxRecDepth 100000 in
theorem k_N_silent (l : Launch) (G : va_G) (cs : Nat → ClassId) (L : List Nat) (f : Nat → va_E) (sz : Nat) (q q1 q2 q3 : Nat) (g : Int64) (fr to : Int32) (an ao dy : Nat → Int32) (ct : Int64) (t : Int32) (hN : NT cs L f q q1 q2 q3 g fr to an ao dy ct) : Met l yX1_agreeSilently (Cond.code yX1_agreeSilently cX1_agreeSilently 4 (some FieldType.int) :: wg) ({ frames := 0, cells := 0, slots := 0, locals := 0 }) (pc_P [.ref q, .int t] G vwCl (tyl cs) L f sz (fun _ => True)) (va_Qi (fun r u => (r, u) = (nI (sp_sil ao dy t an 6).2, (L, va_up f q1 (.inl (cs 0, 6, .inl (sp_sil ao dy t an 6).1))))) (pc_B G vwCl L sz) (pw_A L sz)) 0 0 (pw_A L sz) := by
  refine Met.ofW (cc := cX1_agreeSilently) (maxL := 4) (ret := (some FieldType.int)) (by decide) rfl ?_
  intro p e s m args below meth c s₁ B hml hv
  obtain ⟨rfl, hsz, hP, hK, hD0, hX⟩ := hv
  have hx := B.exec
  have hb := B.bytes
  have hr := B.returns
  have hts0 := atoms_spec (ws := (Cond.code yX1_agreeSilently cX1_agreeSilently 4 (some FieldType.int) :: wg)) B.pre
  have hts := fun (w : Cond) (h : w ∈ wg) => hts0 w (List.mem_cons_of_mem _ h)
  have hown : s.vm.findClass RX1 = some m.cls := findClass_of_methodNamed B.named
  have hlocks := B.notSynchronized
  subst hsz
  have hD := pw_selfD (sz := s.heap.size) hD0
  have hA : ∀ q : Nat, s.heap.size ≤ q → pw_A L s.heap.size q := fun q h => Or.inr h
  have hS : va_S (pw_A L s.heap.size) s.heap s.heap [] := va_S.rf
  have hl := lv_entry ([.ref q, .int t]) (n := 4) (Nat.le_of_ble_eq_true rfl)
  rw [lg_entry_eq]
  generalize (lg_sl ([.ref q, .int t]) ++ List.replicate (4 - (lg_sl ([.ref q, .int t])).length) Slot.unset).toArray = ls at hl ⊢
  have hl : lv_has ls 4 [(0, .ref q), (1, .int t)] := hl
  obtain ⟨⟨m0, m1, m2, m3⟩, ⟨e0, e1, e2, e3⟩, n12, n13, n23⟩ := hN
  refine lv_iconst (v := 0) hx hb dX1_agreeSilently_0 (by decide) ?_
  refine lv_istore_n (lv' := [(2, .int 0), (0, .ref q), (1, .int t)]) hx hb dX1_agreeSilently_1 rfl hl (by decide) rfl (fun ls hl => ?_)
  refine lv_iconst (v := 0) hx hb dX1_agreeSilently_2 (by decide) ?_
  refine lv_istore_n (lv' := [(3, .int 0), (2, .int 0), (0, .ref q), (1, .int t)]) hx hb dX1_agreeSilently_3 rfl hl (by decide) rfl (fun ls hl => ?_)
  have hf0 : f = va_up f q1 (.inl (cs 0, 6, .inl (sp_sil ao dy t an 0).1)) := by
    funext b
    by_cases hb1 : b = q1
    · rw [hb1, va_up_self, e1]; rfl
    · rw [va_up_ne _ _ hb1]
  refine pc_loop (σ := Nat) (nL := 4) (fun k => 6 - k) (fun k => k ≤ 6) (fun k => (L, va_up f q1 (.inl (cs 0, 6, .inl (sp_sil ao dy t an k).1)))) (fun k => [(3, .int (nI k)), (2, .int (nI (sp_sil ao dy t an k).2)), (0, .ref q), (1, .int t)]) ?_ 0 (by omega) (by rw [← hf0]; exact hP) (by rw [← hf0]; exact hD) hS ls (lv_sub hl [0, 1, 2, 3] rfl)
  intro k hk ih H locs ls hP hD hS hl
  obtain ⟨fk, efk⟩ : ∃ zz : Nat → va_E, zz = va_up f q1 (.inl (cs 0, 6, .inl (sp_sil ao dy t an k).1)) := ⟨_, rfl⟩
  have hP : va_P G vwCl (va_pl L fk) H := by rw [efk]; exact hP
  have hD : va_D (pw_A L s.heap.size) (va_pl L fk) := by rw [efk]; exact hD
  have k0 := (show fk q = f q by rw [efk]; exact va_up_ne _ _ (pe_ro e0 e1)).trans e0
  have k1 : fk q1 = .inl (cs 0, 6, .inl (sp_sil ao dy t an k).1) := by rw [efk]; exact va_up_self _ _ _
  have k2 := (show fk q2 = f q2 by rw [efk]; exact va_up_ne _ _ (Ne.symm n12)).trans e2
  have k3 := (show fk q3 = f q3 by rw [efk]; exact va_up_ne _ _ (Ne.symm n13)).trans e3
  refine lv_iload_n hx hb dX1_agreeSilently_4 rfl (lv_at hl 0 rfl) ?_
  refine lv_bipush (v := 6) hx hb dX1_agreeSilently_5 (by decide) ?_
  refine lv_icmp_ge (tgt := 53) hx hb dX1_agreeSilently_7 (by decide) (fun c_7 => ?_) (fun c_7 => ?_)
  · have hk6 : k = 6 := Nat.le_antisymm hk (nI_of_le (b := 6) c_7 (by decide))
    subst hk6
    refine lv_iload_n hx hb dX1_agreeSilently_53 rfl (lv_at hl 1 rfl) ?_
    exact pc_reti hx hb hr hlocks hP hD hS dX1_agreeSilently_54 rfl
  · have hk6 : k < 6 := nI_of_ge (b := 6) c_7 (by omega)
    refine lv_aload_n hx hb dX1_agreeSilently_10 rfl (lv_at hl 2 rfl) ?_
    refine pw_get (ci := 1) (C := RX1) (T := TX1) (N := 7) hx hb hts inX1 hown hK hP m0 k0 rfl 3 (by decide) (hts _ mw_87) (fun _ h9 => h9) rfl dX1_agreeSilently_11 ?_
    refine lv_iload_n hx hb dX1_agreeSilently_14 rfl (lv_at hl 0 rfl) ?_
    refine pw_ialdN (k := k) hx hb hK hP m1 0 k1 rfl hk6 (by decide) dX1_agreeSilently_15 ?_
    refine lv_iconst (v := 1) hx hb dX1_agreeSilently_16 (by decide) ?_
    refine lv_icmp_ne (tgt := 47) hx hb dX1_agreeSilently_17 (by decide) (fun c_17 => ?_) (fun c_17 => ?_)
    · obtain ⟨z_1, ez_1⟩ : ∃ z : Int32, z = (nI k) + 1 := ⟨_, rfl⟩
      refine lv_iinc (v := z_1) (lv' := [(3, .int z_1), (2, .int (nI (sp_sil ao dy t an k).2)), (0, .ref q), (1, .int t)]) hx hb dX1_agreeSilently_47 hl (k := 0) rfl (by rw [ez_1]; rfl) (by decide) rfl (fun ls hl => ?_)
      refine lv_goto (tgt := 4) hx hb dX1_agreeSilently_50 (by decide) ?_
      obtain rfl : z_1 = nI (k + 1) := by rw [ez_1]; exact nI_1 k
      have hsl : sp_sil ao dy t an (k + 1) = sp_sil ao dy t an k := by simp [sp_sil, c_7, c_17]
      have hfe : fk = va_up f q1 (.inl (cs 0, 6, .inl (sp_sil ao dy t an (k + 1)).1)) := by rw [hsl, efk]
      rw [← hsl] at hl
      rw [hfe] at hP hD
      exact ih (k + 1) (by omega) (by omega) _ _ ls hP hD hS (lv_sub hl [0, 1, 2, 3] rfl)
    · refine lv_iload_n hx hb dX1_agreeSilently_20 rfl (lv_at hl 3 rfl) ?_
      refine lv_aload_n hx hb dX1_agreeSilently_21 rfl (lv_at hl 2 rfl) ?_
      refine pw_get (ci := 1) (C := RX1) (T := TX1) (N := 7) hx hb hts inX1 hown hK hP m0 k0 rfl 4 (by decide) (hts _ mw_88) (fun _ h9 => h9) rfl dX1_agreeSilently_22 ?_
      refine lv_iload_n hx hb dX1_agreeSilently_25 rfl (lv_at hl 0 rfl) ?_
      refine pw_ialdN (k := k) hx hb hK hP m2 0 k2 rfl hk6 (by decide) dX1_agreeSilently_26 ?_
      refine lv_isub hx hb dX1_agreeSilently_27 ?_
      refine lv_aload_n hx hb dX1_agreeSilently_28 rfl (lv_at hl 2 rfl) ?_
      refine pw_get (ci := 1) (C := RX1) (T := TX1) (N := 7) hx hb hts inX1 hown hK hP m0 k0 rfl 5 (by decide) (hts _ mw_89) (fun _ h9 => h9) rfl dX1_agreeSilently_29 ?_
      refine lv_iload_n hx hb dX1_agreeSilently_32 rfl (lv_at hl 0 rfl) ?_
      refine pw_ialdN (k := k) hx hb hK hP m3 0 k3 rfl hk6 (by decide) dX1_agreeSilently_33 ?_
      refine lv_icmp_le (tgt := 47) hx hb dX1_agreeSilently_34 (by decide) (fun c_34 => ?_) (fun c_34 => ?_)
      · obtain ⟨z_2, ez_2⟩ : ∃ z : Int32, z = (nI k) + 1 := ⟨_, rfl⟩
        refine lv_iinc (v := z_2) (lv' := [(3, .int z_2), (2, .int (nI (sp_sil ao dy t an k).2)), (0, .ref q), (1, .int t)]) hx hb dX1_agreeSilently_47 hl (k := 0) rfl (by rw [ez_2]; rfl) (by decide) rfl (fun ls hl => ?_)
        refine lv_goto (tgt := 4) hx hb dX1_agreeSilently_50 (by decide) ?_
        obtain rfl : z_2 = nI (k + 1) := by rw [ez_2]; exact nI_1 k
        have hsl : sp_sil ao dy t an (k + 1) = sp_sil ao dy t an k := by simp [sp_sil, c_7, c_17, c_34]
        have hfe : fk = va_up f q1 (.inl (cs 0, 6, .inl (sp_sil ao dy t an (k + 1)).1)) := by rw [hsl, efk]
        rw [← hsl] at hl
        rw [hfe] at hP hD
        exact ih (k + 1) (by omega) (by omega) _ _ ls hP hD hS (lv_sub hl [0, 1, 2, 3] rfl)
      · refine lv_aload_n hx hb dX1_agreeSilently_37 rfl (lv_at hl 2 rfl) ?_
        refine pw_get (ci := 1) (C := RX1) (T := TX1) (N := 7) hx hb hts inX1 hown hK hP m0 k0 rfl 3 (by decide) (hts _ mw_87) (fun _ h9 => h9) rfl dX1_agreeSilently_38 ?_
        refine lv_iload_n hx hb dX1_agreeSilently_41 rfl (lv_at hl 0 rfl) ?_
        refine lv_iconst (v := 2) hx hb dX1_agreeSilently_42 (by decide) ?_
        refine pw_iastN (k := k) hx hb hK hP hD hS m1 0 k1 rfl hk6 (by decide) dX1_agreeSilently_43 (fun H locs hP hD hS => ?_)
        obtain ⟨f_3, ef_3⟩ : ∃ zz : Nat → va_E, zz = va_up fk q1 (.inl (cs 0, 6, .inl (upd ((sp_sil ao dy t an k).1) k 2))) := ⟨_, rfl⟩
        have hP : va_P G vwCl (va_pl L f_3) H := by rw [ef_3]; exact hP
        have hD : va_D (pw_A L s.heap.size) (va_pl L f_3) := by rw [ef_3]; exact hD
        have hf_3_q := (show f_3 q = fk q by rw [ef_3]; exact va_up_ne _ _ (pe_ro e0 e1)).trans k0
        have hf_3_q1 : f_3 q1 = .inl (cs 0, 6, .inl (upd ((sp_sil ao dy t an k).1) k 2)) := by rw [ef_3]; exact va_up_self _ _ _
        have hf_3_q2 := (show f_3 q2 = fk q2 by rw [ef_3]; exact va_up_ne _ _ (Ne.symm n12)).trans k2
        have hf_3_q3 := (show f_3 q3 = fk q3 by rw [ef_3]; exact va_up_ne _ _ (Ne.symm n13)).trans k3
        obtain ⟨z_4, ez_4⟩ : ∃ z : Int32, z = (nI (sp_sil ao dy t an k).2) + 1 := ⟨_, rfl⟩
        refine lv_iinc (v := z_4) (lv' := [(2, .int z_4), (3, .int (nI k)), (0, .ref q), (1, .int t)]) hx hb dX1_agreeSilently_44 hl (k := 1) rfl (by rw [ez_4]; rfl) (by decide) rfl (fun ls hl => ?_)
        obtain ⟨z_5, ez_5⟩ : ∃ z : Int32, z = (nI k) + 1 := ⟨_, rfl⟩
        refine lv_iinc (v := z_5) (lv' := [(3, .int z_5), (2, .int z_4), (0, .ref q), (1, .int t)]) hx hb dX1_agreeSilently_47 hl (k := 1) rfl (by rw [ez_5]; rfl) (by decide) rfl (fun ls hl => ?_)
        refine lv_goto (tgt := 4) hx hb dX1_agreeSilently_50 (by decide) ?_
        obtain rfl : z_5 = nI (k + 1) := by rw [ez_5]; exact nI_1 k
        have hsl : sp_sil ao dy t an (k + 1) = (upd (sp_sil ao dy t an k).1 k 2, (sp_sil ao dy t an k).2 + 1) := by simp [sp_sil, c_7, c_17, c_34]
        obtain rfl : z_4 = nI (sp_sil ao dy t an (k + 1)).2 := by rw [ez_4, nI_1, hsl]
        have hfe : f_3 = va_up f q1 (.inl (cs 0, 6, .inl (sp_sil ao dy t an (k + 1)).1)) := by rw [ef_3, efk, hsl, bx_uu]
        rw [hfe] at hP hD
        exact ih (k + 1) (by omega) (by omega) _ _ ls hP hD hS (lv_sub hl [0, 1, 2, 3] rfl)

set_option maxHeartbeats 4000000 in
set_option maxRecDepth 100000 in
theorem k_N_init (l : Launch) (G : va_G) (cs : Nat → ClassId) (L : List Nat) (f : Nat → va_E) (sz : Nat) (q : Nat) (g : Int64) (fr to : Int32) (hq0 : q ∈ L) (he0 : f q = .inr (1, [.long 0, .int 0, .int 0, .null, .null, .null, .long 0])) : Met l yX1_init (Cond.code yX1_init cX1_init 5 none :: wg) ({ frames := 1, cells := 3, slots := 18, locals := 12 }) (pc_P [.ref q, .long g, .int fr, .int to] G vwCl (tyl cs) L f sz (fun _ => True)) (va_Qv (fun u => ∃ q1 q2 q3, q1 ∉ L ∧ q2 ∉ L ∧ q3 ∉ L ∧ (∀ a ∈ L, a ∈ u.1) ∧ (∀ a, a ∈ L → a ≠ q → u.2 a = f a) ∧ NT cs u.1 u.2 q q1 q2 q3 g fr to (fun _ => 0) (fun _ => 0) (fun _ => 0) 0) (pc_B G vwCl L sz) (pw_A L sz)) 3 18 (pw_A L sz) := by
  refine Met.ofW (cc := cX1_init) (maxL := 5) (ret := none) (by decide) rfl ?_
  intro p e s m args below meth c s₁ B hml hv
  obtain ⟨rfl, hsz, hP, hK, hD0, hX⟩ := hv
  have hx := B.exec
  have hb := B.bytes
  have hr := B.returns
  have hts0 := atoms_spec (ws := (Cond.code yX1_init cX1_init 5 none :: wg)) B.pre
  have hts := fun (w : Cond) (h : w ∈ wg) => hts0 w (List.mem_cons_of_mem _ h)
  have hown : s.vm.findClass RX1 = some m.cls := findClass_of_methodNamed B.named
  have hlocks := B.notSynchronized
  have hin : meth.name = "<init>" := (name_of_methodNamed B.named B.method).1
  subst hsz
  have hD := pw_selfD (sz := s.heap.size) hD0
  have hA : ∀ q : Nat, s.heap.size ≤ q → pw_A L s.heap.size q := fun q h => Or.inr h
  have hS : va_S (pw_A L s.heap.size) s.heap s.heap [] := va_S.rf
  have hl := lv_entry ([.ref q, .long g, .int fr, .int to]) (n := 5) (Nat.le_of_ble_eq_true rfl)
  rw [lg_entry_eq]
  generalize (lg_sl ([.ref q, .long g, .int fr, .int to]) ++ List.replicate (5 - (lg_sl ([.ref q, .long g, .int fr, .int to])).length) Slot.unset).toArray = ls at hl ⊢
  have hl : lv_has ls 5 [(0, .ref q), (1, .long g), (3, .int fr), (4, .int to)] := hl
  refine lv_aload_n hx hb dX1_init_0 rfl (lv_at hl 0 rfl) ?_
  refine W.objInit hx hb hown (hts _ mw_80) (hts _ mw_12) (hts _ mw_obj) rfl (by rw [hml]; exact hl.1) rfl dX1_init_1 (Nat.le_of_ble_eq_true rfl) (Nat.le_of_ble_eq_true rfl) ?_
  refine W.eq (g2 := F0 m 4 ls []) rfl ?_
  refine lv_aload_n hx hb dX1_init_4 rfl (lv_at hl 0 rfl) ?_
  refine lv_bipush (v := 6) hx hb dX1_init_5 (by decide) ?_
  refine pw_newa (atype := .int) (ty := .int) (a0 := (6, .inl (fun _ => 0))) hx hb (hts _ mw_106) rfl hK hP hD hS hA 0 rfl (fun _ h => h) (fun _ => rfl) (by decide) (by decide) (by decide) (Nat.le_of_ble_eq_true rfl) (Nat.le_of_ble_eq_true rfl) dX1_init_7 (fun q_2 H hq_2 hP hD hS => ?_)
  refine W.widen (k := 1) (n := 6) (Nat.le_refl _) (Nat.le_of_ble_eq_true rfl) ?_
  obtain ⟨f_1, ef_1⟩ : ∃ zz : Nat → va_E, zz = va_up f q_2 (.inl (cs 0, 6, .inl (fun _ => 0))) := ⟨_, rfl⟩
  have hP : va_P G vwCl (va_pl (L ++ [q_2]) f_1) H := by rw [ef_1]; exact hP
  have hD : va_D (pw_A L s.heap.size) (va_pl (L ++ [q_2]) f_1) := by rw [ef_1]; exact hD
  have mf_1_q : q ∈ (L ++ [q_2]) := List.mem_append_left _ hq0
  have hf_1_q := (show f_1 q = f q by rw [ef_1]; exact va_up_ne _ _ (fun h => hq_2 (h ▸ hq0))).trans he0
  have mf_1_q_2 : q_2 ∈ (L ++ [q_2]) := List.mem_append_right _ (List.mem_singleton.mpr rfl)
  have hf_1_q_2 : f_1 q_2 = .inl (cs 0, 6, .inl (fun _ => 0)) := by rw [ef_1]; exact va_up_self _ _ _
  refine pw_putF (ty := .array .int) (ci := 1) (v := .ref q_2) (C := RX1) (T := TX1) (N := 7) hx hb hts inX1 tyX1 tyX1_ok nmX1 hown hK hP hD hS mf_1_q hf_1_q rfl 3 (by decide) (hts _ mw_87) (fun _ h9 => h9) rfl hin rfl (by decide +kernel) rfl rfl (Nat.le_of_ble_eq_true rfl) dX1_init_9 (fun H locs hP hD hS => ?_)
  obtain ⟨f_3, ef_3⟩ : ∃ zz : Nat → va_E, zz = va_up f_1 q (.inr (1, [.long 0, .int 0, .int 0, .ref q_2, .null, .null, .long 0])) := ⟨_, rfl⟩
  have hP : va_P G vwCl (va_pl (L ++ [q_2]) f_3) H := by rw [ef_3]; exact hP
  have hD : va_D (pw_A L s.heap.size) (va_pl (L ++ [q_2]) f_3) := by rw [ef_3]; exact hD
  have hf_3_q : f_3 q = .inr (1, [.long 0, .int 0, .int 0, .ref q_2, .null, .null, .long 0]) := by rw [ef_3]; exact va_up_self _ _ _
  have hf_3_q_2 := (show f_3 q_2 = f_1 q_2 by rw [ef_3]; exact va_up_ne _ _ (pe_ro hf_1_q hf_1_q_2).symm).trans hf_1_q_2
  refine lv_aload_n hx hb dX1_init_12 rfl (lv_at hl 0 rfl) ?_
  refine lv_bipush (v := 6) hx hb dX1_init_13 (by decide) ?_
  refine pw_newa (atype := .int) (ty := .int) (a0 := (6, .inl (fun _ => 0))) hx hb (hts _ mw_106) rfl hK hP hD hS hA 0 rfl (fun _ h => h) (fun _ => rfl) (by decide) (by decide) (by decide) (Nat.le_of_ble_eq_true rfl) (Nat.le_of_ble_eq_true rfl) dX1_init_15 (fun q_5 H hq_5 hP hD hS => ?_)
  refine W.widen (k := 2) (n := 12) (Nat.le_refl _) (Nat.le_of_ble_eq_true rfl) ?_
  obtain ⟨f_4, ef_4⟩ : ∃ zz : Nat → va_E, zz = va_up f_3 q_5 (.inl (cs 0, 6, .inl (fun _ => 0))) := ⟨_, rfl⟩
  have hP : va_P G vwCl (va_pl ((L ++ [q_2]) ++ [q_5]) f_4) H := by rw [ef_4]; exact hP
  have hD : va_D (pw_A L s.heap.size) (va_pl ((L ++ [q_2]) ++ [q_5]) f_4) := by rw [ef_4]; exact hD
  have mf_4_q : q ∈ ((L ++ [q_2]) ++ [q_5]) := List.mem_append_left _ mf_1_q
  have hf_4_q := (show f_4 q = f_3 q by rw [ef_4]; exact va_up_ne _ _ (fun h => hq_5 (h ▸ mf_1_q))).trans hf_3_q
  have mf_4_q_2 : q_2 ∈ ((L ++ [q_2]) ++ [q_5]) := List.mem_append_left _ mf_1_q_2
  have hf_4_q_2 := (show f_4 q_2 = f_3 q_2 by rw [ef_4]; exact va_up_ne _ _ (fun h => hq_5 (h ▸ mf_1_q_2))).trans hf_3_q_2
  have mf_4_q_5 : q_5 ∈ ((L ++ [q_2]) ++ [q_5]) := List.mem_append_right _ (List.mem_singleton.mpr rfl)
  have hf_4_q_5 : f_4 q_5 = .inl (cs 0, 6, .inl (fun _ => 0)) := by rw [ef_4]; exact va_up_self _ _ _
  refine pw_putF (ty := .array .int) (ci := 1) (v := .ref q_5) (C := RX1) (T := TX1) (N := 7) hx hb hts inX1 tyX1 tyX1_ok nmX1 hown hK hP hD hS mf_4_q hf_4_q rfl 4 (by decide) (hts _ mw_88) (fun _ h9 => h9) rfl hin rfl (by decide +kernel) rfl rfl (Nat.le_of_ble_eq_true rfl) dX1_init_17 (fun H locs hP hD hS => ?_)
  obtain ⟨f_6, ef_6⟩ : ∃ zz : Nat → va_E, zz = va_up f_4 q (.inr (1, [.long 0, .int 0, .int 0, .ref q_2, .ref q_5, .null, .long 0])) := ⟨_, rfl⟩
  have hP : va_P G vwCl (va_pl ((L ++ [q_2]) ++ [q_5]) f_6) H := by rw [ef_6]; exact hP
  have hD : va_D (pw_A L s.heap.size) (va_pl ((L ++ [q_2]) ++ [q_5]) f_6) := by rw [ef_6]; exact hD
  have hf_6_q : f_6 q = .inr (1, [.long 0, .int 0, .int 0, .ref q_2, .ref q_5, .null, .long 0]) := by rw [ef_6]; exact va_up_self _ _ _
  have hf_6_q_2 := (show f_6 q_2 = f_4 q_2 by rw [ef_6]; exact va_up_ne _ _ (pe_ro hf_4_q hf_4_q_2).symm).trans hf_4_q_2
  have hf_6_q_5 := (show f_6 q_5 = f_4 q_5 by rw [ef_6]; exact va_up_ne _ _ (pe_ro hf_4_q hf_4_q_5).symm).trans hf_4_q_5
  refine lv_aload_n hx hb dX1_init_20 rfl (lv_at hl 0 rfl) ?_
  refine lv_bipush (v := 6) hx hb dX1_init_21 (by decide) ?_
  refine pw_newa (atype := .int) (ty := .int) (a0 := (6, .inl (fun _ => 0))) hx hb (hts _ mw_106) rfl hK hP hD hS hA 0 rfl (fun _ h => h) (fun _ => rfl) (by decide) (by decide) (by decide) (Nat.le_of_ble_eq_true rfl) (Nat.le_of_ble_eq_true rfl) dX1_init_23 (fun q_8 H hq_8 hP hD hS => ?_)
  refine W.widen (k := 3) (n := 18) (Nat.le_refl _) (Nat.le_of_ble_eq_true rfl) ?_
  obtain ⟨f_7, ef_7⟩ : ∃ zz : Nat → va_E, zz = va_up f_6 q_8 (.inl (cs 0, 6, .inl (fun _ => 0))) := ⟨_, rfl⟩
  have hP : va_P G vwCl (va_pl (((L ++ [q_2]) ++ [q_5]) ++ [q_8]) f_7) H := by rw [ef_7]; exact hP
  have hD : va_D (pw_A L s.heap.size) (va_pl (((L ++ [q_2]) ++ [q_5]) ++ [q_8]) f_7) := by rw [ef_7]; exact hD
  have mf_7_q : q ∈ (((L ++ [q_2]) ++ [q_5]) ++ [q_8]) := List.mem_append_left _ mf_4_q
  have hf_7_q := (show f_7 q = f_6 q by rw [ef_7]; exact va_up_ne _ _ (fun h => hq_8 (h ▸ mf_4_q))).trans hf_6_q
  have mf_7_q_2 : q_2 ∈ (((L ++ [q_2]) ++ [q_5]) ++ [q_8]) := List.mem_append_left _ mf_4_q_2
  have hf_7_q_2 := (show f_7 q_2 = f_6 q_2 by rw [ef_7]; exact va_up_ne _ _ (fun h => hq_8 (h ▸ mf_4_q_2))).trans hf_6_q_2
  have mf_7_q_5 : q_5 ∈ (((L ++ [q_2]) ++ [q_5]) ++ [q_8]) := List.mem_append_left _ mf_4_q_5
  have hf_7_q_5 := (show f_7 q_5 = f_6 q_5 by rw [ef_7]; exact va_up_ne _ _ (fun h => hq_8 (h ▸ mf_4_q_5))).trans hf_6_q_5
  have mf_7_q_8 : q_8 ∈ (((L ++ [q_2]) ++ [q_5]) ++ [q_8]) := List.mem_append_right _ (List.mem_singleton.mpr rfl)
  have hf_7_q_8 : f_7 q_8 = .inl (cs 0, 6, .inl (fun _ => 0)) := by rw [ef_7]; exact va_up_self _ _ _
  refine pw_putF (ty := .array .int) (ci := 1) (v := .ref q_8) (C := RX1) (T := TX1) (N := 7) hx hb hts inX1 tyX1 tyX1_ok nmX1 hown hK hP hD hS mf_7_q hf_7_q rfl 5 (by decide) (hts _ mw_89) (fun _ h9 => h9) rfl hin rfl (by decide +kernel) rfl rfl (Nat.le_of_ble_eq_true rfl) dX1_init_25 (fun H locs hP hD hS => ?_)
  obtain ⟨f_9, ef_9⟩ : ∃ zz : Nat → va_E, zz = va_up f_7 q (.inr (1, [.long 0, .int 0, .int 0, .ref q_2, .ref q_5, .ref q_8, .long 0])) := ⟨_, rfl⟩
  have hP : va_P G vwCl (va_pl (((L ++ [q_2]) ++ [q_5]) ++ [q_8]) f_9) H := by rw [ef_9]; exact hP
  have hD : va_D (pw_A L s.heap.size) (va_pl (((L ++ [q_2]) ++ [q_5]) ++ [q_8]) f_9) := by rw [ef_9]; exact hD
  have hf_9_q : f_9 q = .inr (1, [.long 0, .int 0, .int 0, .ref q_2, .ref q_5, .ref q_8, .long 0]) := by rw [ef_9]; exact va_up_self _ _ _
  have hf_9_q_2 := (show f_9 q_2 = f_7 q_2 by rw [ef_9]; exact va_up_ne _ _ (pe_ro hf_7_q hf_7_q_2).symm).trans hf_7_q_2
  have hf_9_q_5 := (show f_9 q_5 = f_7 q_5 by rw [ef_9]; exact va_up_ne _ _ (pe_ro hf_7_q hf_7_q_5).symm).trans hf_7_q_5
  have hf_9_q_8 := (show f_9 q_8 = f_7 q_8 by rw [ef_9]; exact va_up_ne _ _ (pe_ro hf_7_q hf_7_q_8).symm).trans hf_7_q_8
  refine lv_aload_n hx hb dX1_init_28 rfl (lv_at hl 0 rfl) ?_
  refine lv_lload_n hx hb dX1_init_29 rfl (lv_at hl 1 rfl) ?_
  refine pw_putF (ty := .long) (ci := 1) (v := .long g) (C := RX1) (T := TX1) (N := 7) hx hb hts inX1 tyX1 tyX1_ok nmX1 hown hK hP hD hS mf_7_q hf_9_q rfl 0 (by decide) (hts _ mw_81) (fun _ h9 => h9) rfl hin rfl (by decide +kernel) rfl rfl (Nat.le_of_ble_eq_true rfl) dX1_init_30 (fun H locs hP hD hS => ?_)
  obtain ⟨f_10, ef_10⟩ : ∃ zz : Nat → va_E, zz = va_up f_9 q (.inr (1, [.long g, .int 0, .int 0, .ref q_2, .ref q_5, .ref q_8, .long 0])) := ⟨_, rfl⟩
  have hP : va_P G vwCl (va_pl (((L ++ [q_2]) ++ [q_5]) ++ [q_8]) f_10) H := by rw [ef_10]; exact hP
  have hD : va_D (pw_A L s.heap.size) (va_pl (((L ++ [q_2]) ++ [q_5]) ++ [q_8]) f_10) := by rw [ef_10]; exact hD
  have hf_10_q : f_10 q = .inr (1, [.long g, .int 0, .int 0, .ref q_2, .ref q_5, .ref q_8, .long 0]) := by rw [ef_10]; exact va_up_self _ _ _
  have hf_10_q_2 := (show f_10 q_2 = f_9 q_2 by rw [ef_10]; exact va_up_ne _ _ (pe_ro hf_9_q hf_9_q_2).symm).trans hf_9_q_2
  have hf_10_q_5 := (show f_10 q_5 = f_9 q_5 by rw [ef_10]; exact va_up_ne _ _ (pe_ro hf_9_q hf_9_q_5).symm).trans hf_9_q_5
  have hf_10_q_8 := (show f_10 q_8 = f_9 q_8 by rw [ef_10]; exact va_up_ne _ _ (pe_ro hf_9_q hf_9_q_8).symm).trans hf_9_q_8
  refine lv_aload_n hx hb dX1_init_33 rfl (lv_at hl 0 rfl) ?_
  refine lv_iload_n hx hb dX1_init_34 rfl (lv_at hl 2 rfl) ?_
  refine pw_putF (ty := .int) (ci := 1) (v := .int fr) (C := RX1) (T := TX1) (N := 7) hx hb hts inX1 tyX1 tyX1_ok nmX1 hown hK hP hD hS mf_7_q hf_10_q rfl 1 (by decide) (hts _ mw_83) (fun _ h9 => h9) rfl hin rfl (by decide +kernel) rfl rfl (Nat.le_of_ble_eq_true rfl) dX1_init_35 (fun H locs hP hD hS => ?_)
  obtain ⟨f_11, ef_11⟩ : ∃ zz : Nat → va_E, zz = va_up f_10 q (.inr (1, [.long g, .int fr, .int 0, .ref q_2, .ref q_5, .ref q_8, .long 0])) := ⟨_, rfl⟩
  have hP : va_P G vwCl (va_pl (((L ++ [q_2]) ++ [q_5]) ++ [q_8]) f_11) H := by rw [ef_11]; exact hP
  have hD : va_D (pw_A L s.heap.size) (va_pl (((L ++ [q_2]) ++ [q_5]) ++ [q_8]) f_11) := by rw [ef_11]; exact hD
  have hf_11_q : f_11 q = .inr (1, [.long g, .int fr, .int 0, .ref q_2, .ref q_5, .ref q_8, .long 0]) := by rw [ef_11]; exact va_up_self _ _ _
  have hf_11_q_2 := (show f_11 q_2 = f_10 q_2 by rw [ef_11]; exact va_up_ne _ _ (pe_ro hf_10_q hf_10_q_2).symm).trans hf_10_q_2
  have hf_11_q_5 := (show f_11 q_5 = f_10 q_5 by rw [ef_11]; exact va_up_ne _ _ (pe_ro hf_10_q hf_10_q_5).symm).trans hf_10_q_5
  have hf_11_q_8 := (show f_11 q_8 = f_10 q_8 by rw [ef_11]; exact va_up_ne _ _ (pe_ro hf_10_q hf_10_q_8).symm).trans hf_10_q_8
  refine lv_aload_n hx hb dX1_init_38 rfl (lv_at hl 0 rfl) ?_
  refine lv_iload hx hb dX1_init_39 (lv_at hl 3 rfl) ?_
  refine pw_putF (ty := .int) (ci := 1) (v := .int to) (C := RX1) (T := TX1) (N := 7) hx hb hts inX1 tyX1 tyX1_ok nmX1 hown hK hP hD hS mf_7_q hf_11_q rfl 2 (by decide) (hts _ mw_85) (fun _ h9 => h9) rfl hin rfl (by decide +kernel) rfl rfl (Nat.le_of_ble_eq_true rfl) dX1_init_41 (fun H locs hP hD hS => ?_)
  obtain ⟨f_12, ef_12⟩ : ∃ zz : Nat → va_E, zz = va_up f_11 q (.inr (1, [.long g, .int fr, .int to, .ref q_2, .ref q_5, .ref q_8, .long 0])) := ⟨_, rfl⟩
  have hP : va_P G vwCl (va_pl (((L ++ [q_2]) ++ [q_5]) ++ [q_8]) f_12) H := by rw [ef_12]; exact hP
  have hD : va_D (pw_A L s.heap.size) (va_pl (((L ++ [q_2]) ++ [q_5]) ++ [q_8]) f_12) := by rw [ef_12]; exact hD
  have hf_12_q : f_12 q = .inr (1, [.long g, .int fr, .int to, .ref q_2, .ref q_5, .ref q_8, .long 0]) := by rw [ef_12]; exact va_up_self _ _ _
  have hf_12_q_2 := (show f_12 q_2 = f_11 q_2 by rw [ef_12]; exact va_up_ne _ _ (pe_ro hf_11_q hf_11_q_2).symm).trans hf_11_q_2
  have hf_12_q_5 := (show f_12 q_5 = f_11 q_5 by rw [ef_12]; exact va_up_ne _ _ (pe_ro hf_11_q hf_11_q_5).symm).trans hf_11_q_5
  have hf_12_q_8 := (show f_12 q_8 = f_11 q_8 by rw [ef_12]; exact va_up_ne _ _ (pe_ro hf_11_q hf_11_q_8).symm).trans hf_11_q_8
  have hfr : ∀ a, a ∈ L → a ≠ q → f_12 a = f a := by
    intro a ha haq
    rw [ef_12, va_up_ne _ _ haq, ef_11, va_up_ne _ _ haq, ef_10, va_up_ne _ _ haq, ef_9, va_up_ne _ _ haq, ef_7, va_up_ne _ _ (show a ≠ q_8 from fun h => hq_8 (h ▸ List.mem_append_left _ (List.mem_append_left _ (ha)))), ef_6, va_up_ne _ _ haq, ef_4, va_up_ne _ _ (show a ≠ q_5 from fun h => hq_5 (h ▸ List.mem_append_left _ (ha))), ef_3, va_up_ne _ _ haq, ef_1, va_up_ne _ _ (show a ≠ q_2 from fun h => hq_2 (h ▸ ha))]
  have hN : NT cs (((L ++ [q_2]) ++ [q_5]) ++ [q_8]) f_12 q q_2 q_5 q_8 g fr to (fun _ => 0) (fun _ => 0) (fun _ => 0) 0 := ⟨⟨mf_7_q, mf_7_q_2, mf_7_q_5, mf_7_q_8⟩, ⟨hf_12_q, hf_12_q_2, hf_12_q_5, hf_12_q_8⟩, (fun h => hq_5 (h ▸ List.mem_append_right _ (List.mem_singleton.mpr rfl))), (fun h => hq_8 (h ▸ List.mem_append_left _ (List.mem_append_right _ (List.mem_singleton.mpr rfl)))), (fun h => hq_8 (h ▸ List.mem_append_right _ (List.mem_singleton.mpr rfl)))⟩
  exact pc_retv hx hb hr hlocks hP hD hS dX1_init_44 ⟨q_2, q_5, q_8, fun h => hq_2 h, fun h => hq_5 (List.mem_append_left _ h), fun h => hq_8 (List.mem_append_left _ (List.mem_append_left _ h)), fun a ha => List.mem_append_left _ (List.mem_append_left _ (List.mem_append_left _ ha)), hfr, hN⟩
end
section
/-! The class Move: contracts. Laid by wip/gen/move.py. -/
set_option maxHeartbeats 4000000 in
set_option maxRecDepth 100000 in
theorem k_M_uses (l : Launch) (G : va_G) (cs : Nat → ClassId) (L : List Nat) (f : Nat → va_E) (q q1 : Nat) (no : Int32) (g : Int64) (dy : Int32) (cr : Nat → Int32) (cc : Nat) (st si mk : Int32) (hM : MV cs L f q q1 no g dy cr cc st si mk) : Met l yX0_usesGrams (Cond.code yX0_usesGrams cX0_usesGrams 1 (some FieldType.boolean) :: wg) ({ frames := 0, cells := 0, slots := 0, locals := 0 }) (pr_P [.ref q] G vwCl (tyl cs) L f (fun _ => True)) (vp_Si (fun r => r = sp_uses st)) 0 0 (fun _ => False) := by
  refine Met.ofW (cc := cX0_usesGrams) (maxL := 1) (ret := (some FieldType.boolean)) (by decide) rfl ?_
  intro p e s m args below meth c s₁ B hml hv
  obtain ⟨rfl, hP, hK, hX⟩ := hv
  have hx := B.exec
  have hb := B.bytes
  have hr := B.returns
  have hts0 := atoms_spec (ws := (Cond.code yX0_usesGrams cX0_usesGrams 1 (some FieldType.boolean) :: wg)) B.pre
  have hts := fun (w : Cond) (h : w ∈ wg) => hts0 w (List.mem_cons_of_mem _ h)
  have hown : s.vm.findClass RX0 = some m.cls := findClass_of_methodNamed B.named
  have hlocks := B.notSynchronized
  have hl := lv_entry ([.ref q]) (n := 1) (Nat.le_of_ble_eq_true rfl)
  rw [lg_entry_eq]
  generalize (lg_sl ([.ref q]) ++ List.replicate (1 - (lg_sl ([.ref q])).length) Slot.unset).toArray = ls at hl ⊢
  have hl : lv_has ls 1 [(0, .ref q)] := hl
  obtain ⟨⟨m0, m1⟩, e0, e1⟩ := id hM
  refine lv_aload_n hx hb dX0_usesGrams_0 rfl (lv_at hl 0 rfl) ?_
  refine pw_get (ci := 0) (C := RX0) (T := TX0) (N := 8) hx hb hts inX0 hown hK hP m0 e0 rfl 5 (by decide) (hts _ mw_168) (fun _ h9 => h9) rfl dX0_usesGrams_1 ?_
  refine lv_iconst (v := 4) hx hb dX0_usesGrams_4 (by decide) ?_
  refine lv_icmp_eq (tgt := 20) hx hb dX0_usesGrams_5 (by decide) (fun c_5 => ?_) (fun c_5 => ?_)
  · refine lv_iconst (v := 0) hx hb dX0_usesGrams_20 (by decide) ?_
    exact pr_retz hx hb hr rfl hlocks dX0_usesGrams_21 (by simp [sp_uses, c_5])
  · refine lv_aload_n hx hb dX0_usesGrams_8 rfl (lv_at hl 0 rfl) ?_
    refine pw_get (ci := 0) (C := RX0) (T := TX0) (N := 8) hx hb hts inX0 hown hK hP m0 e0 rfl 5 (by decide) (hts _ mw_168) (fun _ h9 => h9) rfl dX0_usesGrams_9 ?_
    refine lv_iconst (v := 5) hx hb dX0_usesGrams_12 (by decide) ?_
    refine lv_icmp_eq (tgt := 20) hx hb dX0_usesGrams_13 (by decide) (fun c_13 => ?_) (fun c_13 => ?_)
    · refine lv_iconst (v := 0) hx hb dX0_usesGrams_20 (by decide) ?_
      exact pr_retz hx hb hr rfl hlocks dX0_usesGrams_21 (by simp [sp_uses, c_5, c_13])
    · refine lv_iconst (v := 1) hx hb dX0_usesGrams_16 (by decide) ?_
      refine lv_goto (tgt := 21) hx hb dX0_usesGrams_17 (by decide) ?_
      exact pr_retz hx hb hr rfl hlocks dX0_usesGrams_21 (by simp [sp_uses, c_5, c_13])

set_option maxHeartbeats 4000000 in
set_option maxRecDepth 100000 in
theorem k_M_enter (l : Launch) (G : va_G) (cs : Nat → ClassId) (L : List Nat) (f : Nat → va_E) (sz : Nat) (q q1 : Nat) (no : Int32) (g : Int64) (dy : Int32) (cr : Nat → Int32) (cc : Nat) (st si mk : Int32) (n t : Int32) (hM : MV cs L f q q1 no g dy cr cc st si mk) : Met l yX0_enter (Cond.code yX0_enter cX0_enter 3 none :: wg) ({ frames := 0, cells := 0, slots := 0, locals := 0 }) (pc_P [.ref q, .int n, .int t] G vwCl (tyl cs) L f sz (fun _ => True)) (va_Qv (fun u => u = (L, va_up f q (.inr (0, [.int no, .long g, .int dy, .ref q1, .int (nI cc), .int n, .int t, .int mk])))) (pc_B G vwCl L sz) (pw_A L sz)) 0 0 (pw_A L sz) := by
  refine Met.ofW (cc := cX0_enter) (maxL := 3) (ret := none) (by decide) rfl ?_
  intro p e s m args below meth c s₁ B hml hv
  obtain ⟨rfl, hsz, hP, hK, hD0, hX⟩ := hv
  have hx := B.exec
  have hb := B.bytes
  have hr := B.returns
  have hts0 := atoms_spec (ws := (Cond.code yX0_enter cX0_enter 3 none :: wg)) B.pre
  have hts := fun (w : Cond) (h : w ∈ wg) => hts0 w (List.mem_cons_of_mem _ h)
  have hown : s.vm.findClass RX0 = some m.cls := findClass_of_methodNamed B.named
  have hlocks := B.notSynchronized
  subst hsz
  have hD := pw_selfD (sz := s.heap.size) hD0
  have hA : ∀ q : Nat, s.heap.size ≤ q → pw_A L s.heap.size q := fun q h => Or.inr h
  have hS : va_S (pw_A L s.heap.size) s.heap s.heap [] := va_S.rf
  have hl := lv_entry ([.ref q, .int n, .int t]) (n := 3) (Nat.le_of_ble_eq_true rfl)
  rw [lg_entry_eq]
  generalize (lg_sl ([.ref q, .int n, .int t]) ++ List.replicate (3 - (lg_sl ([.ref q, .int n, .int t])).length) Slot.unset).toArray = ls at hl ⊢
  have hl : lv_has ls 3 [(0, .ref q), (1, .int n), (2, .int t)] := hl
  obtain ⟨⟨m0, m1⟩, e0, e1⟩ := id hM
  refine lv_aload_n hx hb dX0_enter_0 rfl (lv_at hl 0 rfl) ?_
  refine lv_iload_n hx hb dX0_enter_1 rfl (lv_at hl 1 rfl) ?_
  refine pw_put (ty := .int) (ci := 0) (v := .int n) (C := RX0) (T := TX0) (N := 8) hx hb hts inX0 tyX0 tyX0_ok nmX0 hown hK hP hD hS m0 e0 rfl 5 (by decide) (hts _ mw_168) (fun _ h9 => h9) rfl (by decide +kernel) rfl rfl (Nat.le_of_ble_eq_true rfl) dX0_enter_2 (fun H locs hP hD hS => ?_)
  obtain ⟨f_1, ef_1⟩ : ∃ zz : Nat → va_E, zz = va_up f q (.inr (0, [.int no, .long g, .int dy, .ref q1, .int (nI cc), .int n, .int si, .int mk])) := ⟨_, rfl⟩
  have hP : va_P G vwCl (va_pl L f_1) H := by rw [ef_1]; exact hP
  have hD : va_D (pw_A L s.heap.size) (va_pl L f_1) := by rw [ef_1]; exact hD
  have hf_1_q : f_1 q = .inr (0, [.int no, .long g, .int dy, .ref q1, .int (nI cc), .int n, .int si, .int mk]) := by rw [ef_1]; exact va_up_self _ _ _
  have hf_1_q1 := (show f_1 q1 = f q1 by rw [ef_1]; exact va_up_ne _ _ (pe_ro e0 e1).symm).trans e1
  refine lv_aload_n hx hb dX0_enter_5 rfl (lv_at hl 0 rfl) ?_
  refine lv_iload_n hx hb dX0_enter_6 rfl (lv_at hl 2 rfl) ?_
  refine pw_put (ty := .int) (ci := 0) (v := .int t) (C := RX0) (T := TX0) (N := 8) hx hb hts inX0 tyX0 tyX0_ok nmX0 hown hK hP hD hS m0 hf_1_q rfl 6 (by decide) (hts _ mw_170) (fun _ h9 => h9) rfl (by decide +kernel) rfl rfl (Nat.le_of_ble_eq_true rfl) dX0_enter_7 (fun H locs hP hD hS => ?_)
  obtain ⟨f_2, ef_2⟩ : ∃ zz : Nat → va_E, zz = va_up f_1 q (.inr (0, [.int no, .long g, .int dy, .ref q1, .int (nI cc), .int n, .int t, .int mk])) := ⟨_, rfl⟩
  have hP : va_P G vwCl (va_pl L f_2) H := by rw [ef_2]; exact hP
  have hD : va_D (pw_A L s.heap.size) (va_pl L f_2) := by rw [ef_2]; exact hD
  have hf_2_q : f_2 q = .inr (0, [.int no, .long g, .int dy, .ref q1, .int (nI cc), .int n, .int t, .int mk]) := by rw [ef_2]; exact va_up_self _ _ _
  have hf_2_q1 := (show f_2 q1 = f_1 q1 by rw [ef_2]; exact va_up_ne _ _ (pe_ro e0 e1).symm).trans hf_1_q1
  exact pc_retv hx hb hr hlocks hP hD hS dX0_enter_10 (by rw [ef_2, ef_1, bx_uu])

set_option maxHeartbeats 4000000 in
set_option maxRecDepth 100000 in
theorem k_M_back (l : Launch) (G : va_G) (cs : Nat → ClassId) (L : List Nat) (f : Nat → va_E) (q q1 : Nat) (no : Int32) (g : Int64) (dy : Int32) (cr : Nat → Int32) (cc : Nat) (st si mk : Int32) (k : Int32) (hM : MV cs L f q q1 no g dy cr cc st si mk) (h6 : cc ≤ 6) : Met l yX0_carrierBack (Cond.code yX0_carrierBack cX0_carrierBack 2 (some FieldType.int) :: wg) ({ frames := 0, cells := 0, slots := 0, locals := 0 }) (pr_P [.ref q, .int k] G vwCl (tyl cs) L f (fun _ => True)) (vp_Si (fun r => r = sp_back cr cc k)) 0 0 (fun _ => False) := by
  refine Met.ofW (cc := cX0_carrierBack) (maxL := 2) (ret := (some FieldType.int)) (by decide) rfl ?_
  intro p e s m args below meth c s₁ B hml hv
  obtain ⟨rfl, hP, hK, hX⟩ := hv
  have hx := B.exec
  have hb := B.bytes
  have hr := B.returns
  have hts0 := atoms_spec (ws := (Cond.code yX0_carrierBack cX0_carrierBack 2 (some FieldType.int) :: wg)) B.pre
  have hts := fun (w : Cond) (h : w ∈ wg) => hts0 w (List.mem_cons_of_mem _ h)
  have hown : s.vm.findClass RX0 = some m.cls := findClass_of_methodNamed B.named
  have hlocks := B.notSynchronized
  have hl := lv_entry ([.ref q, .int k]) (n := 2) (Nat.le_of_ble_eq_true rfl)
  rw [lg_entry_eq]
  generalize (lg_sl ([.ref q, .int k]) ++ List.replicate (2 - (lg_sl ([.ref q, .int k])).length) Slot.unset).toArray = ls at hl ⊢
  have hl : lv_has ls 2 [(0, .ref q), (1, .int k)] := hl
  obtain ⟨⟨m0, m1⟩, e0, e1⟩ := id hM
  refine lv_iload_n hx hb dX0_carrierBack_0 rfl (lv_at hl 1 rfl) ?_
  refine lv_if_lt (tgt := 12) hx hb dX0_carrierBack_1 (by decide) (fun c_1 => ?_) (fun c_1 => ?_)
  · refine lv_iconst (v := (-1)) hx hb dX0_carrierBack_12 (by decide) ?_
    refine lv_goto (tgt := 29) hx hb dX0_carrierBack_13 (by decide) ?_
    exact pr_reti hx hb hr hlocks dX0_carrierBack_29 (by simp [sp_back, c_1])
  · refine lv_iload_n hx hb dX0_carrierBack_4 rfl (lv_at hl 1 rfl) ?_
    refine lv_aload_n hx hb dX0_carrierBack_5 rfl (lv_at hl 0 rfl) ?_
    refine pw_get (ci := 0) (C := RX0) (T := TX0) (N := 8) hx hb hts inX0 hown hK hP m0 e0 rfl 4 (by decide) (hts _ mw_167) (fun _ h9 => h9) rfl dX0_carrierBack_6 ?_
    refine lv_icmp_lt (tgt := 16) hx hb dX0_carrierBack_9 (by decide) (fun c_9 => ?_) (fun c_9 => ?_)
    · obtain ⟨j, hj, ej, ek, ei⟩ := bk_ix h6 c_1 c_9
      refine lv_aload_n hx hb dX0_carrierBack_16 rfl (lv_at hl 0 rfl) ?_
      refine pw_get (ci := 0) (C := RX0) (T := TX0) (N := 8) hx hb hts inX0 hown hK hP m0 e0 rfl 3 (by decide) (hts _ mw_166) (fun _ h9 => h9) rfl dX0_carrierBack_17 ?_
      refine lv_aload_n hx hb dX0_carrierBack_20 rfl (lv_at hl 0 rfl) ?_
      refine pw_get (ci := 0) (C := RX0) (T := TX0) (N := 8) hx hb hts inX0 hown hK hP m0 e0 rfl 4 (by decide) (hts _ mw_167) (fun _ h9 => h9) rfl dX0_carrierBack_21 ?_
      refine lv_iconst (v := 1) hx hb dX0_carrierBack_24 (by decide) ?_
      refine lv_isub hx hb dX0_carrierBack_25 ?_
      refine lv_iload_n hx hb dX0_carrierBack_26 rfl (lv_at hl 1 rfl) ?_
      refine lv_isub hx hb dX0_carrierBack_27 ?_
      rw [ei]
      refine pw_ialdN (k := cc - 1 - j) hx hb hK hP m1 0 e1 rfl (by omega) (by decide) dX0_carrierBack_28 ?_
      exact pr_reti hx hb hr hlocks dX0_carrierBack_29 (by simp [sp_back, c_1, c_9, ek])
    · refine lv_iconst (v := (-1)) hx hb dX0_carrierBack_12 (by decide) ?_
      refine lv_goto (tgt := 29) hx hb dX0_carrierBack_13 (by decide) ?_
      exact pr_reti hx hb hr hlocks dX0_carrierBack_29 (by simp [sp_back, c_1, c_9])

def sp_addc (f : Nat → va_E) (cs : Nat → ClassId) (q q1 : Nat) (no : Int32) (g : Int64) (dy : Int32) (cr : Nat → Int32) (cc : Nat) (st si mk x : Int32) : Int32 × (Nat → va_E) := if 6 ≤ cc then (-1, f) else if sp_back cr cc 0 = x then (-1, f) else (nI (cc + 1), va_up (va_up f q1 (.inl (cs 0, 6, .inl (upd cr cc x)))) q (.inr (0, [.int no, .long g, .int dy, .ref q1, .int (nI (cc + 1)), .int st, .int si, .int mk])))

set_option maxHeartbeats 4000000 in
set_option maxRecDepth 100000 in
theorem k_M_addc (l : Launch) (G : va_G) (cs : Nat → ClassId) (L : List Nat) (f : Nat → va_E) (sz : Nat) (q q1 : Nat) (no : Int32) (g : Int64) (dy : Int32) (cr : Nat → Int32) (cc : Nat) (st si mk : Int32) (x : Int32) (hM : MV cs L f q q1 no g dy cr cc st si mk) (h6 : cc ≤ 6) : Met l yX0_addCarrier (Cond.code yX0_addCarrier cX0_addCarrier 2 (some FieldType.int) :: wg) ({ frames := 1, cells := 0, slots := 0, locals := 21 }) (pc_P [.ref q, .int x] G vwCl (tyl cs) L f sz (fun _ => True)) (va_Qi (fun r u => (r, u) = ((sp_addc f cs q q1 no g dy cr cc st si mk x).1, (L, (sp_addc f cs q q1 no g dy cr cc st si mk x).2))) (pc_B G vwCl L sz) (pw_A L sz)) 0 0 (pw_A L sz) := by
  refine Met.ofW (cc := cX0_addCarrier) (maxL := 2) (ret := (some FieldType.int)) (by decide) rfl ?_
  intro p e s m args below meth c s₁ B hml hv
  obtain ⟨rfl, hsz, hP, hK, hD0, hX⟩ := hv
  have hx := B.exec
  have hb := B.bytes
  have hr := B.returns
  have hts0 := atoms_spec (ws := (Cond.code yX0_addCarrier cX0_addCarrier 2 (some FieldType.int) :: wg)) B.pre
  have hts := fun (w : Cond) (h : w ∈ wg) => hts0 w (List.mem_cons_of_mem _ h)
  have hown : s.vm.findClass RX0 = some m.cls := findClass_of_methodNamed B.named
  have hlocks := B.notSynchronized
  subst hsz
  have hD := pw_selfD (sz := s.heap.size) hD0
  have hA : ∀ q : Nat, s.heap.size ≤ q → pw_A L s.heap.size q := fun q h => Or.inr h
  have hS : va_S (pw_A L s.heap.size) s.heap s.heap [] := va_S.rf
  have hl := lv_entry ([.ref q, .int x]) (n := 2) (Nat.le_of_ble_eq_true rfl)
  rw [lg_entry_eq]
  generalize (lg_sl ([.ref q, .int x]) ++ List.replicate (2 - (lg_sl ([.ref q, .int x])).length) Slot.unset).toArray = ls at hl ⊢
  have hl : lv_has ls 2 [(0, .ref q), (1, .int x)] := hl
  obtain ⟨⟨m0, m1⟩, e0, e1⟩ := id hM
  refine lv_aload_n hx hb dX0_addCarrier_0 rfl (lv_at hl 0 rfl) ?_
  refine pw_get (ci := 0) (C := RX0) (T := TX0) (N := 8) hx hb hts inX0 hown hK hP m0 e0 rfl 4 (by decide) (hts _ mw_167) (fun _ h9 => h9) rfl dX0_addCarrier_1 ?_
  refine lv_bipush (v := 6) hx hb dX0_addCarrier_4 (by decide) ?_
  refine lv_icmp_ge (tgt := 18) hx hb dX0_addCarrier_6 (by decide) (fun c_6 => ?_) (fun c_6 => ?_)
  · have c_6 : 6 ≤ cc := nI_of_le (b := 6) c_6 (by decide)
    refine lv_iconst (v := (-1)) hx hb dX0_addCarrier_18 (by decide) ?_
    exact pc_reti hx hb hr hlocks hP hD hS dX0_addCarrier_19 (by simp [sp_addc, c_6])
  · have hc6 : cc < 6 := nI_of_ge (b := 6) c_6 (by omega)
    have c_6 : ¬ 6 ≤ cc := Nat.not_le.mpr hc6
    refine lv_aload_n hx hb dX0_addCarrier_9 rfl (lv_at hl 0 rfl) ?_
    refine lv_iconst (v := 0) hx hb dX0_addCarrier_10 (by decide) ?_
    refine pr_callVi (As := [.int 0]) (rest := []) ⟨hx, hb, hml, hown, hts⟩ (k_M_back l G cs L f q q1 no g dy cr cc st si mk 0 hM h6) (cwV 1 hts (wg_V mw_274 mw_275 mw_276 mw_5 mw_277) rfl rfl rfl (by decide +kernel) ⟨Nat.le_of_ble_eq_true rfl, Nat.le_of_ble_eq_true rfl⟩) hK hP m0 e0 rfl px_T (fun _ _ _ => trivial) rfl hl.1 rfl (lv_room (Nat.le_of_ble_eq_true rfl)) dX0_addCarrier_11 ⟨Nat.le_of_ble_eq_true rfl, Nat.le_of_ble_eq_true rfl⟩ (fun r_1 hr_1 => ?_)
    subst hr_1
    refine lv_iload_n hx hb dX0_addCarrier_14 rfl (lv_at hl 1 rfl) ?_
    refine lv_icmp_ne (tgt := 20) hx hb dX0_addCarrier_15 (by decide) (fun c_15 => ?_) (fun c_15 => ?_)
    · refine lv_aload_n hx hb dX0_addCarrier_20 rfl (lv_at hl 0 rfl) ?_
      refine pw_get (ci := 0) (C := RX0) (T := TX0) (N := 8) hx hb hts inX0 hown hK hP m0 e0 rfl 3 (by decide) (hts _ mw_166) (fun _ h9 => h9) rfl dX0_addCarrier_21 ?_
      refine lv_aload_n hx hb dX0_addCarrier_24 rfl (lv_at hl 0 rfl) ?_
      refine pw_get (ci := 0) (C := RX0) (T := TX0) (N := 8) hx hb hts inX0 hown hK hP m0 e0 rfl 4 (by decide) (hts _ mw_167) (fun _ h9 => h9) rfl dX0_addCarrier_25 ?_
      refine lv_iload_n hx hb dX0_addCarrier_28 rfl (lv_at hl 1 rfl) ?_
      refine pw_iastN (k := cc) hx hb hK hP hD hS m1 0 e1 rfl hc6 (by decide) dX0_addCarrier_29 (fun H locs hP hD hS => ?_)
      obtain ⟨f_2, ef_2⟩ : ∃ zz : Nat → va_E, zz = va_up f q1 (.inl (cs 0, 6, .inl (upd cr cc x))) := ⟨_, rfl⟩
      have hP : va_P G vwCl (va_pl L f_2) H := by rw [ef_2]; exact hP
      have hD : va_D (pw_A L s.heap.size) (va_pl L f_2) := by rw [ef_2]; exact hD
      have hf_2_q := (show f_2 q = f q by rw [ef_2]; exact va_up_ne _ _ (pe_ro e0 e1)).trans e0
      have hf_2_q1 : f_2 q1 = .inl (cs 0, 6, .inl (upd cr cc x)) := by rw [ef_2]; exact va_up_self _ _ _
      refine lv_aload_n hx hb dX0_addCarrier_30 rfl (lv_at hl 0 rfl) ?_
      refine lv_dup hx hb dX0_addCarrier_31 rfl ?_
      refine pw_get (ci := 0) (C := RX0) (T := TX0) (N := 8) hx hb hts inX0 hown hK hP m0 hf_2_q rfl 4 (by decide) (hts _ mw_167) (fun _ h9 => h9) rfl dX0_addCarrier_32 ?_
      refine lv_iconst (v := 1) hx hb dX0_addCarrier_35 (by decide) ?_
      refine lv_iadd hx hb dX0_addCarrier_36 ?_
      rw [nI_1]
      refine pw_put (ty := .int) (ci := 0) (v := .int (nI (cc + 1))) (C := RX0) (T := TX0) (N := 8) hx hb hts inX0 tyX0 tyX0_ok nmX0 hown hK hP hD hS m0 hf_2_q rfl 4 (by decide) (hts _ mw_167) (fun _ h9 => h9) rfl (by decide +kernel) rfl rfl (Nat.le_of_ble_eq_true rfl) dX0_addCarrier_37 (fun H locs hP hD hS => ?_)
      obtain ⟨f_3, ef_3⟩ : ∃ zz : Nat → va_E, zz = va_up f_2 q (.inr (0, [.int no, .long g, .int dy, .ref q1, .int (nI (cc + 1)), .int st, .int si, .int mk])) := ⟨_, rfl⟩
      have hP : va_P G vwCl (va_pl L f_3) H := by rw [ef_3]; exact hP
      have hD : va_D (pw_A L s.heap.size) (va_pl L f_3) := by rw [ef_3]; exact hD
      have hf_3_q : f_3 q = .inr (0, [.int no, .long g, .int dy, .ref q1, .int (nI (cc + 1)), .int st, .int si, .int mk]) := by rw [ef_3]; exact va_up_self _ _ _
      have hf_3_q1 := (show f_3 q1 = f_2 q1 by rw [ef_3]; exact va_up_ne _ _ (pe_ro e0 e1).symm).trans hf_2_q1
      refine lv_aload_n hx hb dX0_addCarrier_40 rfl (lv_at hl 0 rfl) ?_
      refine pw_get (ci := 0) (C := RX0) (T := TX0) (N := 8) hx hb hts inX0 hown hK hP m0 hf_3_q rfl 4 (by decide) (hts _ mw_167) (fun _ h9 => h9) rfl dX0_addCarrier_41 ?_
      exact pc_reti hx hb hr hlocks hP hD hS dX0_addCarrier_44 (by simp [sp_addc, c_6, c_15, ef_2, ef_3])
    · refine lv_iconst (v := (-1)) hx hb dX0_addCarrier_18 (by decide) ?_
      exact pc_reti hx hb hr hlocks hP hD hS dX0_addCarrier_19 (by simp [sp_addc, c_6, c_15])

theorem sp_let_nar (j : Nat) : narrow .char (.int (sp_lets j)) = .int (sp_lets j) := by
  match j with
  | 0 => rfl
  | 1 => rfl
  | 2 => rfl
  | 3 => rfl
  | 4 => rfl
  | 5 => rfl
  | k + 6 => simp [sp_lets]; rfl

set_option maxHeartbeats 4000000 in
set_option maxRecDepth 100000 in
theorem k_M_letter (l : Launch) (G : va_G) (cs : Nat → ClassId) (L : List Nat) (f : Nat → va_E) (q q1 : Nat) (no : Int32) (g : Int64) (dy : Int32) (cr : Nat → Int32) (cc : Nat) (st si mk : Int32) (tL tC : Nat) (hM : MV cs L f q q1 no g dy cr cc st si mk) : Met l yX0_letter (Cond.code yX0_letter cX0_letter 1 (some FieldType.char) :: wg) ({ frames := 0, cells := 0, slots := 0, locals := 0 }) (pr_P [.ref q] G vwCl (tyl cs) L f (fun U => SX tL tC (fun _ => False) U U.heap)) (vp_Si (fun r => r = sp_letter st)) 0 0 (fun _ => False) := by
  refine Met.ofW (cc := cX0_letter) (maxL := 1) (ret := (some FieldType.char)) (by decide) rfl ?_
  intro p e s m args below meth c s₁ B hml hv
  obtain ⟨rfl, hP, hK, hX⟩ := hv
  have hx := B.exec
  have hb := B.bytes
  have hr := B.returns
  have hts0 := atoms_spec (ws := (Cond.code yX0_letter cX0_letter 1 (some FieldType.char) :: wg)) B.pre
  have hts := fun (w : Cond) (h : w ∈ wg) => hts0 w (List.mem_cons_of_mem _ h)
  have hown : s.vm.findClass RX0 = some m.cls := findClass_of_methodNamed B.named
  have hlocks := B.notSynchronized
  have hl := lv_entry ([.ref q]) (n := 1) (Nat.le_of_ble_eq_true rfl)
  rw [lg_entry_eq]
  generalize (lg_sl ([.ref q]) ++ List.replicate (1 - (lg_sl ([.ref q])).length) Slot.unset).toArray = ls at hl ⊢
  have hl : lv_has ls 1 [(0, .ref q)] := hl
  obtain ⟨⟨m0, m1⟩, e0, e1⟩ := id hM
  refine lv_aload_n hx hb dX0_letter_0 rfl (lv_at hl 0 rfl) ?_
  refine pw_get (ci := 0) (C := RX0) (T := TX0) (N := 8) hx hb hts inX0 hown hK hP m0 e0 rfl 5 (by decide) (hts _ mw_168) (fun _ h9 => h9) rfl dX0_letter_1 ?_
  refine lv_if_lt (tgt := 16) hx hb dX0_letter_4 (by decide) (fun c_4 => ?_) (fun c_4 => ?_)
  · refine lv_bipush (v := 63) hx hb dX0_letter_16 (by decide) ?_
    refine lv_goto (tgt := 29) hx hb dX0_letter_18 (by decide) ?_
    exact pr_retz hx hb hr rfl hlocks dX0_letter_29 (by simp [sp_letter, c_4])
  · refine lv_aload_n hx hb dX0_letter_7 rfl (lv_at hl 0 rfl) ?_
    refine pw_get (ci := 0) (C := RX0) (T := TX0) (N := 8) hx hb hts inX0 hown hK hP m0 e0 rfl 5 (by decide) (hts _ mw_168) (fun _ h9 => h9) rfl dX0_letter_8 ?_
    refine lv_bipush (v := 6) hx hb dX0_letter_11 (by decide) ?_
    refine lv_icmp_lt (tgt := 21) hx hb dX0_letter_13 (by decide) (fun c_13 => ?_) (fun c_13 => ?_)
    · refine va_getsN (A := fun _ => False) hx hb hX.2.2.1 va_S.rf hown (va_Nw.use rfl hX.2.2.2.2) (fun _ h => h) dX0_letter_21 ?_
      refine lv_aload_n hx hb dX0_letter_24 rfl (lv_at hl 0 rfl) ?_
      refine pw_get (ci := 0) (C := RX0) (T := TX0) (N := 8) hx hb hts inX0 hown hK hP m0 e0 rfl 5 (by decide) (hts _ mw_168) (fun _ h9 => h9) rfl dX0_letter_25 ?_
      refine va_tc (A := fun _ => False) hx hb hX.2.2.2.1 va_S.rf (vi_in (n := 6) (by decide) c_4 (Int32.not_le.mpr c_13)) rfl dX0_letter_28 ?_
      exact pr_retz hx hb hr (sp_let_nar _) hlocks dX0_letter_29 (by simp [sp_letter, c_4, c_13])
    · refine lv_bipush (v := 63) hx hb dX0_letter_16 (by decide) ?_
      refine lv_goto (tgt := 29) hx hb dX0_letter_18 (by decide) ?_
      exact pr_retz hx hb hr rfl hlocks dX0_letter_29 (by simp [sp_letter, c_4, c_13])

set_option maxHeartbeats 4000000 in
set_option maxRecDepth 100000 in
theorem k_M_init (l : Launch) (G : va_G) (cs : Nat → ClassId) (L : List Nat) (f : Nat → va_E) (sz : Nat) (q : Nat) (no : Int32) (g : Int64) (dy si : Int32) (hq0 : q ∈ L) (he0 : f q = .inr (0, [.int 0, .long 0, .int 0, .null, .int 0, .int 0, .int 0, .int 0])) : Met l yX0_init (Cond.code yX0_init cX0_init 6 none :: wg) ({ frames := 1, cells := 1, slots := 6, locals := 12 }) (pc_P [.ref q, .int no, .long g, .int dy, .int si] G vwCl (tyl cs) L f sz (fun _ => True)) (va_Qv (fun u => ∃ q1, q1 ∉ L ∧ (∀ a ∈ L, a ∈ u.1) ∧ (∀ a, a ∈ L → a ≠ q → u.2 a = f a) ∧ MV cs u.1 u.2 q q1 no g dy (fun _ => 0) 0 0 si 0) (pc_B G vwCl L sz) (pw_A L sz)) 1 6 (pw_A L sz) := by
  refine Met.ofW (cc := cX0_init) (maxL := 6) (ret := none) (by decide) rfl ?_
  intro p e s m args below meth c s₁ B hml hv
  obtain ⟨rfl, hsz, hP, hK, hD0, hX⟩ := hv
  have hx := B.exec
  have hb := B.bytes
  have hr := B.returns
  have hts0 := atoms_spec (ws := (Cond.code yX0_init cX0_init 6 none :: wg)) B.pre
  have hts := fun (w : Cond) (h : w ∈ wg) => hts0 w (List.mem_cons_of_mem _ h)
  have hown : s.vm.findClass RX0 = some m.cls := findClass_of_methodNamed B.named
  have hlocks := B.notSynchronized
  have hin : meth.name = "<init>" := (name_of_methodNamed B.named B.method).1
  subst hsz
  have hD := pw_selfD (sz := s.heap.size) hD0
  have hA : ∀ q : Nat, s.heap.size ≤ q → pw_A L s.heap.size q := fun q h => Or.inr h
  have hS : va_S (pw_A L s.heap.size) s.heap s.heap [] := va_S.rf
  have hl := lv_entry ([.ref q, .int no, .long g, .int dy, .int si]) (n := 6) (Nat.le_of_ble_eq_true rfl)
  rw [lg_entry_eq]
  generalize (lg_sl ([.ref q, .int no, .long g, .int dy, .int si]) ++ List.replicate (6 - (lg_sl ([.ref q, .int no, .long g, .int dy, .int si])).length) Slot.unset).toArray = ls at hl ⊢
  have hl : lv_has ls 6 [(0, .ref q), (1, .int no), (2, .long g), (4, .int dy), (5, .int si)] := hl
  refine lv_aload_n hx hb dX0_init_0 rfl (lv_at hl 0 rfl) ?_
  refine W.objInit hx hb hown (hts _ mw_159) (hts _ mw_12) (hts _ mw_obj) rfl (by rw [hml]; exact hl.1) rfl dX0_init_1 (Nat.le_of_ble_eq_true rfl) (Nat.le_of_ble_eq_true rfl) ?_
  refine W.eq (g2 := F0 m 4 ls []) rfl ?_
  refine lv_aload_n hx hb dX0_init_4 rfl (lv_at hl 0 rfl) ?_
  refine lv_bipush (v := 6) hx hb dX0_init_5 (by decide) ?_
  refine pw_newa (atype := .int) (ty := .int) (a0 := (6, .inl (fun _ => 0))) hx hb (hts _ mw_106) rfl hK hP hD hS hA 0 rfl (fun _ h => h) (fun _ => rfl) (by decide) (by decide) (by decide) (Nat.le_of_ble_eq_true rfl) (Nat.le_of_ble_eq_true rfl) dX0_init_7 (fun q_2 H hq_2 hP hD hS => ?_)
  refine W.widen (k := 1) (n := 6) (Nat.le_refl _) (Nat.le_of_ble_eq_true rfl) ?_
  obtain ⟨f_1, ef_1⟩ : ∃ zz : Nat → va_E, zz = va_up f q_2 (.inl (cs 0, 6, .inl (fun _ => 0))) := ⟨_, rfl⟩
  have hP : va_P G vwCl (va_pl (L ++ [q_2]) f_1) H := by rw [ef_1]; exact hP
  have hD : va_D (pw_A L s.heap.size) (va_pl (L ++ [q_2]) f_1) := by rw [ef_1]; exact hD
  have mf_1_q : q ∈ (L ++ [q_2]) := List.mem_append_left _ hq0
  have hf_1_q := (show f_1 q = f q by rw [ef_1]; exact va_up_ne _ _ (fun h => hq_2 (h ▸ hq0))).trans he0
  have mf_1_q_2 : q_2 ∈ (L ++ [q_2]) := List.mem_append_right _ (List.mem_singleton.mpr rfl)
  have hf_1_q_2 : f_1 q_2 = .inl (cs 0, 6, .inl (fun _ => 0)) := by rw [ef_1]; exact va_up_self _ _ _
  refine pw_putF (ty := .array .int) (ci := 0) (v := .ref q_2) (C := RX0) (T := TX0) (N := 8) hx hb hts inX0 tyX0 tyX0_ok nmX0 hown hK hP hD hS mf_1_q hf_1_q rfl 3 (by decide) (hts _ mw_166) (fun _ h9 => h9) rfl hin rfl (by decide +kernel) rfl rfl (Nat.le_of_ble_eq_true rfl) dX0_init_9 (fun H locs hP hD hS => ?_)
  obtain ⟨f_3, ef_3⟩ : ∃ zz : Nat → va_E, zz = va_up f_1 q (.inr (0, [.int 0, .long 0, .int 0, .ref q_2, .int 0, .int 0, .int 0, .int 0])) := ⟨_, rfl⟩
  have hP : va_P G vwCl (va_pl (L ++ [q_2]) f_3) H := by rw [ef_3]; exact hP
  have hD : va_D (pw_A L s.heap.size) (va_pl (L ++ [q_2]) f_3) := by rw [ef_3]; exact hD
  have hf_3_q : f_3 q = .inr (0, [.int 0, .long 0, .int 0, .ref q_2, .int 0, .int 0, .int 0, .int 0]) := by rw [ef_3]; exact va_up_self _ _ _
  have hf_3_q_2 := (show f_3 q_2 = f_1 q_2 by rw [ef_3]; exact va_up_ne _ _ (pe_ro hf_1_q hf_1_q_2).symm).trans hf_1_q_2
  refine lv_aload_n hx hb dX0_init_12 rfl (lv_at hl 0 rfl) ?_
  refine lv_iload_n hx hb dX0_init_13 rfl (lv_at hl 1 rfl) ?_
  refine pw_putF (ty := .int) (ci := 0) (v := .int no) (C := RX0) (T := TX0) (N := 8) hx hb hts inX0 tyX0 tyX0_ok nmX0 hown hK hP hD hS mf_1_q hf_3_q rfl 0 (by decide) (hts _ mw_160) (fun _ h9 => h9) rfl hin rfl (by decide +kernel) rfl rfl (Nat.le_of_ble_eq_true rfl) dX0_init_14 (fun H locs hP hD hS => ?_)
  obtain ⟨f_4, ef_4⟩ : ∃ zz : Nat → va_E, zz = va_up f_3 q (.inr (0, [.int no, .long 0, .int 0, .ref q_2, .int 0, .int 0, .int 0, .int 0])) := ⟨_, rfl⟩
  have hP : va_P G vwCl (va_pl (L ++ [q_2]) f_4) H := by rw [ef_4]; exact hP
  have hD : va_D (pw_A L s.heap.size) (va_pl (L ++ [q_2]) f_4) := by rw [ef_4]; exact hD
  have hf_4_q : f_4 q = .inr (0, [.int no, .long 0, .int 0, .ref q_2, .int 0, .int 0, .int 0, .int 0]) := by rw [ef_4]; exact va_up_self _ _ _
  have hf_4_q_2 := (show f_4 q_2 = f_3 q_2 by rw [ef_4]; exact va_up_ne _ _ (pe_ro hf_3_q hf_3_q_2).symm).trans hf_3_q_2
  refine lv_aload_n hx hb dX0_init_17 rfl (lv_at hl 0 rfl) ?_
  refine lv_lload_n hx hb dX0_init_18 rfl (lv_at hl 2 rfl) ?_
  refine pw_putF (ty := .long) (ci := 0) (v := .long g) (C := RX0) (T := TX0) (N := 8) hx hb hts inX0 tyX0 tyX0_ok nmX0 hown hK hP hD hS mf_1_q hf_4_q rfl 1 (by decide) (hts _ mw_162) (fun _ h9 => h9) rfl hin rfl (by decide +kernel) rfl rfl (Nat.le_of_ble_eq_true rfl) dX0_init_19 (fun H locs hP hD hS => ?_)
  obtain ⟨f_5, ef_5⟩ : ∃ zz : Nat → va_E, zz = va_up f_4 q (.inr (0, [.int no, .long g, .int 0, .ref q_2, .int 0, .int 0, .int 0, .int 0])) := ⟨_, rfl⟩
  have hP : va_P G vwCl (va_pl (L ++ [q_2]) f_5) H := by rw [ef_5]; exact hP
  have hD : va_D (pw_A L s.heap.size) (va_pl (L ++ [q_2]) f_5) := by rw [ef_5]; exact hD
  have hf_5_q : f_5 q = .inr (0, [.int no, .long g, .int 0, .ref q_2, .int 0, .int 0, .int 0, .int 0]) := by rw [ef_5]; exact va_up_self _ _ _
  have hf_5_q_2 := (show f_5 q_2 = f_4 q_2 by rw [ef_5]; exact va_up_ne _ _ (pe_ro hf_4_q hf_4_q_2).symm).trans hf_4_q_2
  refine lv_aload_n hx hb dX0_init_22 rfl (lv_at hl 0 rfl) ?_
  refine lv_iload hx hb dX0_init_23 (lv_at hl 3 rfl) ?_
  refine pw_putF (ty := .int) (ci := 0) (v := .int dy) (C := RX0) (T := TX0) (N := 8) hx hb hts inX0 tyX0 tyX0_ok nmX0 hown hK hP hD hS mf_1_q hf_5_q rfl 2 (by decide) (hts _ mw_164) (fun _ h9 => h9) rfl hin rfl (by decide +kernel) rfl rfl (Nat.le_of_ble_eq_true rfl) dX0_init_25 (fun H locs hP hD hS => ?_)
  obtain ⟨f_6, ef_6⟩ : ∃ zz : Nat → va_E, zz = va_up f_5 q (.inr (0, [.int no, .long g, .int dy, .ref q_2, .int 0, .int 0, .int 0, .int 0])) := ⟨_, rfl⟩
  have hP : va_P G vwCl (va_pl (L ++ [q_2]) f_6) H := by rw [ef_6]; exact hP
  have hD : va_D (pw_A L s.heap.size) (va_pl (L ++ [q_2]) f_6) := by rw [ef_6]; exact hD
  have hf_6_q : f_6 q = .inr (0, [.int no, .long g, .int dy, .ref q_2, .int 0, .int 0, .int 0, .int 0]) := by rw [ef_6]; exact va_up_self _ _ _
  have hf_6_q_2 := (show f_6 q_2 = f_5 q_2 by rw [ef_6]; exact va_up_ne _ _ (pe_ro hf_5_q hf_5_q_2).symm).trans hf_5_q_2
  refine lv_aload_n hx hb dX0_init_28 rfl (lv_at hl 0 rfl) ?_
  refine lv_iconst (v := 0) hx hb dX0_init_29 (by decide) ?_
  refine pw_put (ty := .int) (ci := 0) (v := .int 0) (C := RX0) (T := TX0) (N := 8) hx hb hts inX0 tyX0 tyX0_ok nmX0 hown hK hP hD hS mf_1_q hf_6_q rfl 5 (by decide) (hts _ mw_168) (fun _ h9 => h9) rfl (by decide +kernel) rfl rfl (Nat.le_of_ble_eq_true rfl) dX0_init_30 (fun H locs hP hD hS => ?_)
  obtain ⟨f_7, ef_7⟩ : ∃ zz : Nat → va_E, zz = va_up f_6 q (.inr (0, [.int no, .long g, .int dy, .ref q_2, .int 0, .int 0, .int 0, .int 0])) := ⟨_, rfl⟩
  have hP : va_P G vwCl (va_pl (L ++ [q_2]) f_7) H := by rw [ef_7]; exact hP
  have hD : va_D (pw_A L s.heap.size) (va_pl (L ++ [q_2]) f_7) := by rw [ef_7]; exact hD
  have hf_7_q : f_7 q = .inr (0, [.int no, .long g, .int dy, .ref q_2, .int 0, .int 0, .int 0, .int 0]) := by rw [ef_7]; exact va_up_self _ _ _
  have hf_7_q_2 := (show f_7 q_2 = f_6 q_2 by rw [ef_7]; exact va_up_ne _ _ (pe_ro hf_6_q hf_6_q_2).symm).trans hf_6_q_2
  refine lv_aload_n hx hb dX0_init_33 rfl (lv_at hl 0 rfl) ?_
  refine lv_iload hx hb dX0_init_34 (lv_at hl 4 rfl) ?_
  refine pw_put (ty := .int) (ci := 0) (v := .int si) (C := RX0) (T := TX0) (N := 8) hx hb hts inX0 tyX0 tyX0_ok nmX0 hown hK hP hD hS mf_1_q hf_7_q rfl 6 (by decide) (hts _ mw_170) (fun _ h9 => h9) rfl (by decide +kernel) rfl rfl (Nat.le_of_ble_eq_true rfl) dX0_init_36 (fun H locs hP hD hS => ?_)
  obtain ⟨f_8, ef_8⟩ : ∃ zz : Nat → va_E, zz = va_up f_7 q (.inr (0, [.int no, .long g, .int dy, .ref q_2, .int 0, .int 0, .int si, .int 0])) := ⟨_, rfl⟩
  have hP : va_P G vwCl (va_pl (L ++ [q_2]) f_8) H := by rw [ef_8]; exact hP
  have hD : va_D (pw_A L s.heap.size) (va_pl (L ++ [q_2]) f_8) := by rw [ef_8]; exact hD
  have hf_8_q : f_8 q = .inr (0, [.int no, .long g, .int dy, .ref q_2, .int 0, .int 0, .int si, .int 0]) := by rw [ef_8]; exact va_up_self _ _ _
  have hf_8_q_2 := (show f_8 q_2 = f_7 q_2 by rw [ef_8]; exact va_up_ne _ _ (pe_ro hf_7_q hf_7_q_2).symm).trans hf_7_q_2
  have hfr : ∀ a, a ∈ L → a ≠ q → f_8 a = f a := by
    intro a ha haq
    rw [ef_8, va_up_ne _ _ haq, ef_7, va_up_ne _ _ haq, ef_6, va_up_ne _ _ haq, ef_5, va_up_ne _ _ haq, ef_4, va_up_ne _ _ haq, ef_3, va_up_ne _ _ haq, ef_1, va_up_ne _ _ (show a ≠ q_2 from fun h => hq_2 (h ▸ ha))]
  have hM : MV cs (L ++ [q_2]) f_8 q q_2 no g dy (fun _ => 0) 0 0 si 0 := ⟨⟨mf_1_q, mf_1_q_2⟩, hf_8_q, hf_8_q_2⟩
  exact pc_retv hx hb hr hlocks hP hD hS dX0_init_39 ⟨q_2, fun h => hq_2 h, fun a ha => List.mem_append_left _ ha, hfr, hM⟩
end
section
/-! The class Paper: contracts. Laid by wip/gen/paper.py. -/
set_option maxHeartbeats 4000000 in
set_option maxRecDepth 100000 in
theorem k_P_clear (l : Launch) (G : va_G) (cs : Nat → ClassId) (L : List Nat) (f : Nat → va_E) (sz : Nat) (q q1 : Nat) (n : Nat) (g : Nat → Int32) (hQ : PP cs L f q q1 n g) : Met l yX2_clear (Cond.code yX2_clear cX2_clear 1 none :: wg) ({ frames := 0, cells := 0, slots := 0, locals := 0 }) (pc_P [.ref q] G vwCl (tyl cs) L f sz (fun _ => True)) (va_Qv (fun u => u = (L, va_up f q (.inr (2, [.ref q1, .int (nI 0)])))) (pc_B G vwCl L sz) (pw_A L sz)) 0 0 (pw_A L sz) := by
  refine Met.ofW (cc := cX2_clear) (maxL := 1) (ret := none) (by decide) rfl ?_
  intro p e s m args below meth c s₁ B hml hv
  obtain ⟨rfl, hsz, hP, hK, hD0, hX⟩ := hv
  have hx := B.exec
  have hb := B.bytes
  have hr := B.returns
  have hts0 := atoms_spec (ws := (Cond.code yX2_clear cX2_clear 1 none :: wg)) B.pre
  have hts := fun (w : Cond) (h : w ∈ wg) => hts0 w (List.mem_cons_of_mem _ h)
  have hown : s.vm.findClass RX2 = some m.cls := findClass_of_methodNamed B.named
  have hlocks := B.notSynchronized
  subst hsz
  have hD := pw_selfD (sz := s.heap.size) hD0
  have hA : ∀ q : Nat, s.heap.size ≤ q → pw_A L s.heap.size q := fun q h => Or.inr h
  have hS : va_S (pw_A L s.heap.size) s.heap s.heap [] := va_S.rf
  have hl := lv_entry ([.ref q]) (n := 1) (Nat.le_of_ble_eq_true rfl)
  rw [lg_entry_eq]
  generalize (lg_sl ([.ref q]) ++ List.replicate (1 - (lg_sl ([.ref q])).length) Slot.unset).toArray = ls at hl ⊢
  have hl : lv_has ls 1 [(0, .ref q)] := hl
  obtain ⟨⟨m0, m1⟩, e0, e1⟩ := id hQ
  refine lv_aload_n hx hb dX2_clear_0 rfl (lv_at hl 0 rfl) ?_
  refine lv_iconst (v := 0) hx hb dX2_clear_1 (by decide) ?_
  refine pw_put (ty := .int) (ci := 2) (v := .int 0) (C := RX2) (T := TX2) (N := 2) hx hb hts inX2 tyX2 tyX2_ok nmX2 hown hK hP hD hS m0 e0 rfl 1 (by decide) (hts _ mw_25) (fun _ h9 => h9) rfl (by decide +kernel) rfl rfl (Nat.le_of_ble_eq_true rfl) dX2_clear_2 (fun H locs hP hD hS => ?_)
  obtain ⟨f_1, ef_1⟩ : ∃ zz : Nat → va_E, zz = va_up f q (.inr (2, [.ref q1, .int 0])) := ⟨_, rfl⟩
  have hP : va_P G vwCl (va_pl L f_1) H := by rw [ef_1]; exact hP
  have hD : va_D (pw_A L s.heap.size) (va_pl L f_1) := by rw [ef_1]; exact hD
  have hf_1_q : f_1 q = .inr (2, [.ref q1, .int 0]) := by rw [ef_1]; exact va_up_self _ _ _
  have hf_1_q1 := (show f_1 q1 = f q1 by rw [ef_1]; exact va_up_ne _ _ (pe_ro e0 e1).symm).trans e1
  exact pc_retv hx hb hr hlocks hP hD hS dX2_clear_5 (by rw [ef_1]; rfl)

def sp_byte (n : Nat) (g : Nat → Int32) (i : Int32) : Int32 := if i < 0 then -1 else if i < nI n then g i.toNatClampNeg else -1

set_option maxHeartbeats 4000000 in
set_option maxRecDepth 100000 in
theorem k_P_byte (l : Launch) (G : va_G) (cs : Nat → ClassId) (L : List Nat) (f : Nat → va_E) (q q1 : Nat) (n : Nat) (g : Nat → Int32) (i : Int32) (hQ : PP cs L f q q1 n g) (h8 : n ≤ 208) : Met l yX2_byteAt (Cond.code yX2_byteAt cX2_byteAt 2 (some FieldType.int) :: wg) ({ frames := 0, cells := 0, slots := 0, locals := 0 }) (pr_P [.ref q, .int i] G vwCl (tyl cs) L f (fun _ => True)) (vp_Si (fun r => r = sp_byte n g i)) 0 0 (fun _ => False) := by
  refine Met.ofW (cc := cX2_byteAt) (maxL := 2) (ret := (some FieldType.int)) (by decide) rfl ?_
  intro p e s m args below meth c s₁ B hml hv
  obtain ⟨rfl, hP, hK, hX⟩ := hv
  have hx := B.exec
  have hb := B.bytes
  have hr := B.returns
  have hts0 := atoms_spec (ws := (Cond.code yX2_byteAt cX2_byteAt 2 (some FieldType.int) :: wg)) B.pre
  have hts := fun (w : Cond) (h : w ∈ wg) => hts0 w (List.mem_cons_of_mem _ h)
  have hown : s.vm.findClass RX2 = some m.cls := findClass_of_methodNamed B.named
  have hlocks := B.notSynchronized
  have hl := lv_entry ([.ref q, .int i]) (n := 2) (Nat.le_of_ble_eq_true rfl)
  rw [lg_entry_eq]
  generalize (lg_sl ([.ref q, .int i]) ++ List.replicate (2 - (lg_sl ([.ref q, .int i])).length) Slot.unset).toArray = ls at hl ⊢
  have hl : lv_has ls 2 [(0, .ref q), (1, .int i)] := hl
  obtain ⟨⟨m0, m1⟩, e0, e1⟩ := id hQ
  refine lv_iload_n hx hb dX2_byteAt_0 rfl (lv_at hl 1 rfl) ?_
  refine lv_if_lt (tgt := 12) hx hb dX2_byteAt_1 (by decide) (fun c_1 => ?_) (fun c_1 => ?_)
  · refine lv_iconst (v := (-1)) hx hb dX2_byteAt_12 (by decide) ?_
    refine lv_goto (tgt := 22) hx hb dX2_byteAt_13 (by decide) ?_
    exact pr_reti hx hb hr hlocks dX2_byteAt_22 (by simp [sp_byte, c_1])
  · refine lv_iload_n hx hb dX2_byteAt_4 rfl (lv_at hl 1 rfl) ?_
    refine lv_aload_n hx hb dX2_byteAt_5 rfl (lv_at hl 0 rfl) ?_
    refine pw_get (ci := 2) (C := RX2) (T := TX2) (N := 2) hx hb hts inX2 hown hK hP m0 e0 rfl 1 (by decide) (hts _ mw_25) (fun _ h9 => h9) rfl dX2_byteAt_6 ?_
    refine lv_icmp_lt (tgt := 16) hx hb dX2_byteAt_9 (by decide) (fun c_9 => ?_) (fun c_9 => ?_)
    · refine lv_aload_n hx hb dX2_byteAt_16 rfl (lv_at hl 0 rfl) ?_
      refine pw_get (ci := 2) (C := RX2) (T := TX2) (N := 2) hx hb hts inX2 hown hK hP m0 e0 rfl 0 (by decide) (hts _ mw_24) (fun _ h9 => h9) rfl dX2_byteAt_17 ?_
      refine lv_iload_n hx hb dX2_byteAt_20 rfl (lv_at hl 1 rfl) ?_
      refine pw_bald hx hb hK hP m1 1 e1 rfl (vi_in (n := 208) (by decide) c_1 (fun h => Int32.lt_irrefl (Int32.lt_of_lt_of_le c_9 (Int32.le_trans (nI_le h8 (by decide)) h)))) dX2_byteAt_21 ?_
      exact pr_reti hx hb hr hlocks dX2_byteAt_22 (by simp [sp_byte, c_1, c_9])
    · refine lv_iconst (v := (-1)) hx hb dX2_byteAt_12 (by decide) ?_
      refine lv_goto (tgt := 22) hx hb dX2_byteAt_13 (by decide) ?_
      exact pr_reti hx hb hr hlocks dX2_byteAt_22 (by simp [sp_byte, c_1, c_9])

set_option maxHeartbeats 4000000 in
set_option maxRecDepth 100000 in
theorem k_P_add (l : Launch) (G : va_G) (cs : Nat → ClassId) (L : List Nat) (f : Nat → va_E) (sz : Nat) (q q1 : Nat) (n : Nat) (g : Nat → Int32) (x : Int32) (hQ : PP cs L f q q1 n g) (h8 : n ≤ 208) : Met l yX2_add (Cond.code yX2_add cX2_add 2 none :: wg) ({ frames := 0, cells := 0, slots := 0, locals := 0 }) (pc_P [.ref q, .int x] G vwCl (tyl cs) L f sz (fun _ => True)) (va_Qv (fun u => u = (L, pp_f cs f q q1 (sp_add (n, g) x))) (pc_B G vwCl L sz) (pw_A L sz)) 0 0 (pw_A L sz) := by
  refine Met.ofW (cc := cX2_add) (maxL := 2) (ret := none) (by decide) rfl ?_
  intro p e s m args below meth c s₁ B hml hv
  obtain ⟨rfl, hsz, hP, hK, hD0, hX⟩ := hv
  have hx := B.exec
  have hb := B.bytes
  have hr := B.returns
  have hts0 := atoms_spec (ws := (Cond.code yX2_add cX2_add 2 none :: wg)) B.pre
  have hts := fun (w : Cond) (h : w ∈ wg) => hts0 w (List.mem_cons_of_mem _ h)
  have hown : s.vm.findClass RX2 = some m.cls := findClass_of_methodNamed B.named
  have hlocks := B.notSynchronized
  subst hsz
  have hD := pw_selfD (sz := s.heap.size) hD0
  have hA : ∀ q : Nat, s.heap.size ≤ q → pw_A L s.heap.size q := fun q h => Or.inr h
  have hS : va_S (pw_A L s.heap.size) s.heap s.heap [] := va_S.rf
  have hl := lv_entry ([.ref q, .int x]) (n := 2) (Nat.le_of_ble_eq_true rfl)
  rw [lg_entry_eq]
  generalize (lg_sl ([.ref q, .int x]) ++ List.replicate (2 - (lg_sl ([.ref q, .int x])).length) Slot.unset).toArray = ls at hl ⊢
  have hl : lv_has ls 2 [(0, .ref q), (1, .int x)] := hl
  obtain ⟨⟨m0, m1⟩, e0, e1⟩ := id hQ
  refine lv_aload_n hx hb dX2_add_0 rfl (lv_at hl 0 rfl) ?_
  refine pw_get (ci := 2) (C := RX2) (T := TX2) (N := 2) hx hb hts inX2 hown hK hP m0 e0 rfl 1 (by decide) (hts _ mw_25) (fun _ h9 => h9) rfl dX2_add_1 ?_
  refine lv_sipush (v := 208) hx hb dX2_add_4 (by decide) ?_
  refine lv_icmp_ge (tgt := 31) hx hb dX2_add_7 (by decide) (fun c_7 => ?_) (fun c_7 => ?_)
  · have c_7 : 208 ≤ n := nI_of_le (b := 208) c_7 (by decide)
    exact pc_retv hx hb hr hlocks hP hD hS dX2_add_31 (by rw [show sp_add (n, g) x = (n, g) from if_neg (Nat.not_lt.mpr c_7), pp_self hQ])
  · have hn8 : n < 208 := nI_of_ge (b := 208) c_7 (by omega)
    refine lv_aload_n hx hb dX2_add_10 rfl (lv_at hl 0 rfl) ?_
    refine pw_get (ci := 2) (C := RX2) (T := TX2) (N := 2) hx hb hts inX2 hown hK hP m0 e0 rfl 0 (by decide) (hts _ mw_24) (fun _ h9 => h9) rfl dX2_add_11 ?_
    refine lv_aload_n hx hb dX2_add_14 rfl (lv_at hl 0 rfl) ?_
    refine pw_get (ci := 2) (C := RX2) (T := TX2) (N := 2) hx hb hts inX2 hown hK hP m0 e0 rfl 1 (by decide) (hts _ mw_25) (fun _ h9 => h9) rfl dX2_add_15 ?_
    refine lv_iload_n hx hb dX2_add_18 rfl (lv_at hl 1 rfl) ?_
    refine lv_i2b hx hb dX2_add_19 rfl ?_
    refine pw_bastN (k := n) hx hb hK hP hD hS m1 1 e1 rfl hn8 (by decide) dX2_add_20 (fun H locs hP hD hS => ?_)
    obtain ⟨f_1, ef_1⟩ : ∃ zz : Nat → va_E, zz = va_up f q1 (.inl (cs 1, 208, .inl (upd g n (vp_nar .byte x.toInt8.toInt32)))) := ⟨_, rfl⟩
    have hP : va_P G vwCl (va_pl L f_1) H := by rw [ef_1]; exact hP
    have hD : va_D (pw_A L s.heap.size) (va_pl L f_1) := by rw [ef_1]; exact hD
    have hf_1_q := (show f_1 q = f q by rw [ef_1]; exact va_up_ne _ _ (pe_ro e0 e1)).trans e0
    have hf_1_q1 : f_1 q1 = .inl (cs 1, 208, .inl (upd g n (vp_nar .byte x.toInt8.toInt32))) := by rw [ef_1]; exact va_up_self _ _ _
    refine lv_aload_n hx hb dX2_add_21 rfl (lv_at hl 0 rfl) ?_
    refine lv_dup hx hb dX2_add_22 rfl ?_
    refine pw_get (ci := 2) (C := RX2) (T := TX2) (N := 2) hx hb hts inX2 hown hK hP m0 hf_1_q rfl 1 (by decide) (hts _ mw_25) (fun _ h9 => h9) rfl dX2_add_23 ?_
    refine lv_iconst (v := 1) hx hb dX2_add_26 (by decide) ?_
    refine lv_iadd hx hb dX2_add_27 ?_
    rw [nI_1]
    refine pw_put (ty := .int) (ci := 2) (v := .int (nI (n + 1))) (C := RX2) (T := TX2) (N := 2) hx hb hts inX2 tyX2 tyX2_ok nmX2 hown hK hP hD hS m0 hf_1_q rfl 1 (by decide) (hts _ mw_25) (fun _ h9 => h9) rfl (by decide +kernel) rfl rfl (Nat.le_of_ble_eq_true rfl) dX2_add_28 (fun H locs hP hD hS => ?_)
    obtain ⟨f_2, ef_2⟩ : ∃ zz : Nat → va_E, zz = va_up f_1 q (.inr (2, [.ref q1, .int (nI (n + 1))])) := ⟨_, rfl⟩
    have hP : va_P G vwCl (va_pl L f_2) H := by rw [ef_2]; exact hP
    have hD : va_D (pw_A L s.heap.size) (va_pl L f_2) := by rw [ef_2]; exact hD
    have hf_2_q : f_2 q = .inr (2, [.ref q1, .int (nI (n + 1))]) := by rw [ef_2]; exact va_up_self _ _ _
    have hf_2_q1 := (show f_2 q1 = f_1 q1 by rw [ef_2]; exact va_up_ne _ _ (pe_ro hf_1_q hf_1_q1).symm).trans hf_1_q1
    exact pc_retv hx hb hr hlocks hP hD hS dX2_add_31 (by rw [show sp_add (n, g) x = (n + 1, upd g n x.toInt8.toInt32) from if_pos hn8, ef_2, ef_1, pk_vb]; rfl)

set_option maxHeartbeats 4000000 in
set_option maxRecDepth 100000 in
theorem k_P_init (l : Launch) (G : va_G) (cs : Nat → ClassId) (L : List Nat) (f : Nat → va_E) (sz : Nat) (q : Nat) (hq0 : q ∈ L) (he0 : f q = .inr (2, [.null, .int 0])) : Met l yX2_init (Cond.code yX2_init cX2_init 1 none :: wg) ({ frames := 1, cells := 1, slots := 208, locals := 12 }) (pc_P [.ref q] G vwCl (tyl cs) L f sz (fun _ => True)) (va_Qv (fun u => ∃ q1, q1 ∉ L ∧ (∀ a ∈ L, a ∈ u.1) ∧ (∀ a, a ∈ L → a ≠ q → u.2 a = f a) ∧ PP cs u.1 u.2 q q1 0 (fun _ => 0)) (pc_B G vwCl L sz) (pw_A L sz)) 1 208 (pw_A L sz) := by
  refine Met.ofW (cc := cX2_init) (maxL := 1) (ret := none) (by decide) rfl ?_
  intro p e s m args below meth c s₁ B hml hv
  obtain ⟨rfl, hsz, hP, hK, hD0, hX⟩ := hv
  have hx := B.exec
  have hb := B.bytes
  have hr := B.returns
  have hts0 := atoms_spec (ws := (Cond.code yX2_init cX2_init 1 none :: wg)) B.pre
  have hts := fun (w : Cond) (h : w ∈ wg) => hts0 w (List.mem_cons_of_mem _ h)
  have hown : s.vm.findClass RX2 = some m.cls := findClass_of_methodNamed B.named
  have hlocks := B.notSynchronized
  have hin : meth.name = "<init>" := (name_of_methodNamed B.named B.method).1
  subst hsz
  have hD := pw_selfD (sz := s.heap.size) hD0
  have hA : ∀ q : Nat, s.heap.size ≤ q → pw_A L s.heap.size q := fun q h => Or.inr h
  have hS : va_S (pw_A L s.heap.size) s.heap s.heap [] := va_S.rf
  have hl := lv_entry ([.ref q]) (n := 1) (Nat.le_of_ble_eq_true rfl)
  rw [lg_entry_eq]
  generalize (lg_sl ([.ref q]) ++ List.replicate (1 - (lg_sl ([.ref q])).length) Slot.unset).toArray = ls at hl ⊢
  have hl : lv_has ls 1 [(0, .ref q)] := hl
  refine lv_aload_n hx hb dX2_init_0 rfl (lv_at hl 0 rfl) ?_
  refine W.objInit hx hb hown (hts _ mw_23) (hts _ mw_12) (hts _ mw_obj) rfl (by rw [hml]; exact hl.1) rfl dX2_init_1 (Nat.le_of_ble_eq_true rfl) (Nat.le_of_ble_eq_true rfl) ?_
  refine W.eq (g2 := F0 m 4 ls []) rfl ?_
  refine lv_aload_n hx hb dX2_init_4 rfl (lv_at hl 0 rfl) ?_
  refine lv_sipush (v := 208) hx hb dX2_init_5 (by decide) ?_
  refine pw_newa (atype := .byte) (ty := .byte) (a0 := (208, .inl (fun _ => 0))) hx hb (hts _ mw_32) rfl hK hP hD hS hA 1 rfl (fun _ h => h) (fun _ => rfl) (by decide) (by decide) (by decide) (Nat.le_of_ble_eq_true rfl) (Nat.le_of_ble_eq_true rfl) dX2_init_8 (fun q_2 H hq_2 hP hD hS => ?_)
  refine W.widen (k := 1) (n := 208) (Nat.le_refl _) (Nat.le_of_ble_eq_true rfl) ?_
  obtain ⟨f_1, ef_1⟩ : ∃ zz : Nat → va_E, zz = va_up f q_2 (.inl (cs 1, 208, .inl (fun _ => 0))) := ⟨_, rfl⟩
  have hP : va_P G vwCl (va_pl (L ++ [q_2]) f_1) H := by rw [ef_1]; exact hP
  have hD : va_D (pw_A L s.heap.size) (va_pl (L ++ [q_2]) f_1) := by rw [ef_1]; exact hD
  have mf_1_q : q ∈ (L ++ [q_2]) := List.mem_append_left _ hq0
  have hf_1_q := (show f_1 q = f q by rw [ef_1]; exact va_up_ne _ _ (fun h => hq_2 (h ▸ hq0))).trans he0
  have mf_1_q_2 : q_2 ∈ (L ++ [q_2]) := List.mem_append_right _ (List.mem_singleton.mpr rfl)
  have hf_1_q_2 : f_1 q_2 = .inl (cs 1, 208, .inl (fun _ => 0)) := by rw [ef_1]; exact va_up_self _ _ _
  refine pw_putF (ty := .array .byte) (ci := 2) (v := .ref q_2) (C := RX2) (T := TX2) (N := 2) hx hb hts inX2 tyX2 tyX2_ok nmX2 hown hK hP hD hS mf_1_q hf_1_q rfl 0 (by decide) (hts _ mw_24) (fun _ h9 => h9) rfl hin rfl (by decide +kernel) rfl rfl (Nat.le_of_ble_eq_true rfl) dX2_init_10 (fun H locs hP hD hS => ?_)
  obtain ⟨f_3, ef_3⟩ : ∃ zz : Nat → va_E, zz = va_up f_1 q (.inr (2, [.ref q_2, .int 0])) := ⟨_, rfl⟩
  have hP : va_P G vwCl (va_pl (L ++ [q_2]) f_3) H := by rw [ef_3]; exact hP
  have hD : va_D (pw_A L s.heap.size) (va_pl (L ++ [q_2]) f_3) := by rw [ef_3]; exact hD
  have hf_3_q : f_3 q = .inr (2, [.ref q_2, .int 0]) := by rw [ef_3]; exact va_up_self _ _ _
  have hf_3_q_2 := (show f_3 q_2 = f_1 q_2 by rw [ef_3]; exact va_up_ne _ _ (pe_ro hf_1_q hf_1_q_2).symm).trans hf_1_q_2
  have hfr : ∀ a, a ∈ L → a ≠ q → f_3 a = f a := by
    intro a ha haq
    rw [ef_3, va_up_ne _ _ haq, ef_1, va_up_ne _ _ (show a ≠ q_2 from fun h => hq_2 (h ▸ ha))]
  have hQ : PP cs (L ++ [q_2]) f_3 q q_2 0 (fun _ => 0) := ⟨⟨mf_1_q, mf_1_q_2⟩, hf_3_q, hf_3_q_2⟩
  exact pc_retv hx hb hr hlocks hP hD hS dX2_init_13 ⟨q_2, fun h => hq_2 h, fun a ha => List.mem_append_left _ ha, hfr, hQ⟩

def sp_un : Nat → Nat
  | 0 => 0
  | k + 1 => 10 ^ k
theorem sp_pow_lt {j : Nat} (h : j ≤ 9) : 10 ^ j < 2 ^ 63 := Nat.lt_of_le_of_lt (Nat.pow_le_pow_right (by decide) h) (by decide)
theorem sp_pow_pos (j : Nat) : 0 < 10 ^ j := Nat.pow_pos (by decide)
theorem sp_ne0 {j : Nat} (h : j ≤ 9) : ¬ lN (10 ^ j) = 0 := fun e => by
  have := (pk_lEQ (sp_pow_lt h) (show 0 < 2 ^ 63 by decide)).mp e
  exact absurd this (Nat.ne_of_gt (sp_pow_pos j))
theorem sp_digit {v j : Nat} (hv : v < 2 ^ 63) (h : j ≤ 9) : lN v / lN (10 ^ j) - lN v / lN (10 ^ j) / 10 * 10 = lN (v / 10 ^ j % 10) := by
  rw [pk_lDiv hv (sp_pow_pos j) (sp_pow_lt h)]
  exact pk_lRem (Nat.lt_of_le_of_lt (Nat.div_le_self _ _) hv) (by decide) (by decide)
theorem sp_unit {j : Nat} (h : j ≤ 9) : lN (10 ^ j) / 10 = lN (sp_un j) := by
  rw [show (10 : Int64) = lN 10 from rfl, pk_lDiv (sp_pow_lt h) (by decide) (by decide)]
  cases j with
  | zero => rfl
  | succ i => rw [Nat.pow_succ, Nat.mul_div_cancel _ (by decide)]; rfl
theorem sp_char {d : Nat} (h : d < 10) : (((48 : Int64) + lN d).toInt32.toUInt32 % 65536).toInt32 = nI (48 + d) := by
  rw [show (48 : Int64) = lN 48 from rfl, lN_add, lN_i]
  match d, h with
  | 0, _ => rfl
  | 1, _ => rfl
  | 2, _ => rfl
  | 3, _ => rfl
  | 4, _ => rfl
  | 5, _ => rfl
  | 6, _ => rfl
  | 7, _ => rfl
  | 8, _ => rfl
  | 9, _ => rfl
theorem sp_lz {n : Nat} (h : n < 2 ^ 63) : lN n = 0 ↔ n = 0 := pk_lEQ (b := 0) h (by decide)
theorem sp_l1 {n : Nat} (h : n < 2 ^ 63) : lN n = 1 ↔ n = 1 := pk_lEQ (b := 1) h (by decide)
theorem sp_dlt (v j : Nat) : v / 10 ^ j % 10 < 10 := Nat.mod_lt _ (by decide)

theorem sp_j0 {j : Nat} (h : 10 ^ j = 1) : j = 0 := by
  cases j with
  | zero => rfl
  | succ i =>
    rw [Nat.pow_succ] at h
    have := sp_pow_pos i
    omega

set_option maxHeartbeats 4000000 in
set_option maxRecDepth 100000 in
theorem k_P_num (l : Launch) (G : va_G) (cs : Nat → ClassId) (L : List Nat) (f : Nat → va_E) (sz : Nat) (q q1 : Nat) (n : Nat) (g : Nat → Int32) (v : Nat) (hQ : PP cs L f q q1 n g) (h8 : n ≤ 208) (hv : v < 2 ^ 63) : Met l yX2_addNumber (Cond.code yX2_addNumber cX2_addNumber 8 none :: wg) ({ frames := 1, cells := 0, slots := 0, locals := 21 }) (pc_P [.ref q, .long (lN v)] G vwCl (tyl cs) L f sz (fun _ => True)) (va_Qv (fun u => u = (L, pp_f cs f q q1 (sp_dig v 10 false (n, g)))) (pc_B G vwCl L sz) (pw_A L sz)) 0 0 (pw_A L sz) := by
  refine Met.ofW (cc := cX2_addNumber) (maxL := 8) (ret := none) (by decide) rfl ?_
  intro p e s m args below meth c s₁ B hml hv
  obtain ⟨rfl, hsz, hP, hK, hD0, hX⟩ := hv
  have hx := B.exec
  have hb := B.bytes
  have hr := B.returns
  have hts0 := atoms_spec (ws := (Cond.code yX2_addNumber cX2_addNumber 8 none :: wg)) B.pre
  have hts := fun (w : Cond) (h : w ∈ wg) => hts0 w (List.mem_cons_of_mem _ h)
  have hown : s.vm.findClass RX2 = some m.cls := findClass_of_methodNamed B.named
  have hlocks := B.notSynchronized
  subst hsz
  have hD := pw_selfD (sz := s.heap.size) hD0
  have hA : ∀ q : Nat, s.heap.size ≤ q → pw_A L s.heap.size q := fun q h => Or.inr h
  have hS : va_S (pw_A L s.heap.size) s.heap s.heap [] := va_S.rf
  have hl := lv_entry ([.ref q, .long (lN v)]) (n := 8) (Nat.le_of_ble_eq_true rfl)
  rw [lg_entry_eq]
  generalize (lg_sl ([.ref q, .long (lN v)]) ++ List.replicate (8 - (lg_sl ([.ref q, .long (lN v)])).length) Slot.unset).toArray = ls at hl ⊢
  have hl : lv_has ls 8 [(0, .ref q), (1, .long (lN v))] := hl
  obtain ⟨⟨m0, m1⟩, e0, e1⟩ := id hQ
  refine lv_iconst (v := 0) hx hb dX2_addNumber_0 (by decide) ?_
  refine lv_istore_n (lv' := [(3, .int 0), (0, .ref q), (1, .long (lN v))]) hx hb dX2_addNumber_1 rfl hl (by decide) rfl (fun ls hl => ?_)
  refine lv_ldc2 hx hb hown (hts _ mw_299) dX2_addNumber_2 ?_
  refine lv_lstore (lv' := [(4, .long 1000000000), (3, .int 0), (0, .ref q), (1, .long (lN v))]) hx hb dX2_addNumber_5 hl (by decide) rfl (fun ls hl => ?_)
  have hu : (1000000000 : Int64) = lN (sp_un 10) := rfl
  rw [hu] at hl
  have hne : q ≠ q1 := pe_ro e0 e1
  have hse := pp_self hQ
  refine pc_loop (σ := Nat × Bool × sp_P) (nL := 8) (fun x => x.1) (fun x => x.1 ≤ 10 ∧ x.2.2.1 ≤ 208 ∧ sp_dig v x.1 x.2.1 x.2.2 = sp_dig v 10 false (n, g)) (fun x => (L, pp_f cs f q q1 x.2.2)) (fun x => [(4, .long (lN (sp_un x.1))), (3, .int (if x.2.1 = true then 1 else 0)), (0, .ref q), (1, .long (lN v))]) ?_ (10, false, (n, g)) ⟨Nat.le_refl _, h8, rfl⟩ (by rw [hse]; exact hP) (by rw [hse]; exact hD) hS ls (lv_sub hl [0, 1, 2, 3] rfl)
  rintro ⟨k, b, pg⟩ ⟨hI1, hI2, hI3⟩ ih H locs ls hP hD hS hl
  have hP : va_P G vwCl (va_pl L (pp_f cs f q q1 pg)) H := hP
  have hD : va_D (pw_A L s.heap.size) (va_pl L (pp_f cs f q q1 pg)) := hD
  have hI1 : k ≤ 10 := hI1
  have hI2 : pg.1 ≤ 208 := hI2
  have hI3 : sp_dig v k b pg = sp_dig v 10 false (n, g) := hI3
  have hQk := pp_PP (cs := cs) (f := f) m0 m1 hne pg
  match k, b, hI1, hI3, hl, ih with
  | 0, b, hI1, hI3, hl, ih =>
    have hl : lv_has ls 8 [(4, .long (lN 0)), (3, .int (if b = true then 1 else 0)), (0, .ref q), (1, .long (lN v))] := hl
    replace ih := True.intro
    refine lv_lload hx hb dX2_addNumber_7 (lv_at hl 0 rfl) ?_
    refine lv_lconst (v := 1) hx hb dX2_addNumber_9 (by decide) ?_
    refine W.lcmp hx hb dX2_addNumber_10 ?_
    refine lv_if_lt (tgt := 75) hx hb dX2_addNumber_11 (by decide) (fun c_11 => ?_) (fun c_11 => ?_)
    · have c_11 := (lg_cmp_lt _ _).mp c_11
      exact pc_retv hx hb hr hlocks hP hD hS dX2_addNumber_75 (by rw [← hI3]; rfl)
    · have c_11 := fun h => c_11 ((lg_cmp_lt _ _).mpr h)
      exact absurd (show lN 0 < 1 by decide) c_11
  | j + 1, true, hI1, hI3, hl, ih =>
    have hl : lv_has ls 8 [(4, .long (lN (10 ^ j))), (3, .int 1), (0, .ref q), (1, .long (lN v))] := hl
    have hj : j ≤ 9 := by omega
    refine lv_lload hx hb dX2_addNumber_7 (lv_at hl 0 rfl) ?_
    refine lv_lconst (v := 1) hx hb dX2_addNumber_9 (by decide) ?_
    refine W.lcmp hx hb dX2_addNumber_10 ?_
    refine lv_if_lt (tgt := 75) hx hb dX2_addNumber_11 (by decide) (fun c_11 => ?_) (fun c_11 => ?_)
    · have c_11 := (lg_cmp_lt _ _).mp c_11
      exact absurd (show lN 1 ≤ lN (10 ^ j) from (pk_lLE (by decide) (sp_pow_lt hj)).mpr (sp_pow_pos j)) (Int64.not_le.mpr c_11)
    · have c_11 := fun h => c_11 ((lg_cmp_lt _ _).mpr h)
      refine lv_lload_n hx hb dX2_addNumber_14 rfl (lv_at hl 3 rfl) ?_
      refine lv_lload hx hb dX2_addNumber_15 (lv_at hl 0 rfl) ?_
      refine lv_ldiv hx hb dX2_addNumber_17 (sp_ne0 hj) ?_
      refine lv_ldc2 hx hb hown (hts _ mw_300) dX2_addNumber_18 ?_
      refine lv_lrem hx hb dX2_addNumber_21 (by decide) ?_
      rw [sp_digit hv hj]
      refine lv_lstore (lv' := [(6, .long (lN (v / 10 ^ j % 10))), (4, .long (lN (10 ^ j))), (3, .int 1), (0, .ref q), (1, .long (lN v))]) hx hb dX2_addNumber_22 hl (by decide) rfl (fun ls hl => ?_)
      refine lv_iload_n hx hb dX2_addNumber_24 rfl (lv_at hl 2 rfl) ?_
      refine lv_if_ne (tgt := 42) hx hb dX2_addNumber_25 (by decide) (fun c_25 => ?_) (fun c_25 => ?_)
      · refine lv_iconst (v := 1) hx hb dX2_addNumber_42 (by decide) ?_
        refine lv_goto (tgt := 47) hx hb dX2_addNumber_43 (by decide) ?_
        refine lv_istore_n (lv' := [(3, .int 1), (6, .long (lN (v / 10 ^ j % 10))), (4, .long (lN (10 ^ j))), (0, .ref q), (1, .long (lN v))]) hx hb dX2_addNumber_47 rfl hl (by decide) rfl (fun ls hl => ?_)
        refine lv_iload_n hx hb dX2_addNumber_48 rfl (lv_at hl 0 rfl) ?_
        refine lv_if_eq (tgt := 64) hx hb dX2_addNumber_49 (by decide) (fun c_49 => ?_) (fun c_49 => ?_)
        · exact absurd c_49 (by decide)
        · refine lv_aload_n hx hb dX2_addNumber_52 rfl (lv_at hl 3 rfl) ?_
          refine lv_ldc2 hx hb hown (hts _ mw_301) dX2_addNumber_53 ?_
          refine lv_lload hx hb dX2_addNumber_56 (lv_at hl 1 rfl) ?_
          refine lv_ladd hx hb dX2_addNumber_58 ?_
          refine lv_l2i hx hb dX2_addNumber_59 rfl ?_
          refine lv_i2c hx hb dX2_addNumber_60 rfl ?_
          rw [sp_char (sp_dlt v j)]
          refine pc_callVv (As := [.int (nI (48 + v / 10 ^ j % 10))]) (rest := []) ⟨hx, hb, hml, hown, hts⟩ (k_P_add l G cs L (pp_f cs f q q1 pg) _ q q1 pg.1 pg.2 (nI (48 + v / 10 ^ j % 10)) hQk hI2) (cwV 1 hts (wg_V mw_302 mw_303 mw_304 mw_2 mw_305) rfl rfl rfl (by decide +kernel) ⟨Nat.le_of_ble_eq_true rfl, Nat.le_of_ble_eq_true rfl⟩) hK hP hD hS hA m0 hQk.2.1 rfl px_T (fun _ _ _ => trivial) rfl hl.1 rfl (lv_room (Nat.le_of_ble_eq_true rfl)) dX2_addNumber_61 ⟨Nat.le_of_ble_eq_true rfl, Nat.le_of_ble_eq_true rfl⟩ (fun L1 f1 H locs hr_1 hP hD hS => ?_)
          obtain ⟨rfl, rfl⟩ := Prod.mk.inj hr_1
          rw [pp_pp hne] at hP hD
          refine lv_lload hx hb dX2_addNumber_64 (lv_at hl 2 rfl) ?_
          refine lv_ldc2 hx hb hown (hts _ mw_300) dX2_addNumber_66 ?_
          refine lv_ldiv hx hb dX2_addNumber_69 (by decide) ?_
          rw [sp_unit hj]
          refine lv_lstore (lv' := [(4, .long (lN (sp_un j))), (3, .int 1), (6, .long (lN (v / 10 ^ j % 10))), (0, .ref q), (1, .long (lN v))]) hx hb dX2_addNumber_70 hl (by decide) rfl (fun ls hl => ?_)
          refine lv_goto (tgt := 7) hx hb dX2_addNumber_72 (by decide) ?_
          refine ih (j, true, sp_add pg (nI (48 + v / 10 ^ j % 10))) ⟨(by omega : j ≤ 10), sp_add_le _ _ hI2, ?_⟩ (by show j < j + 1; omega) _ _ ls hP hD hS (lv_sub hl [0, 1, 3, 4] rfl)
          rw [← hI3]
          exact (if_pos (Or.inl rfl)).symm
      · exact absurd c_25 (by decide)
  | j + 1, false, hI1, hI3, hl, ih =>
    have hl : lv_has ls 8 [(4, .long (lN (10 ^ j))), (3, .int 0), (0, .ref q), (1, .long (lN v))] := hl
    have hj : j ≤ 9 := by omega
    refine lv_lload hx hb dX2_addNumber_7 (lv_at hl 0 rfl) ?_
    refine lv_lconst (v := 1) hx hb dX2_addNumber_9 (by decide) ?_
    refine W.lcmp hx hb dX2_addNumber_10 ?_
    refine lv_if_lt (tgt := 75) hx hb dX2_addNumber_11 (by decide) (fun c_11 => ?_) (fun c_11 => ?_)
    · have c_11 := (lg_cmp_lt _ _).mp c_11
      exact absurd (show lN 1 ≤ lN (10 ^ j) from (pk_lLE (by decide) (sp_pow_lt hj)).mpr (sp_pow_pos j)) (Int64.not_le.mpr c_11)
    · have c_11 := fun h => c_11 ((lg_cmp_lt _ _).mpr h)
      refine lv_lload_n hx hb dX2_addNumber_14 rfl (lv_at hl 3 rfl) ?_
      refine lv_lload hx hb dX2_addNumber_15 (lv_at hl 0 rfl) ?_
      refine lv_ldiv hx hb dX2_addNumber_17 (sp_ne0 hj) ?_
      refine lv_ldc2 hx hb hown (hts _ mw_300) dX2_addNumber_18 ?_
      refine lv_lrem hx hb dX2_addNumber_21 (by decide) ?_
      rw [sp_digit hv hj]
      refine lv_lstore (lv' := [(6, .long (lN (v / 10 ^ j % 10))), (4, .long (lN (10 ^ j))), (3, .int 0), (0, .ref q), (1, .long (lN v))]) hx hb dX2_addNumber_22 hl (by decide) rfl (fun ls hl => ?_)
      refine lv_iload_n hx hb dX2_addNumber_24 rfl (lv_at hl 2 rfl) ?_
      refine lv_if_ne (tgt := 42) hx hb dX2_addNumber_25 (by decide) (fun c_25 => ?_) (fun c_25 => ?_)
      · exact absurd rfl c_25
      · refine lv_lload hx hb dX2_addNumber_28 (lv_at hl 0 rfl) ?_
        refine lv_lconst (v := 0) hx hb dX2_addNumber_30 (by decide) ?_
        refine W.lcmp hx hb dX2_addNumber_31 ?_
        refine lv_if_ne (tgt := 42) hx hb dX2_addNumber_32 (by decide) (fun c_32 => ?_) (fun c_32 => ?_)
        · have c_32 := fun h => c_32 ((lg_cmp_eq _ _).mpr h)
          have hd0 : ¬ v / 10 ^ j % 10 = 0 := fun h => c_32 ((sp_lz (Nat.lt_trans (sp_dlt v j) (by decide))).mpr h)
          refine lv_iconst (v := 1) hx hb dX2_addNumber_42 (by decide) ?_
          refine lv_goto (tgt := 47) hx hb dX2_addNumber_43 (by decide) ?_
          refine lv_istore_n (lv' := [(3, .int 1), (6, .long (lN (v / 10 ^ j % 10))), (4, .long (lN (10 ^ j))), (0, .ref q), (1, .long (lN v))]) hx hb dX2_addNumber_47 rfl hl (by decide) rfl (fun ls hl => ?_)
          refine lv_iload_n hx hb dX2_addNumber_48 rfl (lv_at hl 0 rfl) ?_
          refine lv_if_eq (tgt := 64) hx hb dX2_addNumber_49 (by decide) (fun c_49 => ?_) (fun c_49 => ?_)
          · exact absurd c_49 (by decide)
          · refine lv_aload_n hx hb dX2_addNumber_52 rfl (lv_at hl 3 rfl) ?_
            refine lv_ldc2 hx hb hown (hts _ mw_301) dX2_addNumber_53 ?_
            refine lv_lload hx hb dX2_addNumber_56 (lv_at hl 1 rfl) ?_
            refine lv_ladd hx hb dX2_addNumber_58 ?_
            refine lv_l2i hx hb dX2_addNumber_59 rfl ?_
            refine lv_i2c hx hb dX2_addNumber_60 rfl ?_
            rw [sp_char (sp_dlt v j)]
            refine pc_callVv (As := [.int (nI (48 + v / 10 ^ j % 10))]) (rest := []) ⟨hx, hb, hml, hown, hts⟩ (k_P_add l G cs L (pp_f cs f q q1 pg) _ q q1 pg.1 pg.2 (nI (48 + v / 10 ^ j % 10)) hQk hI2) (cwV 1 hts (wg_V mw_302 mw_303 mw_304 mw_2 mw_305) rfl rfl rfl (by decide +kernel) ⟨Nat.le_of_ble_eq_true rfl, Nat.le_of_ble_eq_true rfl⟩) hK hP hD hS hA m0 hQk.2.1 rfl px_T (fun _ _ _ => trivial) rfl hl.1 rfl (lv_room (Nat.le_of_ble_eq_true rfl)) dX2_addNumber_61 ⟨Nat.le_of_ble_eq_true rfl, Nat.le_of_ble_eq_true rfl⟩ (fun L1 f1 H locs hr_2 hP hD hS => ?_)
            obtain ⟨rfl, rfl⟩ := Prod.mk.inj hr_2
            rw [pp_pp hne] at hP hD
            refine lv_lload hx hb dX2_addNumber_64 (lv_at hl 2 rfl) ?_
            refine lv_ldc2 hx hb hown (hts _ mw_300) dX2_addNumber_66 ?_
            refine lv_ldiv hx hb dX2_addNumber_69 (by decide) ?_
            rw [sp_unit hj]
            refine lv_lstore (lv' := [(4, .long (lN (sp_un j))), (3, .int 1), (6, .long (lN (v / 10 ^ j % 10))), (0, .ref q), (1, .long (lN v))]) hx hb dX2_addNumber_70 hl (by decide) rfl (fun ls hl => ?_)
            refine lv_goto (tgt := 7) hx hb dX2_addNumber_72 (by decide) ?_
            refine ih (j, true, sp_add pg (nI (48 + v / 10 ^ j % 10))) ⟨(by omega : j ≤ 10), sp_add_le _ _ hI2, ?_⟩ (by show j < j + 1; omega) _ _ ls hP hD hS (lv_sub hl [0, 1, 3, 4] rfl)
            rw [← hI3]
            exact (if_pos (Or.inr (Or.inl hd0))).symm
        · have c_32 := (lg_cmp_eq _ _).mp c_32
          have hd0 : v / 10 ^ j % 10 = 0 := (sp_lz (Nat.lt_trans (sp_dlt v j) (by decide))).mp c_32
          refine lv_lload hx hb dX2_addNumber_35 (lv_at hl 1 rfl) ?_
          refine lv_lconst (v := 1) hx hb dX2_addNumber_37 (by decide) ?_
          refine W.lcmp hx hb dX2_addNumber_38 ?_
          refine lv_if_ne (tgt := 46) hx hb dX2_addNumber_39 (by decide) (fun c_39 => ?_) (fun c_39 => ?_)
          · have c_39 := fun h => c_39 ((lg_cmp_eq _ _).mpr h)
            have hj0 : ¬ j = 0 := fun h => c_39 (by rw [h]; rfl)
            refine lv_iconst (v := 0) hx hb dX2_addNumber_46 (by decide) ?_
            refine lv_istore_n (lv' := [(3, .int 0), (6, .long (lN (v / 10 ^ j % 10))), (4, .long (lN (10 ^ j))), (0, .ref q), (1, .long (lN v))]) hx hb dX2_addNumber_47 rfl hl (by decide) rfl (fun ls hl => ?_)
            refine lv_iload_n hx hb dX2_addNumber_48 rfl (lv_at hl 0 rfl) ?_
            refine lv_if_eq (tgt := 64) hx hb dX2_addNumber_49 (by decide) (fun c_49 => ?_) (fun c_49 => ?_)
            · refine lv_lload hx hb dX2_addNumber_64 (lv_at hl 2 rfl) ?_
              refine lv_ldc2 hx hb hown (hts _ mw_300) dX2_addNumber_66 ?_
              refine lv_ldiv hx hb dX2_addNumber_69 (by decide) ?_
              rw [sp_unit hj]
              refine lv_lstore (lv' := [(4, .long (lN (sp_un j))), (3, .int 0), (6, .long (lN (v / 10 ^ j % 10))), (0, .ref q), (1, .long (lN v))]) hx hb dX2_addNumber_70 hl (by decide) rfl (fun ls hl => ?_)
              refine lv_goto (tgt := 7) hx hb dX2_addNumber_72 (by decide) ?_
              refine ih (j, false, pg) ⟨(by omega : j ≤ 10), hI2, ?_⟩ (by show j < j + 1; omega) _ _ ls hP hD hS (lv_sub hl [0, 1, 3, 4] rfl)
              rw [← hI3]
              exact (if_neg (fun h => h.elim (fun h => absurd h (by decide)) (fun h => h.elim (fun h => h hd0) hj0))).symm
            · exact absurd rfl c_49
          · have c_39 := (lg_cmp_eq _ _).mp c_39
            have hj0 : j = 0 := sp_j0 ((sp_l1 (sp_pow_lt hj)).mp c_39)
            refine lv_iconst (v := 1) hx hb dX2_addNumber_42 (by decide) ?_
            refine lv_goto (tgt := 47) hx hb dX2_addNumber_43 (by decide) ?_
            refine lv_istore_n (lv' := [(3, .int 1), (6, .long (lN (v / 10 ^ j % 10))), (4, .long (lN (10 ^ j))), (0, .ref q), (1, .long (lN v))]) hx hb dX2_addNumber_47 rfl hl (by decide) rfl (fun ls hl => ?_)
            refine lv_iload_n hx hb dX2_addNumber_48 rfl (lv_at hl 0 rfl) ?_
            refine lv_if_eq (tgt := 64) hx hb dX2_addNumber_49 (by decide) (fun c_49 => ?_) (fun c_49 => ?_)
            · exact absurd c_49 (by decide)
            · refine lv_aload_n hx hb dX2_addNumber_52 rfl (lv_at hl 3 rfl) ?_
              refine lv_ldc2 hx hb hown (hts _ mw_301) dX2_addNumber_53 ?_
              refine lv_lload hx hb dX2_addNumber_56 (lv_at hl 1 rfl) ?_
              refine lv_ladd hx hb dX2_addNumber_58 ?_
              refine lv_l2i hx hb dX2_addNumber_59 rfl ?_
              refine lv_i2c hx hb dX2_addNumber_60 rfl ?_
              rw [sp_char (sp_dlt v j)]
              refine pc_callVv (As := [.int (nI (48 + v / 10 ^ j % 10))]) (rest := []) ⟨hx, hb, hml, hown, hts⟩ (k_P_add l G cs L (pp_f cs f q q1 pg) _ q q1 pg.1 pg.2 (nI (48 + v / 10 ^ j % 10)) hQk hI2) (cwV 1 hts (wg_V mw_302 mw_303 mw_304 mw_2 mw_305) rfl rfl rfl (by decide +kernel) ⟨Nat.le_of_ble_eq_true rfl, Nat.le_of_ble_eq_true rfl⟩) hK hP hD hS hA m0 hQk.2.1 rfl px_T (fun _ _ _ => trivial) rfl hl.1 rfl (lv_room (Nat.le_of_ble_eq_true rfl)) dX2_addNumber_61 ⟨Nat.le_of_ble_eq_true rfl, Nat.le_of_ble_eq_true rfl⟩ (fun L1 f1 H locs hr_3 hP hD hS => ?_)
              obtain ⟨rfl, rfl⟩ := Prod.mk.inj hr_3
              rw [pp_pp hne] at hP hD
              refine lv_lload hx hb dX2_addNumber_64 (lv_at hl 2 rfl) ?_
              refine lv_ldc2 hx hb hown (hts _ mw_300) dX2_addNumber_66 ?_
              refine lv_ldiv hx hb dX2_addNumber_69 (by decide) ?_
              rw [sp_unit hj]
              refine lv_lstore (lv' := [(4, .long (lN (sp_un j))), (3, .int 1), (6, .long (lN (v / 10 ^ j % 10))), (0, .ref q), (1, .long (lN v))]) hx hb dX2_addNumber_70 hl (by decide) rfl (fun ls hl => ?_)
              refine lv_goto (tgt := 7) hx hb dX2_addNumber_72 (by decide) ?_
              refine ih (j, true, sp_add pg (nI (48 + v / 10 ^ j % 10))) ⟨(by omega : j ≤ 10), sp_add_le _ _ hI2, ?_⟩ (by show j < j + 1; omega) _ _ ls hP hD hS (lv_sub hl [0, 1, 3, 4] rfl)
              rw [← hI3]
              exact (if_pos (Or.inr (Or.inr hj0))).symm
end
section
/-! THE CLASS'S WORLD: addresses by roles: 0 the object, 1 notices, 2 moves, 3 rights, 4 paper, 5 its row; of notice i 8+4i (the object), 9+4i answers, 10+4i askedOn, 11+4i daysOf; of move j 32+2j (the object), 33+2j carriers. -/
abbrev NS : Type := Int64 × Int32 × Int32 × (Nat → Int32) × (Nat → Int32) × (Nat → Int32) × Int64
abbrev MS : Type := Int32 × Int64 × Int32 × (Nat → Int32) × Nat × Int32 × Int32 × Int32
def ps_use (nN nM r : Nat) : Prop := r < 6 ∨ (8 ≤ r ∧ r < 8 + 4 * nN) ∨ (32 ≤ r ∧ r < 32 + 2 * nM)
def NTi (cs : Nat → ClassId) (L : List Nat) (f : Nat → va_E) (ad : Nat → Nat) (i : Nat) (n : NS) : Prop := NT cs L f (ad (8 + 4 * i)) (ad (9 + 4 * i)) (ad (10 + 4 * i)) (ad (11 + 4 * i)) n.1 n.2.1 n.2.2.1 n.2.2.2.1 n.2.2.2.2.1 n.2.2.2.2.2.1 n.2.2.2.2.2.2
def MVi (cs : Nat → ClassId) (L : List Nat) (f : Nat → va_E) (ad : Nat → Nat) (j : Nat) (m : MS) : Prop := MV cs L f (ad (32 + 2 * j)) (ad (33 + 2 * j)) m.1 m.2.1 m.2.2.1 m.2.2.2.1 m.2.2.2.2.1 m.2.2.2.2.2.1 m.2.2.2.2.2.2.1 m.2.2.2.2.2.2.2 ∧ m.2.2.2.2.1 ≤ 6
def ps_g (ad : Nat → Nat) (b w n : Nat) : Nat → Option Nat := fun i => if i < n then some (ad (b + w * i)) else none
def ps_0 (ad : Nat → Nat) (t lm : Int32) (nN nM : Nat) : va_E := .inr (3, [.ref (ad 1), .ref (ad 2), .ref (ad 3), .ref (ad 4), .int (nI nN), .int (nI nM), .int t, .int lm])
def PS (cs : Nat → ClassId) (L : List Nat) (f : Nat → va_E) (ad : Nat → Nat) (t lm : Int32) (nN nM : Nat) (ns : Nat → NS) (ms : Nat → MS) (rt : Nat → Int32) (pg : sp_P) : Prop :=
  (nN ≤ 6 ∧ nM ≤ 12) ∧ (∀ r, ps_use nN nM r → ad r ∈ L) ∧ (∀ r r', ps_use nN nM r → ps_use nN nM r' → ad r = ad r' → r = r') ∧
  f (ad 0) = ps_0 ad t lm nN nM ∧ f (ad 1) = .inl (cs 4, 6, .inr (.inr (.inr (.inr (ps_g ad 8 4 nN))))) ∧ f (ad 2) = .inl (cs 5, 12, .inr (.inr (.inr (.inr (ps_g ad 32 2 nM))))) ∧ f (ad 3) = .inl (cs 2, 40, .inl rt) ∧
  (PP cs L f (ad 4) (ad 5) pg.1 pg.2 ∧ pg.1 ≤ 208) ∧ (∀ i, i < nN → NTi cs L f ad i (ns i)) ∧ (∀ j, j < nM → MVi cs L f ad j (ms j))
section PSL
variable {cs : Nat → ClassId} {L : List Nat} {f : Nat → va_E} {ad : Nat → Nat} {t lm : Int32} {nN nM : Nat} {ns : Nat → NS} {ms : Nat → MS} {rt : Nat → Int32} {pg : sp_P}
theorem PS.nN6 (h : PS cs L f ad t lm nN nM ns ms rt pg) : nN ≤ 6 := h.1.1
theorem PS.nM12 (h : PS cs L f ad t lm nN nM ns ms rt pg) : nM ≤ 12 := h.1.2
theorem PS.mem (h : PS cs L f ad t lm nN nM ns ms rt pg) {r : Nat} (hr : ps_use nN nM r) : ad r ∈ L := h.2.1 r hr
theorem PS.ne (h : PS cs L f ad t lm nN nM ns ms rt pg) {r r' : Nat} (hr : ps_use nN nM r) (hr' : ps_use nN nM r') (hne : r ≠ r') : ad r ≠ ad r' := fun e => hne (h.2.2.1 r r' hr hr' e)
theorem PS.e0 (h : PS cs L f ad t lm nN nM ns ms rt pg) : f (ad 0) = .inr (3, [.ref (ad 1), .ref (ad 2), .ref (ad 3), .ref (ad 4), .int (nI nN), .int (nI nM), .int t, .int lm]) := h.2.2.2.1
theorem PS.e1 (h : PS cs L f ad t lm nN nM ns ms rt pg) : f (ad 1) = .inl (cs 4, 6, .inr (.inr (.inr (.inr (ps_g ad 8 4 nN))))) := h.2.2.2.2.1
theorem PS.e2 (h : PS cs L f ad t lm nN nM ns ms rt pg) : f (ad 2) = .inl (cs 5, 12, .inr (.inr (.inr (.inr (ps_g ad 32 2 nM))))) := h.2.2.2.2.2.1
theorem PS.e3 (h : PS cs L f ad t lm nN nM ns ms rt pg) : f (ad 3) = .inl (cs 2, 40, .inl rt) := h.2.2.2.2.2.2.1
theorem PS.pp (h : PS cs L f ad t lm nN nM ns ms rt pg) : PP cs L f (ad 4) (ad 5) pg.1 pg.2 := h.2.2.2.2.2.2.2.1.1
theorem PS.p8 (h : PS cs L f ad t lm nN nM ns ms rt pg) : pg.1 ≤ 208 := h.2.2.2.2.2.2.2.1.2
theorem PS.nt (h : PS cs L f ad t lm nN nM ns ms rt pg) {i : Nat} (hi : i < nN) : NTi cs L f ad i (ns i) := h.2.2.2.2.2.2.2.2.1 i hi
theorem PS.mv (h : PS cs L f ad t lm nN nM ns ms rt pg) {j : Nat} (hj : j < nM) : MVi cs L f ad j (ms j) := h.2.2.2.2.2.2.2.2.2 j hj
theorem pu_lo {nN nM r : Nat} (h : r < 6) : ps_use nN nM r := Or.inl h
theorem pu_n {nN nM i c : Nat} (hi : i < nN) (hc : c < 4) : ps_use nN nM (8 + c + 4 * i) := Or.inr (Or.inl ⟨by omega, by omega⟩)
theorem pu_m {nN nM j c : Nat} (hj : j < nM) (hc : c < 2) : ps_use nN nM (32 + c + 2 * j) := Or.inr (Or.inr ⟨by omega, by omega⟩)
/-- the same cells at the same roles: NT, MV go over -/
theorem NTi.kept {L' : List Nat} {f' : Nat → va_E} {ad' : Nat → Nat} {i : Nat} {n : NS} (h : NTi cs L f ad i n) (hL : ∀ a ∈ L, a ∈ L') (had : ∀ r, 8 + 4 * i ≤ r → r < 12 + 4 * i → ad' r = ad r) (hf : ∀ r, 8 + 4 * i ≤ r → r < 12 + 4 * i → f' (ad r) = f (ad r)) : NTi cs L' f' ad' i n := by
  unfold NTi at *
  rw [had _ (by omega) (by omega), had _ (by omega) (by omega), had _ (by omega) (by omega), had _ (by omega) (by omega)]
  obtain ⟨⟨a, b, c, d⟩, ⟨a1, b1, c1, d1⟩, x⟩ := h
  exact ⟨⟨hL _ a, hL _ b, hL _ c, hL _ d⟩, ⟨(hf _ (by omega) (by omega)).trans a1, (hf _ (by omega) (by omega)).trans b1, (hf _ (by omega) (by omega)).trans c1, (hf _ (by omega) (by omega)).trans d1⟩, x⟩
theorem MVi.kept {L' : List Nat} {f' : Nat → va_E} {ad' : Nat → Nat} {j : Nat} {m : MS} (h : MVi cs L f ad j m) (hL : ∀ a ∈ L, a ∈ L') (had : ∀ r, 32 + 2 * j ≤ r → r < 34 + 2 * j → ad' r = ad r) (hf : ∀ r, 32 + 2 * j ≤ r → r < 34 + 2 * j → f' (ad r) = f (ad r)) : MVi cs L' f' ad' j m := by
  unfold MVi at *
  rw [had _ (by omega) (by omega), had _ (by omega) (by omega)]
  obtain ⟨⟨⟨a, b⟩, a1, b1⟩, x⟩ := h
  exact ⟨⟨⟨hL _ a, hL _ b⟩, (hf _ (by omega) (by omega)).trans a1, (hf _ (by omega) (by omega)).trans b1⟩, x⟩
/-- one object's numbers change -/
theorem PS.main (h : PS cs L f ad t lm nN nM ns ms rt pg) (t' lm' : Int32) : PS cs L (va_up f (ad 0) (ps_0 ad t' lm' nN nM)) ad t' lm' nN nM ns ms rt pg := by
  have k : ∀ r, ps_use nN nM r → 0 < r → va_up f (ad 0) (ps_0 ad t' lm' nN nM) (ad r) = f (ad r) := fun r hr h0 => va_up_ne _ _ (h.ne hr (pu_lo (by decide)) (by omega))
  refine ⟨h.1, h.2.1, h.2.2.1, va_up_self _ _ _, (k 1 (pu_lo (by decide)) (by decide)).trans h.e1, (k 2 (pu_lo (by decide)) (by decide)).trans h.e2, (k 3 (pu_lo (by decide)) (by decide)).trans h.e3, ⟨⟨h.pp.1, (k 4 (pu_lo (by decide)) (by decide)).trans h.pp.2.1, (k 5 (pu_lo (by decide)) (by decide)).trans h.pp.2.2⟩, h.p8⟩, fun i hi => (h.nt hi).kept (fun _ z => z) (fun _ _ _ => rfl) (fun r h1 h2 => k r (Or.inr (Or.inl ⟨by omega, by omega⟩)) (by omega)), fun j hj => (h.mv hj).kept (fun _ z => z) (fun _ _ _ => rfl) (fun r h1 h2 => k r (Or.inr (Or.inr ⟨by omega, by omega⟩)) (by omega))⟩
theorem PS.rights (h : PS cs L f ad t lm nN nM ns ms rt pg) (rt' : Nat → Int32) : PS cs L (va_up f (ad 3) (.inl (cs 2, 40, .inl rt'))) ad t lm nN nM ns ms rt' pg := by
  have k : ∀ r, ps_use nN nM r → r ≠ 3 → va_up f (ad 3) (.inl (cs 2, 40, .inl rt')) (ad r) = f (ad r) := fun r hr h0 => va_up_ne _ _ (h.ne hr (pu_lo (by decide)) h0)
  refine ⟨h.1, h.2.1, h.2.2.1, (k 0 (pu_lo (by decide)) (by decide)).trans h.e0, (k 1 (pu_lo (by decide)) (by decide)).trans h.e1, (k 2 (pu_lo (by decide)) (by decide)).trans h.e2, va_up_self _ _ _, ⟨⟨h.pp.1, (k 4 (pu_lo (by decide)) (by decide)).trans h.pp.2.1, (k 5 (pu_lo (by decide)) (by decide)).trans h.pp.2.2⟩, h.p8⟩, fun i hi => (h.nt hi).kept (fun _ z => z) (fun _ _ _ => rfl) (fun r h1 h2 => k r (Or.inr (Or.inl ⟨by omega, by omega⟩)) (by omega)), fun j hj => (h.mv hj).kept (fun _ z => z) (fun _ _ _ => rfl) (fun r h1 h2 => k r (Or.inr (Or.inr ⟨by omega, by omega⟩)) (by omega))⟩
theorem PS.paper (h : PS cs L f ad t lm nN nM ns ms rt pg) (pg' : sp_P) (h8 : pg'.1 ≤ 208) : PS cs L (pp_f cs f (ad 4) (ad 5) pg') ad t lm nN nM ns ms rt pg' := by
  have k : ∀ r, ps_use nN nM r → r ≠ 4 → r ≠ 5 → pp_f cs f (ad 4) (ad 5) pg' (ad r) = f (ad r) := fun r hr h0 h1 => (va_up_ne _ _ (h.ne hr (pu_lo (by decide)) h0)).trans (va_up_ne _ _ (h.ne hr (pu_lo (by decide)) h1))
  refine ⟨h.1, h.2.1, h.2.2.1, (k 0 (pu_lo (by decide)) (by decide) (by decide)).trans h.e0, (k 1 (pu_lo (by decide)) (by decide) (by decide)).trans h.e1, (k 2 (pu_lo (by decide)) (by decide) (by decide)).trans h.e2, (k 3 (pu_lo (by decide)) (by decide) (by decide)).trans h.e3, ⟨pp_PP h.pp.1.1 h.pp.1.2 (h.ne (pu_lo (by decide)) (pu_lo (by decide)) (by decide)) pg', h8⟩, fun i hi => (h.nt hi).kept (fun _ z => z) (fun _ _ _ => rfl) (fun r h1 h2 => k r (Or.inr (Or.inl ⟨by omega, by omega⟩)) (by omega) (by omega)), fun j hj => (h.mv hj).kept (fun _ z => z) (fun _ _ _ => rfl) (fun r h1 h2 => k r (Or.inr (Or.inr ⟨by omega, by omega⟩)) (by omega) (by omega))⟩
/-- one notice changes: nothing but its own four cells -/
theorem PS.notice (h : PS cs L f ad t lm nN nM ns ms rt pg) {f' : Nat → va_E} {i : Nat} {n' : NS} (hi : i < nN) (hf : ∀ r, ps_use nN nM r → (r < 8 + 4 * i ∨ 12 + 4 * i ≤ r) → f' (ad r) = f (ad r)) (hN : NTi cs L f' ad i n') : PS cs L f' ad t lm nN nM (va_up ns i n') ms rt pg := by
  refine ⟨h.1, h.2.1, h.2.2.1, (hf 0 (pu_lo (by decide)) (by omega)).trans h.e0, (hf 1 (pu_lo (by decide)) (by omega)).trans h.e1, (hf 2 (pu_lo (by decide)) (by omega)).trans h.e2, (hf 3 (pu_lo (by decide)) (by omega)).trans h.e3, ⟨⟨h.pp.1, (hf 4 (pu_lo (by decide)) (by omega)).trans h.pp.2.1, (hf 5 (pu_lo (by decide)) (by omega)).trans h.pp.2.2⟩, h.p8⟩, fun k hk => ?_, fun j hj => (h.mv hj).kept (fun _ z => z) (fun _ _ _ => rfl) (fun r h1 h2 => hf r (Or.inr (Or.inr ⟨by omega, by omega⟩)) (by have := h.nN6; omega))⟩
  by_cases e : k = i
  · subst e
    rw [va_up_self]
    exact hN
  · rw [va_up_ne _ _ e]
    exact (h.nt hk).kept (fun _ z => z) (fun _ _ _ => rfl) (fun r h1 h2 => hf r (Or.inr (Or.inl ⟨by omega, by omega⟩)) (by omega))
theorem PS.move (h : PS cs L f ad t lm nN nM ns ms rt pg) {f' : Nat → va_E} {j : Nat} {m' : MS} (hj : j < nM) (hf : ∀ r, ps_use nN nM r → (r < 32 + 2 * j ∨ 34 + 2 * j ≤ r) → f' (ad r) = f (ad r)) (hM : MVi cs L f' ad j m') : PS cs L f' ad t lm nN nM ns (va_up ms j m') rt pg := by
  refine ⟨h.1, h.2.1, h.2.2.1, (hf 0 (pu_lo (by decide)) (by omega)).trans h.e0, (hf 1 (pu_lo (by decide)) (by omega)).trans h.e1, (hf 2 (pu_lo (by decide)) (by omega)).trans h.e2, (hf 3 (pu_lo (by decide)) (by omega)).trans h.e3, ⟨⟨h.pp.1, (hf 4 (pu_lo (by decide)) (by omega)).trans h.pp.2.1, (hf 5 (pu_lo (by decide)) (by omega)).trans h.pp.2.2⟩, h.p8⟩, fun i hi => (h.nt hi).kept (fun _ z => z) (fun _ _ _ => rfl) (fun r h1 h2 => hf r (Or.inr (Or.inl ⟨by omega, by omega⟩)) (by have := h.nN6; omega)), fun k hk => ?_⟩
  by_cases e : k = j
  · subst e
    rw [va_up_self]
    exact hM
  · rw [va_up_ne _ _ e]
    exact (h.mv hk).kept (fun _ z => z) (fun _ _ _ => rfl) (fun r h1 h2 => hf r (Or.inr (Or.inr ⟨by omega, by omega⟩)) (by omega))
/-- one more notice -/
theorem PS.more (h : PS cs L f ad t lm nN nM ns ms rt pg) {L' : List Nat} {f' : Nat → va_E} {q q1 q2 q3 : Nat} {n' : NS} (h6 : nN < 6) (hL : ∀ a ∈ L, a ∈ L') (hn : (q ∉ L ∧ q1 ∉ L ∧ q2 ∉ L ∧ q3 ∉ L) ∧ q ≠ q1 ∧ q ≠ q2 ∧ q ≠ q3)
    (hN : NT cs L' f' q q1 q2 q3 n'.1 n'.2.1 n'.2.2.1 n'.2.2.2.1 n'.2.2.2.2.1 n'.2.2.2.2.2.1 n'.2.2.2.2.2.2)
    (hf : ∀ r, ps_use nN nM r → 1 < r → f' (ad r) = f (ad r)) (h0 : f' (ad 0) = ps_0 ad t lm (nN + 1) nM) (h1 : f' (ad 1) = .inl (cs 4, 6, .inr (.inr (.inr (.inr (va_up (ps_g ad 8 4 nN) nN (some q))))))) :
    ∃ ad', ad' 0 = ad 0 ∧ PS cs L' f' ad' t lm (nN + 1) nM (va_up ns nN n') ms rt pg := by
  obtain ⟨⟨a0, a1, a2, a3⟩, b1, b2, b3⟩ := hn
  obtain ⟨⟨c0, c1, c2, c3⟩, ⟨d0, d1, d2, d3⟩, n12, n13, n23⟩ := hN
  refine ⟨fun r => if r = 8 + 4 * nN then q else if r = 9 + 4 * nN then q1 else if r = 10 + 4 * nN then q2 else if r = 11 + 4 * nN then q3 else ad r, by simp only [show ¬ 0 = 8 + 4 * nN by omega, show ¬ 0 = 9 + 4 * nN by omega, show ¬ 0 = 10 + 4 * nN by omega, show ¬ 0 = 11 + 4 * nN by omega, if_false], ?_⟩
  have hM12 := h.nM12
  generalize hA : (fun r => if r = 8 + 4 * nN then q else if r = 9 + 4 * nN then q1 else if r = 10 + 4 * nN then q2 else if r = 11 + 4 * nN then q3 else ad r) = A
  have A0 : A (8 + 4 * nN) = q := by rw [← hA]; simp
  have A1 : A (9 + 4 * nN) = q1 := by rw [← hA]; simp
  have A2 : A (10 + 4 * nN) = q2 := by rw [← hA]; simp
  have A3 : A (11 + 4 * nN) = q3 := by rw [← hA]; simp
  have Ar : ∀ r, (r < 8 + 4 * nN ∨ 12 + 4 * nN ≤ r) → A r = ad r := fun r hr => by
    rw [← hA]
    simp only [show ¬ r = 8 + 4 * nN by omega, show ¬ r = 9 + 4 * nN by omega, show ¬ r = 10 + 4 * nN by omega, show ¬ r = 11 + 4 * nN by omega, if_false]
  have cases4 : ∀ r, ps_use (nN + 1) nM r → ps_use nN nM r ∧ A r = ad r ∨ (r = 8 + 4 * nN ∧ A r = q) ∨ (r = 9 + 4 * nN ∧ A r = q1) ∨ (r = 10 + 4 * nN ∧ A r = q2) ∨ (r = 11 + 4 * nN ∧ A r = q3) := by
    intro r hr
    by_cases e0 : r = 8 + 4 * nN
    · exact Or.inr (Or.inl ⟨e0, by rw [e0, A0]⟩)
    by_cases e1 : r = 9 + 4 * nN
    · exact Or.inr (Or.inr (Or.inl ⟨e1, by rw [e1, A1]⟩))
    by_cases e2 : r = 10 + 4 * nN
    · exact Or.inr (Or.inr (Or.inr (Or.inl ⟨e2, by rw [e2, A2]⟩)))
    by_cases e3 : r = 11 + 4 * nN
    · exact Or.inr (Or.inr (Or.inr (Or.inr ⟨e3, by rw [e3, A3]⟩)))
    refine Or.inl ⟨?_, Ar r (by omega)⟩
    unfold ps_use at hr ⊢
    omega
  have mem : ∀ r, ps_use (nN + 1) nM r → A r ∈ L' := by
    intro r hr
    rcases cases4 r hr with ⟨u, e⟩ | ⟨-, e⟩ | ⟨-, e⟩ | ⟨-, e⟩ | ⟨-, e⟩ <;> rw [e]
    · exact hL _ (h.mem u)
    · exact c0
    · exact c1
    · exact c2
    · exact c3
  refine ⟨⟨by omega, h.nM12⟩, mem, ?_, ?_, ?_, ?_, ?_, ⟨?_, h.p8⟩, ?_, ?_⟩
  · intro r r' hr hr' e
    have fresh : ∀ x, (x = 8 + 4 * nN ∧ A x = q) ∨ (x = 9 + 4 * nN ∧ A x = q1) ∨ (x = 10 + 4 * nN ∧ A x = q2) ∨ (x = 11 + 4 * nN ∧ A x = q3) → A x ∉ L := by
      intro x hx
      rcases hx with ⟨-, e⟩ | ⟨-, e⟩ | ⟨-, e⟩ | ⟨-, e⟩ <;> rw [e] <;> assumption
    rcases cases4 r hr with ⟨u, e1⟩ | v <;> rcases cases4 r' hr' with ⟨u', e1'⟩ | v'
    · exact h.2.2.1 r r' u u' (by rw [← e1, ← e1']; exact e)
    · exact absurd (by rw [← e, e1]; exact h.mem u) (fresh r' v')
    · exact absurd (by rw [e, e1']; exact h.mem u') (fresh r v)
    · rcases v with ⟨u, e1⟩ | ⟨u, e1⟩ | ⟨u, e1⟩ | ⟨u, e1⟩ <;> rcases v' with ⟨u', e1'⟩ | ⟨u', e1'⟩ | ⟨u', e1'⟩ | ⟨u', e1'⟩ <;> rw [e1, e1'] at e <;> first
        | exact u.trans u'.symm
        | exact absurd e b1
        | exact absurd e b2
        | exact absurd e b3
        | exact absurd e n12
        | exact absurd e n13
        | exact absurd e n23
        | exact absurd e.symm b1
        | exact absurd e.symm b2
        | exact absurd e.symm b3
        | exact absurd e.symm n12
        | exact absurd e.symm n13
        | exact absurd e.symm n23
  · rw [Ar 0 (by omega), h0]
    unfold ps_0
    rw [Ar 1 (by omega), Ar 2 (by omega), Ar 3 (by omega), Ar 4 (by omega)]
  · have eg : va_up (ps_g ad 8 4 nN) nN (some q) = ps_g A 8 4 (nN + 1) := by
      funext k
      unfold ps_g va_up
      by_cases e : k = nN
      · subst e; simp [A0]
      · by_cases e2 : k < nN
        · simp [e, e2, show k < nN + 1 by omega, Ar (8 + 4 * k) (by omega)]
        · simp [e, e2, show ¬ k < nN + 1 by omega]
    rw [Ar 1 (by omega), h1, eg]
  · have eg : ps_g ad 32 2 nM = ps_g A 32 2 nM := by
      funext k
      unfold ps_g
      by_cases e2 : k < nM
      · simp [e2, Ar (32 + 2 * k) (by omega)]
      · simp [e2]
    rw [Ar 2 (by omega), hf 2 (pu_lo (by decide)) (by decide), h.e2, eg]
  · rw [Ar 3 (by omega), hf 3 (pu_lo (by decide)) (by decide), h.e3]
  · rw [Ar 4 (by omega), Ar 5 (by omega)]
    exact ⟨⟨hL _ h.pp.1.1, hL _ h.pp.1.2⟩, (hf 4 (pu_lo (by decide)) (by decide)).trans h.pp.2.1, (hf 5 (pu_lo (by decide)) (by decide)).trans h.pp.2.2⟩
  · intro i hi
    by_cases e : i = nN
    · subst e
      rw [va_up_self]
      unfold NTi
      rw [A0, A1, A2, A3]
      exact ⟨⟨c0, c1, c2, c3⟩, ⟨d0, d1, d2, d3⟩, n12, n13, n23⟩
    · rw [va_up_ne _ _ e]
      exact (h.nt (show i < nN by omega)).kept hL (fun r h1 h2 => Ar r (by omega)) (fun r h1 h2 => hf r (Or.inr (Or.inl ⟨by omega, by omega⟩)) (by omega))
  · intro j hj
    exact (h.mv hj).kept hL (fun r h1 h2 => Ar r (by omega)) (fun r h1 h2 => hf r (Or.inr (Or.inr ⟨by omega, by omega⟩)) (by omega))
/-- one more move -/
theorem PS.moreM (h : PS cs L f ad t lm nN nM ns ms rt pg) {L' : List Nat} {f' : Nat → va_E} {q q1 : Nat} {m' : MS} (h6 : nM < 12) (hL : ∀ a ∈ L, a ∈ L') (hn : q ∉ L ∧ q1 ∉ L ∧ q ≠ q1) (hc : m'.2.2.2.2.1 ≤ 6)
    (hM : MV cs L' f' q q1 m'.1 m'.2.1 m'.2.2.1 m'.2.2.2.1 m'.2.2.2.2.1 m'.2.2.2.2.2.1 m'.2.2.2.2.2.2.1 m'.2.2.2.2.2.2.2)
    (hf : ∀ r, ps_use nN nM r → r ≠ 0 → r ≠ 2 → f' (ad r) = f (ad r)) (h0 : f' (ad 0) = ps_0 ad t lm nN (nM + 1)) (h1 : f' (ad 2) = .inl (cs 5, 12, .inr (.inr (.inr (.inr (va_up (ps_g ad 32 2 nM) nM (some q))))))) :
    ∃ ad', ad' 0 = ad 0 ∧ PS cs L' f' ad' t lm nN (nM + 1) ns (va_up ms nM m') rt pg := by
  obtain ⟨a0, a1, b1⟩ := hn
  obtain ⟨⟨c0, c1⟩, d0, d1⟩ := hM
  refine ⟨fun r => if r = 32 + 2 * nM then q else if r = 33 + 2 * nM then q1 else ad r, by simp only [show ¬ 0 = 32 + 2 * nM by omega, show ¬ 0 = 33 + 2 * nM by omega, if_false], ?_⟩
  have hN6 := h.nN6
  generalize hA : (fun r => if r = 32 + 2 * nM then q else if r = 33 + 2 * nM then q1 else ad r) = A
  have A0 : A (32 + 2 * nM) = q := by rw [← hA]; simp
  have A1 : A (33 + 2 * nM) = q1 := by rw [← hA]; simp
  have Ar : ∀ r, (r < 32 + 2 * nM ∨ 34 + 2 * nM ≤ r) → A r = ad r := fun r hr => by
    rw [← hA]
    simp only [show ¬ r = 32 + 2 * nM by omega, show ¬ r = 33 + 2 * nM by omega, if_false]
  have cases4 : ∀ r, ps_use nN (nM + 1) r → ps_use nN nM r ∧ A r = ad r ∨ (r = 32 + 2 * nM ∧ A r = q) ∨ (r = 33 + 2 * nM ∧ A r = q1) := by
    intro r hr
    by_cases e0 : r = 32 + 2 * nM
    · exact Or.inr (Or.inl ⟨e0, by rw [e0, A0]⟩)
    by_cases e1 : r = 33 + 2 * nM
    · exact Or.inr (Or.inr ⟨e1, by rw [e1, A1]⟩)
    refine Or.inl ⟨?_, Ar r (by omega)⟩
    unfold ps_use at hr ⊢
    omega
  have mem : ∀ r, ps_use nN (nM + 1) r → A r ∈ L' := by
    intro r hr
    rcases cases4 r hr with ⟨u, e⟩ | ⟨-, e⟩ | ⟨-, e⟩ <;> rw [e]
    · exact hL _ (h.mem u)
    · exact c0
    · exact c1
  refine ⟨⟨h.nN6, by omega⟩, mem, ?_, ?_, ?_, ?_, ?_, ⟨?_, h.p8⟩, ?_, ?_⟩
  · intro r r' hr hr' e
    have fresh : ∀ x, (x = 32 + 2 * nM ∧ A x = q) ∨ (x = 33 + 2 * nM ∧ A x = q1) → A x ∉ L := by
      intro x hx
      rcases hx with ⟨-, e⟩ | ⟨-, e⟩ <;> rw [e] <;> assumption
    rcases cases4 r hr with ⟨u, e1⟩ | v <;> rcases cases4 r' hr' with ⟨u', e1'⟩ | v'
    · exact h.2.2.1 r r' u u' (by rw [← e1, ← e1']; exact e)
    · exact absurd (by rw [← e, e1]; exact h.mem u) (fresh r' v')
    · exact absurd (by rw [e, e1']; exact h.mem u') (fresh r v)
    · rcases v with ⟨u, e1⟩ | ⟨u, e1⟩ <;> rcases v' with ⟨u', e1'⟩ | ⟨u', e1'⟩ <;> rw [e1, e1'] at e <;> first
        | exact u.trans u'.symm
        | exact absurd e b1
        | exact absurd e.symm b1
  · rw [Ar 0 (by omega), h0]
    unfold ps_0
    rw [Ar 1 (by omega), Ar 2 (by omega), Ar 3 (by omega), Ar 4 (by omega)]
  · have eg : ps_g ad 8 4 nN = ps_g A 8 4 nN := by
      funext k
      unfold ps_g
      by_cases e2 : k < nN
      · simp [e2, Ar (8 + 4 * k) (by omega)]
      · simp [e2]
    rw [Ar 1 (by omega), hf 1 (pu_lo (by decide)) (by decide) (by decide), h.e1, eg]
  · have eg : va_up (ps_g ad 32 2 nM) nM (some q) = ps_g A 32 2 (nM + 1) := by
      funext k
      unfold ps_g va_up
      by_cases e : k = nM
      · subst e; simp [A0]
      · by_cases e2 : k < nM
        · simp [e, e2, show k < nM + 1 by omega, Ar (32 + 2 * k) (by omega)]
        · simp [e, e2, show ¬ k < nM + 1 by omega]
    rw [Ar 2 (by omega), h1, eg]
  · rw [Ar 3 (by omega), hf 3 (pu_lo (by decide)) (by decide) (by decide), h.e3]
  · rw [Ar 4 (by omega), Ar 5 (by omega)]
    exact ⟨⟨hL _ h.pp.1.1, hL _ h.pp.1.2⟩, (hf 4 (pu_lo (by decide)) (by decide) (by decide)).trans h.pp.2.1, (hf 5 (pu_lo (by decide)) (by decide) (by decide)).trans h.pp.2.2⟩
  · intro i hi
    exact (h.nt hi).kept hL (fun r h1 h2 => Ar r (by omega)) (fun r h1 h2 => hf r (Or.inr (Or.inl ⟨by omega, by omega⟩)) (by omega) (by omega))
  · intro j hj
    by_cases e : j = nM
    · subst e
      rw [va_up_self]
      unfold MVi
      rw [A0, A1]
      exact ⟨⟨⟨c0, c1⟩, d0, d1⟩, hc⟩
    · rw [va_up_ne _ _ e]
      exact (h.mv (show j < nM by omega)).kept hL (fun r h1 h2 => Ar r (by omega)) (fun r h1 h2 => hf r (Or.inr (Or.inr ⟨by omega, by omega⟩)) (by omega) (by omega))
end PSL
/-- the index that an int is, below m -/
def ix (m : Nat) (n : Int32) : Option Nat := if n < 0 then none else if n < nI m then some n.toNatClampNeg else none
theorem ix_cases {m : Nat} (hm : m < 2 ^ 31) (n : Int32) : (ix m n = none ∧ (n < 0 ∨ ¬ n < nI m)) ∨ ∃ i, i < m ∧ n = nI i ∧ ix m n = some i ∧ ¬ n < 0 ∧ n < nI m := by
  unfold ix
  by_cases h0 : n < 0
  · exact Or.inl ⟨if_pos h0, Or.inl h0⟩
  · by_cases h1 : n < nI m
    · obtain ⟨i, hi, rfl⟩ := nI_of h0
      refine Or.inr ⟨i, (nI_ltI hi hm).mp h1, rfl, ?_, h0, h1⟩
      rw [if_neg h0, if_pos h1, nI_clamp hi]
    · exact Or.inl ⟨by rw [if_neg h0, if_neg h1], Or.inr h1⟩
theorem ix_nI {m i : Nat} (hi : i < m) (hm : m < 2 ^ 31) : ix m (nI i) = some i := by
  unfold ix
  rw [if_neg (nI_pos (by omega)), if_pos (nI_lt hi hm), nI_clamp (by omega)]
end
section
/-! THE CLASS'S METHODS as functions of its value -/
abbrev CST : Type := Int32 × Int32 × Nat × Nat × (Nat → NS) × (Nat → MS) × (Nat → Int32)
def PSx (cs : Nat → ClassId) (L : List Nat) (f : Nat → va_E) (ad : Nat → Nat) (x : CST) (pg : sp_P) : Prop := PS cs L f ad x.1 x.2.1 x.2.2.1 x.2.2.2.1 x.2.2.2.2.1 x.2.2.2.2.2.1 x.2.2.2.2.2.2 pg
abbrev n_gr (n : NS) : Int64 := n.1
abbrev n_to (n : NS) : Int32 := n.2.2.1
abbrev n_an (n : NS) : Nat → Int32 := n.2.2.2.1
abbrev n_ct (n : NS) : Int64 := n.2.2.2.2.2.2
abbrev m_no (m : MS) : Int32 := m.1
abbrev m_gr (m : MS) : Int64 := m.2.1
abbrev m_dy (m : MS) : Int32 := m.2.2.1
abbrev m_st (m : MS) : Int32 := m.2.2.2.2.2.1
abbrev m_si (m : MS) : Int32 := m.2.2.2.2.2.2.1
abbrev m_mk (m : MS) : Int32 := m.2.2.2.2.2.2.2
def sp_in (m : Nat) (p : Int32) : Int32 := if p < 0 then 0 else if nI m ≤ p then 0 else 1
theorem sp_in_cases {m : Nat} (hm : m < 2 ^ 31) (p : Int32) : (ix m p = none ∧ sp_in m p = 0) ∨ ∃ a, a < m ∧ p = nI a ∧ ix m p = some a ∧ sp_in m p = 1 := by
  rcases ix_cases hm p with ⟨h, h1 | h1⟩ | ⟨i, hi, e, h, h0, h1⟩
  · exact Or.inl ⟨h, if_pos h1⟩
  · refine Or.inl ⟨h, ?_⟩
    unfold sp_in
    split
    · rfl
    · exact if_pos (Int32.not_lt.mp h1)
  · refine Or.inr ⟨i, hi, e, h, ?_⟩
    unfold sp_in
    rw [if_neg h0, if_neg (Int32.not_le.mpr h1)]
def sC_state (t : Int32) (nN : Nat) (ns : Nat → NS) (n : Int32) : Int32 := match ix nN n with
  | none => -1
  | some i => sp_state (n_an (ns i)) (n_to (ns i)) t
def sC_mst (nM : Nat) (ms : Nat → MS) (n : Int32) : Int32 := match ix nM n with
  | none => -1
  | some j => m_st (ms j)
def sC_may (rt : Nat → Int32) (p e : Int32) : Int32 := match ix 8 p with
  | none => 0
  | some a => match ix 5 e with
    | none => 0
    | some b => if rt (a * 5 + b) = 0 then 0 else 1
def sC_next (e st : Int32) : Int32 := match ix 5 e with
  | none => -1
  | some b => match ix 6 st with
    | none => -1
    | some k => sp_leads (b * 6 + k)
def sC_can (t : Int32) (nN : Nat) (ns : Nat → NS) (m : MS) : Int32 := match ix nN (m_no m) with
  | none => 0
  | some i => if t < m_dy m then 0 else if sp_state (n_an (ns i)) (n_to (ns i)) t = 1 then 1 else 0
def sC_isl (t lm : Int32) (m : MS) : Int32 := if m_st m = 2 then (if t - m_si m ≤ lm then 0 else 1) else 0
def sC_gim (ms : Nat → MS) (n : Int32) : Nat → Int64
  | 0 => 0
  | k + 1 => if m_no (ms k) = n then (if sp_uses (m_st (ms k)) = 0 then sC_gim ms n k else sC_gim ms n k + m_gr (ms k)) else sC_gim ms n k
def sC_rec (ms : Nat → MS) (n : Int32) : Nat → Int64
  | 0 => 0
  | k + 1 => if m_no (ms k) = n then (if m_st (ms k) = 3 then sC_rec ms n k + m_gr (ms k) else sC_rec ms n k) else sC_rec ms n k
def sC_share (sum part whole : Int64) : Int64 := if whole < 1 then 0 else sum / whole * part + (sum - sum / whole * whole) * part / whole + (if (sum - sum / whole * whole) * part - (sum - sum / whole * whole) * part / whole * whole = 0 then 0 else 1)
def sC_left (nN nM : Nat) (ns : Nat → NS) (ms : Nat → MS) (n : Int32) : Int64 := match ix nN n with
  | none => -1
  | some i => n_gr (ns i) - sC_gim ms n nM
def sC_held (nN nM : Nat) (ns : Nat → NS) (ms : Nat → MS) (n : Int32) : Int64 := match ix nN n with
  | none => -1
  | some i => sC_share (n_ct (ns i)) (n_gr (ns i) - sC_rec ms n nM) (n_gr (ns i))
/-- the rest of the search from move m on, b seen before -/
def sC_lt (t lm : Int32) (ms : Nat → MS) (k : Int32) : Nat → Nat → Int32 → Int32
  | 0, _, _ => -1
  | r + 1, m, b => if sC_isl t lm (ms m) = 0 then sC_lt t lm ms k r (m + 1) b else if b = k then nI m else sC_lt t lm ms k r (m + 1) (b + 1)
def sC_back (nM : Nat) (ms : Nat → MS) (n k : Int32) : Int32 := match ix nM n with
  | none => -1
  | some j => sp_back (ms j).2.2.2.1 (ms j).2.2.2.2.1 k
theorem nb_01 {r : Int32} (h : r = 0 ∨ r = 1) : narrow .boolean (.int r) = .int r := by
  rcases h with h | h <;> rw [h] <;> rfl
theorem nar_may (rt : Nat → Int32) (p e : Int32) : sC_may rt p e = 0 ∨ sC_may rt p e = 1 := by
  unfold sC_may
  split
  · exact Or.inl rfl
  · split
    · exact Or.inl rfl
    · split
      · exact Or.inl rfl
      · exact Or.inr rfl
theorem rt_ix {a b : Nat} (ha : a < 8) (hb : b < 5) : nI a * 5 + nI b = nI (a * 5 + b) := by
  rw [show (5 : Int32) = nI 5 from rfl, pk_mul, nI_add]
theorem ld_ix {a b : Nat} (ha : a < 5) (hb : b < 6) : nI a * 6 + nI b = nI (a * 6 + b) := by
  rw [show (6 : Int32) = nI 6 from rfl, pk_mul, nI_add]
end
section
/-! The class: methods that only read. Laid by wip/gen/creads.py. -/
set_option maxHeartbeats 4000000 in
set_option maxRecDepth 100000 in
theorem k_C_nAt (l : Launch) (G : va_G) (cs : Nat → ClassId) (L : List Nat) (f : Nat → va_E) (ad : Nat → Nat) (t lm : Int32) (nN nM : Nat) (ns : Nat → NS) (ms : Nat → MS) (rt : Nat → Int32) (pg : sp_P) (n : Int32) (h0 : PS cs L f ad t lm nN nM ns ms rt pg) : Met l yX3_noticeAt (Cond.code yX3_noticeAt cX3_noticeAt 2 (some (FieldType.object "PaperStates$Notice")) :: wg) ({ frames := 0, cells := 0, slots := 0, locals := 0 }) (pr_P [.ref (ad 0), .int n] G vwCl (tyl cs) L f (fun _ => True)) (va_Sq (fun r => r = (ix nN n).map (fun i => ad (8 + 4 * i)))) 0 0 (fun _ => False) := by
  refine Met.ofW (cc := cX3_noticeAt) (maxL := 2) (ret := (some (FieldType.object "PaperStates$Notice"))) (by decide) rfl ?_
  intro p e s m args below meth c s₁ B hml hv
  obtain ⟨rfl, hP, hK, hX⟩ := hv
  have hx := B.exec
  have hb := B.bytes
  have hr := B.returns
  have hts0 := atoms_spec (ws := (Cond.code yX3_noticeAt cX3_noticeAt 2 (some (FieldType.object "PaperStates$Notice")) :: wg)) B.pre
  have hts := fun (w : Cond) (h : w ∈ wg) => hts0 w (List.mem_cons_of_mem _ h)
  have hown : s.vm.findClass RX3 = some m.cls := findClass_of_methodNamed B.named
  have hlocks := B.notSynchronized
  have hl := lv_entry ([.ref (ad 0), .int n]) (n := 2) (Nat.le_of_ble_eq_true rfl)
  rw [lg_entry_eq]
  generalize (lg_sl ([.ref (ad 0), .int n]) ++ List.replicate (2 - (lg_sl ([.ref (ad 0), .int n])).length) Slot.unset).toArray = ls at hl ⊢
  have hl : lv_has ls 2 [(0, .ref (ad 0)), (1, .int n)] := hl
  have hN6 := h0.nN6
  have hM12 := h0.nM12
  have m0 := h0.mem (pu_lo (r := 0) (by decide))
  have e0 := h0.e0
  have m1 := h0.mem (pu_lo (r := 1) (by decide))
  have e1 := h0.e1
  have m2 := h0.mem (pu_lo (r := 2) (by decide))
  have e2 := h0.e2
  have m3 := h0.mem (pu_lo (r := 3) (by decide))
  have e3 := h0.e3
  refine lv_iload_n hx hb dX3_noticeAt_0 rfl (lv_at hl 1 rfl) ?_
  refine lv_if_lt (tgt := 12) hx hb dX3_noticeAt_1 (by decide) (fun c_1 => ?_) (fun c_1 => ?_)
  · refine lv_null hx hb dX3_noticeAt_12 ?_
    refine lv_goto (tgt := 22) hx hb dX3_noticeAt_13 (by decide) ?_
    exact pr_retq (r := none) hx hb hr hlocks dX3_noticeAt_22 (by simp [ix, c_1])
  · refine lv_iload_n hx hb dX3_noticeAt_4 rfl (lv_at hl 1 rfl) ?_
    refine lv_aload_n hx hb dX3_noticeAt_5 rfl (lv_at hl 0 rfl) ?_
    refine pw_get (ci := 3) (C := RX3) (T := TX3) (N := 8) hx hb hts inX3 hown hK hP m0 e0 rfl 4 (by decide) (hts _ mw_37) (fun _ h9 => h9) rfl dX3_noticeAt_6 ?_
    refine lv_icmp_lt (tgt := 16) hx hb dX3_noticeAt_9 (by decide) (fun c_9 => ?_) (fun c_9 => ?_)
    · obtain ⟨i, hi, rfl⟩ : ∃ i, i < nN ∧ n = nI i := by
          obtain ⟨i, h1, rfl⟩ := nI_of c_1
          exact ⟨i, (nI_ltI h1 (by omega)).mp c_9, rfl⟩
      refine lv_aload_n hx hb dX3_noticeAt_16 rfl (lv_at hl 0 rfl) ?_
      refine pw_get (ci := 3) (C := RX3) (T := TX3) (N := 8) hx hb hts inX3 hown hK hP m0 e0 rfl 0 (by decide) (hts _ mw_33) (fun _ h9 => h9) rfl dX3_noticeAt_17 ?_
      refine lv_iload_n hx hb dX3_noticeAt_20 rfl (lv_at hl 1 rfl) ?_
      refine pw_aldqN (k := i) hx hb hK hP m1 4 e1 rfl (by omega) (by decide) dX3_noticeAt_21 ?_
      exact pr_retq hx hb hr hlocks dX3_noticeAt_22 (by rw [ix_nI hi (by omega)]; exact if_pos hi)
    · refine lv_null hx hb dX3_noticeAt_12 ?_
      refine lv_goto (tgt := 22) hx hb dX3_noticeAt_13 (by decide) ?_
      exact pr_retq (r := none) hx hb hr hlocks dX3_noticeAt_22 (by simp [ix, c_1, c_9])

set_option maxHeartbeats 4000000 in
set_option maxRecDepth 100000 in
theorem k_C_mAt (l : Launch) (G : va_G) (cs : Nat → ClassId) (L : List Nat) (f : Nat → va_E) (ad : Nat → Nat) (t lm : Int32) (nN nM : Nat) (ns : Nat → NS) (ms : Nat → MS) (rt : Nat → Int32) (pg : sp_P) (n : Int32) (h0 : PS cs L f ad t lm nN nM ns ms rt pg) : Met l yX3_moveAt (Cond.code yX3_moveAt cX3_moveAt 2 (some (FieldType.object "PaperStates$Move")) :: wg) ({ frames := 0, cells := 0, slots := 0, locals := 0 }) (pr_P [.ref (ad 0), .int n] G vwCl (tyl cs) L f (fun _ => True)) (va_Sq (fun r => r = (ix nM n).map (fun i => ad (32 + 2 * i)))) 0 0 (fun _ => False) := by
  refine Met.ofW (cc := cX3_moveAt) (maxL := 2) (ret := (some (FieldType.object "PaperStates$Move"))) (by decide) rfl ?_
  intro p e s m args below meth c s₁ B hml hv
  obtain ⟨rfl, hP, hK, hX⟩ := hv
  have hx := B.exec
  have hb := B.bytes
  have hr := B.returns
  have hts0 := atoms_spec (ws := (Cond.code yX3_moveAt cX3_moveAt 2 (some (FieldType.object "PaperStates$Move")) :: wg)) B.pre
  have hts := fun (w : Cond) (h : w ∈ wg) => hts0 w (List.mem_cons_of_mem _ h)
  have hown : s.vm.findClass RX3 = some m.cls := findClass_of_methodNamed B.named
  have hlocks := B.notSynchronized
  have hl := lv_entry ([.ref (ad 0), .int n]) (n := 2) (Nat.le_of_ble_eq_true rfl)
  rw [lg_entry_eq]
  generalize (lg_sl ([.ref (ad 0), .int n]) ++ List.replicate (2 - (lg_sl ([.ref (ad 0), .int n])).length) Slot.unset).toArray = ls at hl ⊢
  have hl : lv_has ls 2 [(0, .ref (ad 0)), (1, .int n)] := hl
  have hN6 := h0.nN6
  have hM12 := h0.nM12
  have m0 := h0.mem (pu_lo (r := 0) (by decide))
  have e0 := h0.e0
  have m1 := h0.mem (pu_lo (r := 1) (by decide))
  have e1 := h0.e1
  have m2 := h0.mem (pu_lo (r := 2) (by decide))
  have e2 := h0.e2
  have m3 := h0.mem (pu_lo (r := 3) (by decide))
  have e3 := h0.e3
  refine lv_iload_n hx hb dX3_moveAt_0 rfl (lv_at hl 1 rfl) ?_
  refine lv_if_lt (tgt := 12) hx hb dX3_moveAt_1 (by decide) (fun c_1 => ?_) (fun c_1 => ?_)
  · refine lv_null hx hb dX3_moveAt_12 ?_
    refine lv_goto (tgt := 22) hx hb dX3_moveAt_13 (by decide) ?_
    exact pr_retq (r := none) hx hb hr hlocks dX3_moveAt_22 (by simp [ix, c_1])
  · refine lv_iload_n hx hb dX3_moveAt_4 rfl (lv_at hl 1 rfl) ?_
    refine lv_aload_n hx hb dX3_moveAt_5 rfl (lv_at hl 0 rfl) ?_
    refine pw_get (ci := 3) (C := RX3) (T := TX3) (N := 8) hx hb hts inX3 hown hK hP m0 e0 rfl 5 (by decide) (hts _ mw_38) (fun _ h9 => h9) rfl dX3_moveAt_6 ?_
    refine lv_icmp_lt (tgt := 16) hx hb dX3_moveAt_9 (by decide) (fun c_9 => ?_) (fun c_9 => ?_)
    · obtain ⟨i, hi, rfl⟩ : ∃ i, i < nM ∧ n = nI i := by
          obtain ⟨i, h1, rfl⟩ := nI_of c_1
          exact ⟨i, (nI_ltI h1 (by omega)).mp c_9, rfl⟩
      refine lv_aload_n hx hb dX3_moveAt_16 rfl (lv_at hl 0 rfl) ?_
      refine pw_get (ci := 3) (C := RX3) (T := TX3) (N := 8) hx hb hts inX3 hown hK hP m0 e0 rfl 1 (by decide) (hts _ mw_34) (fun _ h9 => h9) rfl dX3_moveAt_17 ?_
      refine lv_iload_n hx hb dX3_moveAt_20 rfl (lv_at hl 1 rfl) ?_
      refine pw_aldqN (k := i) hx hb hK hP m2 5 e2 rfl (by omega) (by decide) dX3_moveAt_21 ?_
      exact pr_retq hx hb hr hlocks dX3_moveAt_22 (by rw [ix_nI hi (by omega)]; exact if_pos hi)
    · refine lv_null hx hb dX3_moveAt_12 ?_
      refine lv_goto (tgt := 22) hx hb dX3_moveAt_13 (by decide) ?_
      exact pr_retq (r := none) hx hb hr hlocks dX3_moveAt_22 (by simp [ix, c_1, c_9])

set_option maxHeartbeats 4000000 in
set_option maxRecDepth 100000 in
theorem k_C_isP (l : Launch) (G : va_G) (cs : Nat → ClassId) (L : List Nat) (f : Nat → va_E) (n : Int32) : Met l yX3_isPerson (Cond.code yX3_isPerson cX3_isPerson 1 (some FieldType.boolean) :: wg) ({ frames := 0, cells := 0, slots := 0, locals := 0 }) (pr_P [.int n] G vwCl (tyl cs) L f (fun _ => True)) (vp_Si (fun r => r = sp_in 8 n)) 0 0 (fun _ => False) := by
  refine Met.ofW (cc := cX3_isPerson) (maxL := 1) (ret := (some FieldType.boolean)) (by decide) rfl ?_
  intro p e s m args below meth c s₁ B hml hv
  obtain ⟨rfl, hP, hK, hX⟩ := hv
  have hx := B.exec
  have hb := B.bytes
  have hr := B.returns
  have hts0 := atoms_spec (ws := (Cond.code yX3_isPerson cX3_isPerson 1 (some FieldType.boolean) :: wg)) B.pre
  have hts := fun (w : Cond) (h : w ∈ wg) => hts0 w (List.mem_cons_of_mem _ h)
  have hown : s.vm.findClass RX3 = some m.cls := findClass_of_methodNamed B.named
  have hlocks := B.notSynchronized
  have hl := lv_entry ([.int n]) (n := 1) (Nat.le_of_ble_eq_true rfl)
  rw [lg_entry_eq]
  generalize (lg_sl ([.int n]) ++ List.replicate (1 - (lg_sl ([.int n])).length) Slot.unset).toArray = ls at hl ⊢
  have hl : lv_has ls 1 [(0, .int n)] := hl
  refine lv_iload_n hx hb dX3_isPerson_0 rfl (lv_at hl 0 rfl) ?_
  refine lv_if_lt (tgt := 14) hx hb dX3_isPerson_1 (by decide) (fun c_1 => ?_) (fun c_1 => ?_)
  · refine lv_iconst (v := 0) hx hb dX3_isPerson_14 (by decide) ?_
    exact pr_retz hx hb hr rfl hlocks dX3_isPerson_15 (by simp [sp_in, show nI 8 = 8 from rfl, c_1])
  · refine lv_iload_n hx hb dX3_isPerson_4 rfl (lv_at hl 0 rfl) ?_
    refine lv_bipush (v := 8) hx hb dX3_isPerson_5 (by decide) ?_
    refine lv_icmp_ge (tgt := 14) hx hb dX3_isPerson_7 (by decide) (fun c_7 => ?_) (fun c_7 => ?_)
    · refine lv_iconst (v := 0) hx hb dX3_isPerson_14 (by decide) ?_
      exact pr_retz hx hb hr rfl hlocks dX3_isPerson_15 (by simp [sp_in, show nI 8 = 8 from rfl, c_1, c_7])
    · refine lv_iconst (v := 1) hx hb dX3_isPerson_10 (by decide) ?_
      refine lv_goto (tgt := 15) hx hb dX3_isPerson_11 (by decide) ?_
      exact pr_retz hx hb hr rfl hlocks dX3_isPerson_15 (by simp [sp_in, show nI 8 = 8 from rfl, c_1, c_7])

set_option maxHeartbeats 4000000 in
set_option maxRecDepth 100000 in
theorem k_C_isE (l : Launch) (G : va_G) (cs : Nat → ClassId) (L : List Nat) (f : Nat → va_E) (n : Int32) : Met l yX3_isEvent (Cond.code yX3_isEvent cX3_isEvent 1 (some FieldType.boolean) :: wg) ({ frames := 0, cells := 0, slots := 0, locals := 0 }) (pr_P [.int n] G vwCl (tyl cs) L f (fun _ => True)) (vp_Si (fun r => r = sp_in 5 n)) 0 0 (fun _ => False) := by
  refine Met.ofW (cc := cX3_isEvent) (maxL := 1) (ret := (some FieldType.boolean)) (by decide) rfl ?_
  intro p e s m args below meth c s₁ B hml hv
  obtain ⟨rfl, hP, hK, hX⟩ := hv
  have hx := B.exec
  have hb := B.bytes
  have hr := B.returns
  have hts0 := atoms_spec (ws := (Cond.code yX3_isEvent cX3_isEvent 1 (some FieldType.boolean) :: wg)) B.pre
  have hts := fun (w : Cond) (h : w ∈ wg) => hts0 w (List.mem_cons_of_mem _ h)
  have hown : s.vm.findClass RX3 = some m.cls := findClass_of_methodNamed B.named
  have hlocks := B.notSynchronized
  have hl := lv_entry ([.int n]) (n := 1) (Nat.le_of_ble_eq_true rfl)
  rw [lg_entry_eq]
  generalize (lg_sl ([.int n]) ++ List.replicate (1 - (lg_sl ([.int n])).length) Slot.unset).toArray = ls at hl ⊢
  have hl : lv_has ls 1 [(0, .int n)] := hl
  refine lv_iload_n hx hb dX3_isEvent_0 rfl (lv_at hl 0 rfl) ?_
  refine lv_if_lt (tgt := 13) hx hb dX3_isEvent_1 (by decide) (fun c_1 => ?_) (fun c_1 => ?_)
  · refine lv_iconst (v := 0) hx hb dX3_isEvent_13 (by decide) ?_
    exact pr_retz hx hb hr rfl hlocks dX3_isEvent_14 (by simp [sp_in, show nI 5 = 5 from rfl, c_1])
  · refine lv_iload_n hx hb dX3_isEvent_4 rfl (lv_at hl 0 rfl) ?_
    refine lv_iconst (v := 5) hx hb dX3_isEvent_5 (by decide) ?_
    refine lv_icmp_ge (tgt := 13) hx hb dX3_isEvent_6 (by decide) (fun c_6 => ?_) (fun c_6 => ?_)
    · refine lv_iconst (v := 0) hx hb dX3_isEvent_13 (by decide) ?_
      exact pr_retz hx hb hr rfl hlocks dX3_isEvent_14 (by simp [sp_in, show nI 5 = 5 from rfl, c_1, c_6])
    · refine lv_iconst (v := 1) hx hb dX3_isEvent_9 (by decide) ?_
      refine lv_goto (tgt := 14) hx hb dX3_isEvent_10 (by decide) ?_
      exact pr_retz hx hb hr rfl hlocks dX3_isEvent_14 (by simp [sp_in, show nI 5 = 5 from rfl, c_1, c_6])

set_option maxHeartbeats 4000000 in
set_option maxRecDepth 100000 in
theorem k_C_has (l : Launch) (G : va_G) (cs : Nat → ClassId) (L : List Nat) (f : Nat → va_E) (ad : Nat → Nat) (t lm : Int32) (nN nM : Nat) (ns : Nat → NS) (ms : Nat → MS) (rt : Nat → Int32) (pg : sp_P) (p_ e_ : Int32) (h0 : PS cs L f ad t lm nN nM ns ms rt pg) : Met l yX3_hasRight (Cond.code yX3_hasRight cX3_hasRight 3 (some FieldType.boolean) :: wg) ({ frames := 1, cells := 0, slots := 0, locals := 20 }) (pr_P [.ref (ad 0), .int p_, .int e_] G vwCl (tyl cs) L f (fun _ => True)) (vp_Si (fun r => r = sC_may rt p_ e_)) 0 0 (fun _ => False) := by
  refine Met.ofW (cc := cX3_hasRight) (maxL := 3) (ret := (some FieldType.boolean)) (by decide) rfl ?_
  intro p e s m args below meth c s₁ B hml hv
  obtain ⟨rfl, hP, hK, hX⟩ := hv
  have hx := B.exec
  have hb := B.bytes
  have hr := B.returns
  have hts0 := atoms_spec (ws := (Cond.code yX3_hasRight cX3_hasRight 3 (some FieldType.boolean) :: wg)) B.pre
  have hts := fun (w : Cond) (h : w ∈ wg) => hts0 w (List.mem_cons_of_mem _ h)
  have hown : s.vm.findClass RX3 = some m.cls := findClass_of_methodNamed B.named
  have hlocks := B.notSynchronized
  have hl := lv_entry ([.ref (ad 0), .int p_, .int e_]) (n := 3) (Nat.le_of_ble_eq_true rfl)
  rw [lg_entry_eq]
  generalize (lg_sl ([.ref (ad 0), .int p_, .int e_]) ++ List.replicate (3 - (lg_sl ([.ref (ad 0), .int p_, .int e_])).length) Slot.unset).toArray = ls at hl ⊢
  have hl : lv_has ls 3 [(0, .ref (ad 0)), (1, .int p_), (2, .int e_)] := hl
  have hN6 := h0.nN6
  have hM12 := h0.nM12
  have m0 := h0.mem (pu_lo (r := 0) (by decide))
  have e0 := h0.e0
  have m1 := h0.mem (pu_lo (r := 1) (by decide))
  have e1 := h0.e1
  have m2 := h0.mem (pu_lo (r := 2) (by decide))
  have e2 := h0.e2
  have m3 := h0.mem (pu_lo (r := 3) (by decide))
  have e3 := h0.e3
  refine lv_iload_n hx hb dX3_hasRight_0 rfl (lv_at hl 1 rfl) ?_
  refine pr_callSi (As := [.int p_]) (rest := []) ⟨hx, hb, hml, hown, hts⟩ (k_C_isP l G cs L f p_) (cwS 1 hts (wg_S mw_198 mw_199 mw_1 mw_200) rfl rfl rfl (by decide +kernel) ⟨Nat.le_of_ble_eq_true rfl, Nat.le_of_ble_eq_true rfl⟩) hK hP px_T (fun _ _ _ => trivial) rfl hl.1 rfl (lv_room (Nat.le_of_ble_eq_true rfl)) dX3_hasRight_1 ⟨Nat.le_of_ble_eq_true rfl, Nat.le_of_ble_eq_true rfl⟩ (fun r_1 hr_1 => ?_)
  rcases sp_in_cases (m := 8) (by decide) p_ with ⟨hxa, hsa⟩ | ⟨a, ha, ena, hxa, hsa⟩
  · obtain rfl : r_1 = 0 := by rw [hr_1, hsa]
    refine lv_if_eq (tgt := 31) hx hb dX3_hasRight_4 (by decide) (fun c_4 => ?_) (fun c_4 => ?_)
    · refine lv_iconst (v := 0) hx hb dX3_hasRight_31 (by decide) ?_
      exact pr_retz hx hb hr rfl hlocks dX3_hasRight_32 (by simp [sC_may, hxa])
    · exact absurd c_4 (by decide)
  · obtain rfl : r_1 = 1 := by rw [hr_1, hsa]
    refine lv_if_eq (tgt := 31) hx hb dX3_hasRight_4 (by decide) (fun c_4 => ?_) (fun c_4 => ?_)
    · exact absurd c_4 (by decide)
    · refine lv_iload_n hx hb dX3_hasRight_7 rfl (lv_at hl 2 rfl) ?_
      refine pr_callSi (As := [.int e_]) (rest := []) ⟨hx, hb, hml, hown, hts⟩ (k_C_isE l G cs L f e_) (cwS 1 hts (wg_S mw_201 mw_202 mw_1 mw_203) rfl rfl rfl (by decide +kernel) ⟨Nat.le_of_ble_eq_true rfl, Nat.le_of_ble_eq_true rfl⟩) hK hP px_T (fun _ _ _ => trivial) rfl hl.1 rfl (lv_room (Nat.le_of_ble_eq_true rfl)) dX3_hasRight_8 ⟨Nat.le_of_ble_eq_true rfl, Nat.le_of_ble_eq_true rfl⟩ (fun r_2 hr_2 => ?_)
      rcases sp_in_cases (m := 5) (by decide) e_ with ⟨hxb, hsb⟩ | ⟨b, hb_, enb, hxb, hsb⟩
      · obtain rfl : r_2 = 0 := by rw [hr_2, hsb]
        refine lv_if_eq (tgt := 31) hx hb dX3_hasRight_11 (by decide) (fun c_11 => ?_) (fun c_11 => ?_)
        · refine lv_iconst (v := 0) hx hb dX3_hasRight_31 (by decide) ?_
          exact pr_retz hx hb hr rfl hlocks dX3_hasRight_32 (by simp [sC_may, hxa, hxb])
        · exact absurd c_11 (by decide)
      · obtain rfl : r_2 = 1 := by rw [hr_2, hsb]
        refine lv_if_eq (tgt := 31) hx hb dX3_hasRight_11 (by decide) (fun c_11 => ?_) (fun c_11 => ?_)
        · exact absurd c_11 (by decide)
        · refine lv_aload_n hx hb dX3_hasRight_14 rfl (lv_at hl 0 rfl) ?_
          refine pw_get (ci := 3) (C := RX3) (T := TX3) (N := 8) hx hb hts inX3 hown hK hP m0 e0 rfl 2 (by decide) (hts _ mw_35) (fun _ h9 => h9) rfl dX3_hasRight_15 ?_
          refine lv_iload_n hx hb dX3_hasRight_18 rfl (lv_at hl 1 rfl) ?_
          refine lv_iconst (v := 5) hx hb dX3_hasRight_19 (by decide) ?_
          refine lv_imul hx hb dX3_hasRight_20 ?_
          refine lv_iload_n hx hb dX3_hasRight_21 rfl (lv_at hl 2 rfl) ?_
          refine lv_iadd hx hb dX3_hasRight_22 ?_
          have eix : p_ * 5 + e_ = nI (a * 5 + b) := by rw [ena, enb]; exact rt_ix ha hb_
          rw [eix]
          refine pw_zaldN (k := a * 5 + b) hx hb hK hP m3 2 e3 rfl (by omega) (by decide) dX3_hasRight_23 ?_
          refine lv_if_eq (tgt := 31) hx hb dX3_hasRight_24 (by decide) (fun c_24 => ?_) (fun c_24 => ?_)
          · refine lv_iconst (v := 0) hx hb dX3_hasRight_31 (by decide) ?_
            exact pr_retz hx hb hr rfl hlocks dX3_hasRight_32 (by simp [sC_may, hxa, hxb, c_24])
          · refine lv_iconst (v := 1) hx hb dX3_hasRight_27 (by decide) ?_
            refine lv_goto (tgt := 32) hx hb dX3_hasRight_28 (by decide) ?_
            exact pr_retz hx hb hr rfl hlocks dX3_hasRight_32 (by simp [sC_may, hxa, hxb, c_24])

set_option maxHeartbeats 4000000 in
set_option maxRecDepth 100000 in
theorem k_C_may (l : Launch) (G : va_G) (cs : Nat → ClassId) (L : List Nat) (f : Nat → va_E) (ad : Nat → Nat) (t lm : Int32) (nN nM : Nat) (ns : Nat → NS) (ms : Nat → MS) (rt : Nat → Int32) (pg : sp_P) (p_ e_ : Int32) (h0 : PS cs L f ad t lm nN nM ns ms rt pg) : Met l yX3_may (Cond.code yX3_may cX3_may 3 (some FieldType.boolean) :: wg) ({ frames := 2, cells := 0, slots := 0, locals := 42 }) (pr_P [.ref (ad 0), .int p_, .int e_] G vwCl (tyl cs) L f (fun _ => True)) (vp_Si (fun r => r = sC_may rt p_ e_)) 0 0 (fun _ => False) := by
  refine Met.ofW (cc := cX3_may) (maxL := 3) (ret := (some FieldType.boolean)) (by decide) rfl ?_
  intro p e s m args below meth c s₁ B hml hv
  obtain ⟨rfl, hP, hK, hX⟩ := hv
  have hx := B.exec
  have hb := B.bytes
  have hr := B.returns
  have hts0 := atoms_spec (ws := (Cond.code yX3_may cX3_may 3 (some FieldType.boolean) :: wg)) B.pre
  have hts := fun (w : Cond) (h : w ∈ wg) => hts0 w (List.mem_cons_of_mem _ h)
  have hown : s.vm.findClass RX3 = some m.cls := findClass_of_methodNamed B.named
  have hlocks := B.notSynchronized
  have hl := lv_entry ([.ref (ad 0), .int p_, .int e_]) (n := 3) (Nat.le_of_ble_eq_true rfl)
  rw [lg_entry_eq]
  generalize (lg_sl ([.ref (ad 0), .int p_, .int e_]) ++ List.replicate (3 - (lg_sl ([.ref (ad 0), .int p_, .int e_])).length) Slot.unset).toArray = ls at hl ⊢
  have hl : lv_has ls 3 [(0, .ref (ad 0)), (1, .int p_), (2, .int e_)] := hl
  have hN6 := h0.nN6
  have hM12 := h0.nM12
  have m0 := h0.mem (pu_lo (r := 0) (by decide))
  have e0 := h0.e0
  have m1 := h0.mem (pu_lo (r := 1) (by decide))
  have e1 := h0.e1
  have m2 := h0.mem (pu_lo (r := 2) (by decide))
  have e2 := h0.e2
  have m3 := h0.mem (pu_lo (r := 3) (by decide))
  have e3 := h0.e3
  refine lv_aload_n hx hb dX3_may_0 rfl (lv_at hl 0 rfl) ?_
  refine lv_iload_n hx hb dX3_may_1 rfl (lv_at hl 1 rfl) ?_
  refine lv_iload_n hx hb dX3_may_2 rfl (lv_at hl 2 rfl) ?_
  refine pr_callVi (As := [.int p_, .int e_]) (rest := []) ⟨hx, hb, hml, hown, hts⟩ (k_C_has l G cs L f ad t lm nN nM ns ms rt pg p_ e_ h0) (cwV 2 hts (wg_V mw_208 mw_210 ms_4 mw_1 mw_211) rfl rfl rfl (by decide +kernel) ⟨Nat.le_of_ble_eq_true rfl, Nat.le_of_ble_eq_true rfl⟩) hK hP m0 e0 rfl px_T (fun _ _ _ => trivial) rfl hl.1 rfl (lv_room (Nat.le_of_ble_eq_true rfl)) dX3_may_3 ⟨Nat.le_of_ble_eq_true rfl, Nat.le_of_ble_eq_true rfl⟩ (fun r_1 hr_1 => ?_)
  subst hr_1
  exact pr_retz hx hb hr (nb_01 (nar_may _ _ _)) hlocks dX3_may_6 rfl

set_option maxHeartbeats 4000000 in
set_option maxRecDepth 100000 in
theorem k_C_state (l : Launch) (G : va_G) (cs : Nat → ClassId) (L : List Nat) (f : Nat → va_E) (ad : Nat → Nat) (t lm : Int32) (nN nM : Nat) (ns : Nat → NS) (ms : Nat → MS) (rt : Nat → Int32) (pg : sp_P) (n : Int32) (h0 : PS cs L f ad t lm nN nM ns ms rt pg) : Met l yX3_state (Cond.code yX3_state cX3_state 3 (some FieldType.int) :: wg) ({ frames := 2, cells := 0, slots := 0, locals := 44 }) (pr_P [.ref (ad 0), .int n] G vwCl (tyl cs) L f (fun _ => True)) (vp_Si (fun r => r = sC_state t nN ns n)) 0 0 (fun _ => False) := by
  refine Met.ofW (cc := cX3_state) (maxL := 3) (ret := (some FieldType.int)) (by decide) rfl ?_
  intro p e s m args below meth c s₁ B hml hv
  obtain ⟨rfl, hP, hK, hX⟩ := hv
  have hx := B.exec
  have hb := B.bytes
  have hr := B.returns
  have hts0 := atoms_spec (ws := (Cond.code yX3_state cX3_state 3 (some FieldType.int) :: wg)) B.pre
  have hts := fun (w : Cond) (h : w ∈ wg) => hts0 w (List.mem_cons_of_mem _ h)
  have hown : s.vm.findClass RX3 = some m.cls := findClass_of_methodNamed B.named
  have hlocks := B.notSynchronized
  have hl := lv_entry ([.ref (ad 0), .int n]) (n := 3) (Nat.le_of_ble_eq_true rfl)
  rw [lg_entry_eq]
  generalize (lg_sl ([.ref (ad 0), .int n]) ++ List.replicate (3 - (lg_sl ([.ref (ad 0), .int n])).length) Slot.unset).toArray = ls at hl ⊢
  have hl : lv_has ls 3 [(0, .ref (ad 0)), (1, .int n)] := hl
  have hN6 := h0.nN6
  have hM12 := h0.nM12
  have m0 := h0.mem (pu_lo (r := 0) (by decide))
  have e0 := h0.e0
  have m1 := h0.mem (pu_lo (r := 1) (by decide))
  have e1 := h0.e1
  have m2 := h0.mem (pu_lo (r := 2) (by decide))
  have e2 := h0.e2
  have m3 := h0.mem (pu_lo (r := 3) (by decide))
  have e3 := h0.e3
  refine lv_aload_n hx hb dX3_state_0 rfl (lv_at hl 0 rfl) ?_
  refine lv_iload_n hx hb dX3_state_1 rfl (lv_at hl 1 rfl) ?_
  refine pr_callVq (As := [.int n]) (rest := []) ⟨hx, hb, hml, hown, hts⟩ (k_C_nAt l G cs L f ad t lm nN nM ns ms rt pg n h0) (cwV 1 hts (wg_V mw_63 mw_65 ms_0 mw_1 mw_66) rfl rfl rfl (by decide +kernel) ⟨Nat.le_of_ble_eq_true rfl, Nat.le_of_ble_eq_true rfl⟩) hK hP m0 e0 rfl px_T (fun _ _ _ => trivial) rfl hl.1 rfl (lv_room (Nat.le_of_ble_eq_true rfl)) dX3_state_2 ⟨Nat.le_of_ble_eq_true rfl, Nat.le_of_ble_eq_true rfl⟩ (fun r_1 hr_1 => ?_)
  rcases ix_cases (m := nN) (by omega) n with ⟨hxi, hnoi⟩ | ⟨i, hi, eni, hxi, hci, hdi⟩
  · obtain rfl : r_1 = none := by rw [hr_1, hxi]; rfl
    refine W.eq (g2 := F0 m 5 ls [.null]) rfl ?_
    refine lv_astore_nN (lv' := [(2, .null), (0, .ref (ad 0)), (1, .int n)]) hx hb dX3_state_5 rfl hl (by decide) rfl (fun ls hl => ?_)
    refine lv_aload_nN hx hb dX3_state_6 rfl (lv_at hl 0 rfl) ?_
    refine lv_ifnonnullN hx hb dX3_state_7 ?_
    refine lv_iconst (v := (-1)) hx hb dX3_state_10 (by decide) ?_
    refine lv_goto (tgt := 22) hx hb dX3_state_11 (by decide) ?_
    exact pr_reti hx hb hr hlocks dX3_state_22 (by simp [sC_state, hxi])
  · obtain rfl : r_1 = some (ad (8 + 4 * i)) := by rw [hr_1, hxi]; rfl
    refine W.eq (g2 := F0 m 5 ls [.ref (ad (8 + 4 * i))]) rfl ?_
    refine lv_astore_n (lv' := [(2, .ref (ad (8 + 4 * i))), (0, .ref (ad 0)), (1, .int n)]) hx hb dX3_state_5 rfl hl (by decide) rfl (fun ls hl => ?_)
    refine lv_aload_n hx hb dX3_state_6 rfl (lv_at hl 0 rfl) ?_
    refine lv_ifnonnull (tgt := 14) hx hb dX3_state_7 (by decide) ?_
    refine lv_aload_n hx hb dX3_state_14 rfl (lv_at hl 0 rfl) ?_
    refine lv_aload_n hx hb dX3_state_15 rfl (lv_at hl 1 rfl) ?_
    refine pw_get (ci := 3) (C := RX3) (T := TX3) (N := 8) hx hb hts inX3 hown hK hP m0 e0 rfl 6 (by decide) (hts _ mw_39) (fun _ h9 => h9) rfl dX3_state_16 ?_
    refine pr_callVi (As := [.int t]) (rest := []) ⟨hx, hb, hml, hown, hts⟩ (k_N_stateOn l G cs L f (ad (8 + 4 * i)) (ad (9 + 4 * i)) (ad (10 + 4 * i)) (ad (11 + 4 * i)) (ns i).1 (ns i).2.1 (ns i).2.2.1 (ns i).2.2.2.1 (ns i).2.2.2.2.1 (ns i).2.2.2.2.2.1 (ns i).2.2.2.2.2.2 t (h0.nt hi)) (cwV 1 hts (wg_V mw_127 mw_128 mw_129 mw_4 mw_130) rfl rfl rfl (by decide +kernel) ⟨Nat.le_of_ble_eq_true rfl, Nat.le_of_ble_eq_true rfl⟩) hK hP (h0.nt hi).1.1 (h0.nt hi).2.1.1 rfl px_T (fun _ _ _ => trivial) rfl hl.1 rfl (lv_room (Nat.le_of_ble_eq_true rfl)) dX3_state_19 ⟨Nat.le_of_ble_eq_true rfl, Nat.le_of_ble_eq_true rfl⟩ (fun r_2 hr_2 => ?_)
    subst hr_2
    exact pr_reti hx hb hr hlocks dX3_state_22 (by simp [sC_state, hxi])

set_option maxHeartbeats 4000000 in
set_option maxRecDepth 100000 in
theorem k_C_mst (l : Launch) (G : va_G) (cs : Nat → ClassId) (L : List Nat) (f : Nat → va_E) (ad : Nat → Nat) (t lm : Int32) (nN nM : Nat) (ns : Nat → NS) (ms : Nat → MS) (rt : Nat → Int32) (pg : sp_P) (n : Int32) (h0 : PS cs L f ad t lm nN nM ns ms rt pg) : Met l yX3_moveState (Cond.code yX3_moveState cX3_moveState 3 (some FieldType.int) :: wg) ({ frames := 1, cells := 0, slots := 0, locals := 21 }) (pr_P [.ref (ad 0), .int n] G vwCl (tyl cs) L f (fun _ => True)) (vp_Si (fun r => r = sC_mst nM ms n)) 0 0 (fun _ => False) := by
  refine Met.ofW (cc := cX3_moveState) (maxL := 3) (ret := (some FieldType.int)) (by decide) rfl ?_
  intro p e s m args below meth c s₁ B hml hv
  obtain ⟨rfl, hP, hK, hX⟩ := hv
  have hx := B.exec
  have hb := B.bytes
  have hr := B.returns
  have hts0 := atoms_spec (ws := (Cond.code yX3_moveState cX3_moveState 3 (some FieldType.int) :: wg)) B.pre
  have hts := fun (w : Cond) (h : w ∈ wg) => hts0 w (List.mem_cons_of_mem _ h)
  have hown : s.vm.findClass RX3 = some m.cls := findClass_of_methodNamed B.named
  have hlocks := B.notSynchronized
  have hl := lv_entry ([.ref (ad 0), .int n]) (n := 3) (Nat.le_of_ble_eq_true rfl)
  rw [lg_entry_eq]
  generalize (lg_sl ([.ref (ad 0), .int n]) ++ List.replicate (3 - (lg_sl ([.ref (ad 0), .int n])).length) Slot.unset).toArray = ls at hl ⊢
  have hl : lv_has ls 3 [(0, .ref (ad 0)), (1, .int n)] := hl
  have hN6 := h0.nN6
  have hM12 := h0.nM12
  have m0 := h0.mem (pu_lo (r := 0) (by decide))
  have e0 := h0.e0
  have m1 := h0.mem (pu_lo (r := 1) (by decide))
  have e1 := h0.e1
  have m2 := h0.mem (pu_lo (r := 2) (by decide))
  have e2 := h0.e2
  have m3 := h0.mem (pu_lo (r := 3) (by decide))
  have e3 := h0.e3
  refine lv_aload_n hx hb dX3_moveState_0 rfl (lv_at hl 0 rfl) ?_
  refine lv_iload_n hx hb dX3_moveState_1 rfl (lv_at hl 1 rfl) ?_
  refine pr_callVq (As := [.int n]) (rest := []) ⟨hx, hb, hml, hown, hts⟩ (k_C_mAt l G cs L f ad t lm nN nM ns ms rt pg n h0) (cwV 1 hts (wg_V mw_147 mw_149 ms_3 mw_1 mw_150) rfl rfl rfl (by decide +kernel) ⟨Nat.le_of_ble_eq_true rfl, Nat.le_of_ble_eq_true rfl⟩) hK hP m0 e0 rfl px_T (fun _ _ _ => trivial) rfl hl.1 rfl (lv_room (Nat.le_of_ble_eq_true rfl)) dX3_moveState_2 ⟨Nat.le_of_ble_eq_true rfl, Nat.le_of_ble_eq_true rfl⟩ (fun r_1 hr_1 => ?_)
  rcases ix_cases (m := nM) (by omega) n with ⟨hxj, hnoj⟩ | ⟨j, hj, enj, hxj, hcj, hdj⟩
  · obtain rfl : r_1 = none := by rw [hr_1, hxj]; rfl
    refine W.eq (g2 := F0 m 5 ls [.null]) rfl ?_
    refine lv_astore_nN (lv' := [(2, .null), (0, .ref (ad 0)), (1, .int n)]) hx hb dX3_moveState_5 rfl hl (by decide) rfl (fun ls hl => ?_)
    refine lv_aload_nN hx hb dX3_moveState_6 rfl (lv_at hl 0 rfl) ?_
    refine lv_ifnonnullN hx hb dX3_moveState_7 ?_
    refine lv_iconst (v := (-1)) hx hb dX3_moveState_10 (by decide) ?_
    refine lv_goto (tgt := 18) hx hb dX3_moveState_11 (by decide) ?_
    exact pr_reti hx hb hr hlocks dX3_moveState_18 (by simp [sC_mst, hxj])
  · obtain rfl : r_1 = some (ad (32 + 2 * j)) := by rw [hr_1, hxj]; rfl
    refine W.eq (g2 := F0 m 5 ls [.ref (ad (32 + 2 * j))]) rfl ?_
    refine lv_astore_n (lv' := [(2, .ref (ad (32 + 2 * j))), (0, .ref (ad 0)), (1, .int n)]) hx hb dX3_moveState_5 rfl hl (by decide) rfl (fun ls hl => ?_)
    refine lv_aload_n hx hb dX3_moveState_6 rfl (lv_at hl 0 rfl) ?_
    refine lv_ifnonnull (tgt := 14) hx hb dX3_moveState_7 (by decide) ?_
    refine lv_aload_n hx hb dX3_moveState_14 rfl (lv_at hl 0 rfl) ?_
    refine pw_get (ci := 0) (C := RX0) (T := TX0) (N := 8) hx hb hts inX0 hown hK hP (h0.mv hj).1.1.1 (h0.mv hj).1.2.1 rfl 5 (by decide) (hts _ mw_169) (fun _ h9 => h9) rfl dX3_moveState_15 ?_
    exact pr_reti hx hb hr hlocks dX3_moveState_18 (by simp [sC_mst, hxj])

set_option maxHeartbeats 4000000 in
set_option maxRecDepth 100000 in
theorem k_C_isl (l : Launch) (G : va_G) (cs : Nat → ClassId) (L : List Nat) (f : Nat → va_E) (ad : Nat → Nat) (t lm : Int32) (nN nM : Nat) (ns : Nat → NS) (ms : Nat → MS) (rt : Nat → Int32) (pg : sp_P) (j : Nat) (h0 : PS cs L f ad t lm nN nM ns ms rt pg) (hj : j < nM) : Met l yX3_isLate (Cond.code yX3_isLate cX3_isLate 2 (some FieldType.boolean) :: wg) ({ frames := 0, cells := 0, slots := 0, locals := 0 }) (pr_P [.ref (ad 0), .ref (ad (32 + 2 * j))] G vwCl (tyl cs) L f (fun _ => True)) (vp_Si (fun r => r = sC_isl t lm (ms j))) 0 0 (fun _ => False) := by
  refine Met.ofW (cc := cX3_isLate) (maxL := 2) (ret := (some FieldType.boolean)) (by decide) rfl ?_
  intro p e s m args below meth c s₁ B hml hv
  obtain ⟨rfl, hP, hK, hX⟩ := hv
  have hx := B.exec
  have hb := B.bytes
  have hr := B.returns
  have hts0 := atoms_spec (ws := (Cond.code yX3_isLate cX3_isLate 2 (some FieldType.boolean) :: wg)) B.pre
  have hts := fun (w : Cond) (h : w ∈ wg) => hts0 w (List.mem_cons_of_mem _ h)
  have hown : s.vm.findClass RX3 = some m.cls := findClass_of_methodNamed B.named
  have hlocks := B.notSynchronized
  have hl := lv_entry ([.ref (ad 0), .ref (ad (32 + 2 * j))]) (n := 2) (Nat.le_of_ble_eq_true rfl)
  rw [lg_entry_eq]
  generalize (lg_sl ([.ref (ad 0), .ref (ad (32 + 2 * j))]) ++ List.replicate (2 - (lg_sl ([.ref (ad 0), .ref (ad (32 + 2 * j))])).length) Slot.unset).toArray = ls at hl ⊢
  have hl : lv_has ls 2 [(0, .ref (ad 0)), (1, .ref (ad (32 + 2 * j)))] := hl
  have hN6 := h0.nN6
  have hM12 := h0.nM12
  have m0 := h0.mem (pu_lo (r := 0) (by decide))
  have e0 := h0.e0
  have m1 := h0.mem (pu_lo (r := 1) (by decide))
  have e1 := h0.e1
  have m2 := h0.mem (pu_lo (r := 2) (by decide))
  have e2 := h0.e2
  have m3 := h0.mem (pu_lo (r := 3) (by decide))
  have e3 := h0.e3
  refine lv_aload_n hx hb dX3_isLate_0 rfl (lv_at hl 1 rfl) ?_
  refine pw_get (ci := 0) (C := RX0) (T := TX0) (N := 8) hx hb hts inX0 hown hK hP (h0.mv hj).1.1.1 (h0.mv hj).1.2.1 rfl 5 (by decide) (hts _ mw_169) (fun _ h9 => h9) rfl dX3_isLate_1 ?_
  refine lv_iconst (v := 2) hx hb dX3_isLate_4 (by decide) ?_
  refine lv_icmp_ne (tgt := 28) hx hb dX3_isLate_5 (by decide) (fun c_5 => ?_) (fun c_5 => ?_)
  · refine lv_iconst (v := 0) hx hb dX3_isLate_28 (by decide) ?_
    exact pr_retz hx hb hr rfl hlocks dX3_isLate_29 (by simp [sC_isl, c_5])
  · refine lv_aload_n hx hb dX3_isLate_8 rfl (lv_at hl 0 rfl) ?_
    refine pw_get (ci := 3) (C := RX3) (T := TX3) (N := 8) hx hb hts inX3 hown hK hP m0 e0 rfl 6 (by decide) (hts _ mw_39) (fun _ h9 => h9) rfl dX3_isLate_9 ?_
    refine lv_aload_n hx hb dX3_isLate_12 rfl (lv_at hl 1 rfl) ?_
    refine pw_get (ci := 0) (C := RX0) (T := TX0) (N := 8) hx hb hts inX0 hown hK hP (h0.mv hj).1.1.1 (h0.mv hj).1.2.1 rfl 6 (by decide) (hts _ mw_171) (fun _ h9 => h9) rfl dX3_isLate_13 ?_
    refine lv_isub hx hb dX3_isLate_16 ?_
    refine lv_aload_n hx hb dX3_isLate_17 rfl (lv_at hl 0 rfl) ?_
    refine pw_get (ci := 3) (C := RX3) (T := TX3) (N := 8) hx hb hts inX3 hown hK hP m0 e0 rfl 7 (by decide) (hts _ mw_40) (fun _ h9 => h9) rfl dX3_isLate_18 ?_
    refine lv_icmp_le (tgt := 28) hx hb dX3_isLate_21 (by decide) (fun c_21 => ?_) (fun c_21 => ?_)
    · refine lv_iconst (v := 0) hx hb dX3_isLate_28 (by decide) ?_
      exact pr_retz hx hb hr rfl hlocks dX3_isLate_29 (by simp [sC_isl, c_5, c_21])
    · refine lv_iconst (v := 1) hx hb dX3_isLate_24 (by decide) ?_
      refine lv_goto (tgt := 29) hx hb dX3_isLate_25 (by decide) ?_
      exact pr_retz hx hb hr rfl hlocks dX3_isLate_29 (by simp [sC_isl, c_5, c_21])

set_option maxHeartbeats 4000000 in
set_option maxRecDepth 100000 in
theorem k_C_can (l : Launch) (G : va_G) (cs : Nat → ClassId) (L : List Nat) (f : Nat → va_E) (ad : Nat → Nat) (t lm : Int32) (nN nM : Nat) (ns : Nat → NS) (ms : Nat → MS) (rt : Nat → Int32) (pg : sp_P) (j : Nat) (h0 : PS cs L f ad t lm nN nM ns ms rt pg) (hj : j < nM) : Met l yX3_canBeTaken (Cond.code yX3_canBeTaken cX3_canBeTaken 3 (some FieldType.boolean) :: wg) ({ frames := 2, cells := 0, slots := 0, locals := 44 }) (pr_P [.ref (ad 0), .ref (ad (32 + 2 * j))] G vwCl (tyl cs) L f (fun _ => True)) (vp_Si (fun r => r = sC_can t nN ns (ms j))) 0 0 (fun _ => False) := by
  refine Met.ofW (cc := cX3_canBeTaken) (maxL := 3) (ret := (some FieldType.boolean)) (by decide) rfl ?_
  intro p e s m args below meth c s₁ B hml hv
  obtain ⟨rfl, hP, hK, hX⟩ := hv
  have hx := B.exec
  have hb := B.bytes
  have hr := B.returns
  have hts0 := atoms_spec (ws := (Cond.code yX3_canBeTaken cX3_canBeTaken 3 (some FieldType.boolean) :: wg)) B.pre
  have hts := fun (w : Cond) (h : w ∈ wg) => hts0 w (List.mem_cons_of_mem _ h)
  have hown : s.vm.findClass RX3 = some m.cls := findClass_of_methodNamed B.named
  have hlocks := B.notSynchronized
  have hl := lv_entry ([.ref (ad 0), .ref (ad (32 + 2 * j))]) (n := 3) (Nat.le_of_ble_eq_true rfl)
  rw [lg_entry_eq]
  generalize (lg_sl ([.ref (ad 0), .ref (ad (32 + 2 * j))]) ++ List.replicate (3 - (lg_sl ([.ref (ad 0), .ref (ad (32 + 2 * j))])).length) Slot.unset).toArray = ls at hl ⊢
  have hl : lv_has ls 3 [(0, .ref (ad 0)), (1, .ref (ad (32 + 2 * j)))] := hl
  have hN6 := h0.nN6
  have hM12 := h0.nM12
  have m0 := h0.mem (pu_lo (r := 0) (by decide))
  have e0 := h0.e0
  have m1 := h0.mem (pu_lo (r := 1) (by decide))
  have e1 := h0.e1
  have m2 := h0.mem (pu_lo (r := 2) (by decide))
  have e2 := h0.e2
  have m3 := h0.mem (pu_lo (r := 3) (by decide))
  have e3 := h0.e3
  refine lv_aload_n hx hb dX3_canBeTaken_0 rfl (lv_at hl 0 rfl) ?_
  refine lv_aload_n hx hb dX3_canBeTaken_1 rfl (lv_at hl 1 rfl) ?_
  refine pw_get (ci := 0) (C := RX0) (T := TX0) (N := 8) hx hb hts inX0 hown hK hP (h0.mv hj).1.1.1 (h0.mv hj).1.2.1 rfl 0 (by decide) (hts _ mw_161) (fun _ h9 => h9) rfl dX3_canBeTaken_2 ?_
  refine pr_callVq (As := [.int ((ms j).1)]) (rest := []) ⟨hx, hb, hml, hown, hts⟩ (k_C_nAt l G cs L f ad t lm nN nM ns ms rt pg ((ms j).1) h0) (cwV 1 hts (wg_V mw_63 mw_65 ms_0 mw_1 mw_66) rfl rfl rfl (by decide +kernel) ⟨Nat.le_of_ble_eq_true rfl, Nat.le_of_ble_eq_true rfl⟩) hK hP m0 e0 rfl px_T (fun _ _ _ => trivial) rfl hl.1 rfl (lv_room (Nat.le_of_ble_eq_true rfl)) dX3_canBeTaken_5 ⟨Nat.le_of_ble_eq_true rfl, Nat.le_of_ble_eq_true rfl⟩ (fun r_1 hr_1 => ?_)
  rcases ix_cases (m := nN) (by omega) ((ms j).1) with ⟨hxi, hnoi⟩ | ⟨i, hi, eni, hxi, hci, hdi⟩
  · obtain rfl : r_1 = none := by rw [hr_1, hxi]; rfl
    refine W.eq (g2 := F0 m 8 ls [.null]) rfl ?_
    refine lv_astore_nN (lv' := [(2, .null), (0, .ref (ad 0)), (1, .ref (ad (32 + 2 * j)))]) hx hb dX3_canBeTaken_8 rfl hl (by decide) rfl (fun ls hl => ?_)
    refine lv_aload_n hx hb dX3_canBeTaken_9 rfl (lv_at hl 1 rfl) ?_
    refine pw_get (ci := 3) (C := RX3) (T := TX3) (N := 8) hx hb hts inX3 hown hK hP m0 e0 rfl 6 (by decide) (hts _ mw_39) (fun _ h9 => h9) rfl dX3_canBeTaken_10 ?_
    refine lv_aload_n hx hb dX3_canBeTaken_13 rfl (lv_at hl 2 rfl) ?_
    refine pw_get (ci := 0) (C := RX0) (T := TX0) (N := 8) hx hb hts inX0 hown hK hP (h0.mv hj).1.1.1 (h0.mv hj).1.2.1 rfl 2 (by decide) (hts _ mw_165) (fun _ h9 => h9) rfl dX3_canBeTaken_14 ?_
    refine lv_icmp_lt (tgt := 40) hx hb dX3_canBeTaken_17 (by decide) (fun c_17 => ?_) (fun c_17 => ?_)
    · refine lv_iconst (v := 0) hx hb dX3_canBeTaken_40 (by decide) ?_
      exact pr_retz hx hb hr rfl hlocks dX3_canBeTaken_41 (by simp [sC_can, hxi, c_17])
    · refine lv_aload_nN hx hb dX3_canBeTaken_20 rfl (lv_at hl 0 rfl) ?_
      refine lv_ifnullN (tgt := 40) hx hb dX3_canBeTaken_21 (by decide) ?_
      refine lv_iconst (v := 0) hx hb dX3_canBeTaken_40 (by decide) ?_
      exact pr_retz hx hb hr rfl hlocks dX3_canBeTaken_41 (by simp [sC_can, hxi, c_17])
  · obtain rfl : r_1 = some (ad (8 + 4 * i)) := by rw [hr_1, hxi]; rfl
    refine W.eq (g2 := F0 m 8 ls [.ref (ad (8 + 4 * i))]) rfl ?_
    refine lv_astore_n (lv' := [(2, .ref (ad (8 + 4 * i))), (0, .ref (ad 0)), (1, .ref (ad (32 + 2 * j)))]) hx hb dX3_canBeTaken_8 rfl hl (by decide) rfl (fun ls hl => ?_)
    refine lv_aload_n hx hb dX3_canBeTaken_9 rfl (lv_at hl 1 rfl) ?_
    refine pw_get (ci := 3) (C := RX3) (T := TX3) (N := 8) hx hb hts inX3 hown hK hP m0 e0 rfl 6 (by decide) (hts _ mw_39) (fun _ h9 => h9) rfl dX3_canBeTaken_10 ?_
    refine lv_aload_n hx hb dX3_canBeTaken_13 rfl (lv_at hl 2 rfl) ?_
    refine pw_get (ci := 0) (C := RX0) (T := TX0) (N := 8) hx hb hts inX0 hown hK hP (h0.mv hj).1.1.1 (h0.mv hj).1.2.1 rfl 2 (by decide) (hts _ mw_165) (fun _ h9 => h9) rfl dX3_canBeTaken_14 ?_
    refine lv_icmp_lt (tgt := 40) hx hb dX3_canBeTaken_17 (by decide) (fun c_17 => ?_) (fun c_17 => ?_)
    · refine lv_iconst (v := 0) hx hb dX3_canBeTaken_40 (by decide) ?_
      exact pr_retz hx hb hr rfl hlocks dX3_canBeTaken_41 (by simp [sC_can, hxi, c_17])
    · refine lv_aload_n hx hb dX3_canBeTaken_20 rfl (lv_at hl 0 rfl) ?_
      refine lv_ifnull hx hb dX3_canBeTaken_21 ?_
      refine lv_aload_n hx hb dX3_canBeTaken_24 rfl (lv_at hl 0 rfl) ?_
      refine lv_aload_n hx hb dX3_canBeTaken_25 rfl (lv_at hl 1 rfl) ?_
      refine pw_get (ci := 3) (C := RX3) (T := TX3) (N := 8) hx hb hts inX3 hown hK hP m0 e0 rfl 6 (by decide) (hts _ mw_39) (fun _ h9 => h9) rfl dX3_canBeTaken_26 ?_
      refine pr_callVi (As := [.int t]) (rest := []) ⟨hx, hb, hml, hown, hts⟩ (k_N_stateOn l G cs L f (ad (8 + 4 * i)) (ad (9 + 4 * i)) (ad (10 + 4 * i)) (ad (11 + 4 * i)) (ns i).1 (ns i).2.1 (ns i).2.2.1 (ns i).2.2.2.1 (ns i).2.2.2.2.1 (ns i).2.2.2.2.2.1 (ns i).2.2.2.2.2.2 t (h0.nt hi)) (cwV 1 hts (wg_V mw_127 mw_128 mw_129 mw_4 mw_130) rfl rfl rfl (by decide +kernel) ⟨Nat.le_of_ble_eq_true rfl, Nat.le_of_ble_eq_true rfl⟩) hK hP (h0.nt hi).1.1 (h0.nt hi).2.1.1 rfl px_T (fun _ _ _ => trivial) rfl hl.1 rfl (lv_room (Nat.le_of_ble_eq_true rfl)) dX3_canBeTaken_29 ⟨Nat.le_of_ble_eq_true rfl, Nat.le_of_ble_eq_true rfl⟩ (fun r_2 hr_2 => ?_)
      subst hr_2
      refine lv_iconst (v := 1) hx hb dX3_canBeTaken_32 (by decide) ?_
      refine lv_icmp_ne (tgt := 40) hx hb dX3_canBeTaken_33 (by decide) (fun c_33 => ?_) (fun c_33 => ?_)
      · refine lv_iconst (v := 0) hx hb dX3_canBeTaken_40 (by decide) ?_
        exact pr_retz hx hb hr rfl hlocks dX3_canBeTaken_41 (by simp [sC_can, hxi, c_17, c_33])
      · refine lv_iconst (v := 1) hx hb dX3_canBeTaken_36 (by decide) ?_
        refine lv_goto (tgt := 41) hx hb dX3_canBeTaken_37 (by decide) ?_
        exact pr_retz hx hb hr rfl hlocks dX3_canBeTaken_41 (by simp [sC_can, hxi, c_17, c_33])

set_option maxHeartbeats 4000000 in
set_option maxRecDepth 100000 in
theorem k_C_next (l : Launch) (G : va_G) (cs : Nat → ClassId) (L : List Nat) (f : Nat → va_E) (e_ st : Int32) (tL tC : Nat) : Met l yX3_nextState (Cond.code yX3_nextState cX3_nextState 2 (some FieldType.int) :: wg) ({ frames := 1, cells := 0, slots := 0, locals := 20 }) (pr_P [.int e_, .int st] G vwCl (tyl cs) L f (fun U => SX tL tC (fun _ => False) U U.heap)) (vp_Si (fun r => r = sC_next e_ st)) 0 0 (fun _ => False) := by
  refine Met.ofW (cc := cX3_nextState) (maxL := 2) (ret := (some FieldType.int)) (by decide) rfl ?_
  intro p e s m args below meth c s₁ B hml hv
  obtain ⟨rfl, hP, hK, hX⟩ := hv
  have hx := B.exec
  have hb := B.bytes
  have hr := B.returns
  have hts0 := atoms_spec (ws := (Cond.code yX3_nextState cX3_nextState 2 (some FieldType.int) :: wg)) B.pre
  have hts := fun (w : Cond) (h : w ∈ wg) => hts0 w (List.mem_cons_of_mem _ h)
  have hown : s.vm.findClass RX3 = some m.cls := findClass_of_methodNamed B.named
  have hlocks := B.notSynchronized
  have hl := lv_entry ([.int e_, .int st]) (n := 2) (Nat.le_of_ble_eq_true rfl)
  rw [lg_entry_eq]
  generalize (lg_sl ([.int e_, .int st]) ++ List.replicate (2 - (lg_sl ([.int e_, .int st])).length) Slot.unset).toArray = ls at hl ⊢
  have hl : lv_has ls 2 [(0, .int e_), (1, .int st)] := hl
  refine lv_iload_n hx hb dX3_nextState_0 rfl (lv_at hl 0 rfl) ?_
  refine pr_callSi (As := [.int e_]) (rest := []) ⟨hx, hb, hml, hown, hts⟩ (k_C_isE l G cs L f e_) (cwS 1 hts (wg_S mw_201 mw_202 mw_1 mw_203) rfl rfl rfl (by decide +kernel) ⟨Nat.le_of_ble_eq_true rfl, Nat.le_of_ble_eq_true rfl⟩) hK hP px_T (fun _ _ _ => trivial) rfl hl.1 rfl (lv_room (Nat.le_of_ble_eq_true rfl)) dX3_nextState_1 ⟨Nat.le_of_ble_eq_true rfl, Nat.le_of_ble_eq_true rfl⟩ (fun r_1 hr_1 => ?_)
  rcases sp_in_cases (m := 5) (by decide) e_ with ⟨hxb, hsb⟩ | ⟨b, hb_, enb, hxb, hsb⟩
  · obtain rfl : r_1 = 0 := by rw [hr_1, hsb]
    refine lv_if_eq (tgt := 17) hx hb dX3_nextState_4 (by decide) (fun c_4 => ?_) (fun c_4 => ?_)
    · refine lv_iconst (v := (-1)) hx hb dX3_nextState_17 (by decide) ?_
      exact pr_reti hx hb hr hlocks dX3_nextState_18 (by simp [sC_next, hxb])
    · exact absurd c_4 (by decide)
  · obtain rfl : r_1 = 1 := by rw [hr_1, hsb]
    refine lv_if_eq (tgt := 17) hx hb dX3_nextState_4 (by decide) (fun c_4 => ?_) (fun c_4 => ?_)
    · exact absurd c_4 (by decide)
    · refine lv_iload_n hx hb dX3_nextState_7 rfl (lv_at hl 1 rfl) ?_
      refine lv_if_lt (tgt := 17) hx hb dX3_nextState_8 (by decide) (fun c_8 => ?_) (fun c_8 => ?_)
      · have hxk : ix 6 st = none := by unfold ix; simp [c_8, show nI 6 = 6 from rfl]
        refine lv_iconst (v := (-1)) hx hb dX3_nextState_17 (by decide) ?_
        exact pr_reti hx hb hr hlocks dX3_nextState_18 (by simp [sC_next, hxb, c_8, hxk])
      · refine lv_iload_n hx hb dX3_nextState_11 rfl (lv_at hl 1 rfl) ?_
        refine lv_bipush (v := 6) hx hb dX3_nextState_12 (by decide) ?_
        refine lv_icmp_lt (tgt := 19) hx hb dX3_nextState_14 (by decide) (fun c_14 => ?_) (fun c_14 => ?_)
        · obtain ⟨k, hk, enk, hxk⟩ : ∃ k, k < 6 ∧ st = nI k ∧ ix 6 st = some k := by
            rcases ix_cases (m := 6) (by decide) st with ⟨-, h | h⟩ | ⟨k, h1, h2, h3, -⟩
            · exact absurd h c_8
            · exact absurd c_14 h
            · exact ⟨k, h1, h2, h3⟩
          refine va_gets (A := fun _ => False) hx hb hX.1 va_S.rf hown (hts _ mw_219) (fun _ h => h) dX3_nextState_19 ?_
          refine lv_iload_n hx hb dX3_nextState_22 rfl (lv_at hl 0 rfl) ?_
          refine lv_bipush (v := 6) hx hb dX3_nextState_23 (by decide) ?_
          refine lv_imul hx hb dX3_nextState_25 ?_
          refine lv_iload_n hx hb dX3_nextState_26 rfl (lv_at hl 1 rfl) ?_
          refine lv_iadd hx hb dX3_nextState_27 ?_
          have eix : e_ * 6 + st = nI (b * 6 + k) := by rw [enb, enk]; exact ld_ix hb_ hk
          rw [eix]
          refine va_ti (v := .int (sp_leads (b * 6 + k))) (A := fun _ => False) hx hb hX.2.1 va_S.rf (vp_in_nI (by omega) (by decide)) (by rw [nI_clamp (by omega)]) dX3_nextState_28 ?_
          exact pr_reti hx hb hr hlocks dX3_nextState_29 (by simp [sC_next, hxb, c_8, c_14, hxk])
        · have hxk : ix 6 st = none := by unfold ix; simp [c_8, c_14, show nI 6 = 6 from rfl]
          refine lv_iconst (v := (-1)) hx hb dX3_nextState_17 (by decide) ?_
          exact pr_reti hx hb hr hlocks dX3_nextState_18 (by simp [sC_next, hxb, c_8, c_14, hxk])

set_option maxHeartbeats 4000000 in
set_option maxRecDepth 100000 in
theorem k_C_gim (l : Launch) (G : va_G) (cs : Nat → ClassId) (L : List Nat) (f : Nat → va_E) (ad : Nat → Nat) (t lm : Int32) (nN nM : Nat) (ns : Nat → NS) (ms : Nat → MS) (rt : Nat → Int32) (pg : sp_P) (n : Int32) (h0 : PS cs L f ad t lm nN nM ns ms rt pg) : Met l yX3_gramsInMoves (Cond.code yX3_gramsInMoves cX3_gramsInMoves 6 (some FieldType.long) :: wg) ({ frames := 1, cells := 0, slots := 0, locals := 21 }) (pr_P [.ref (ad 0), .int n] G vwCl (tyl cs) L f (fun _ => True)) (vp_Sl (fun r => r = sC_gim ms n nM)) 0 0 (fun _ => False) := by
  refine Met.ofW (cc := cX3_gramsInMoves) (maxL := 6) (ret := (some FieldType.long)) (by decide) rfl ?_
  intro p e s m args below meth c s₁ B hml hv
  obtain ⟨rfl, hP, hK, hX⟩ := hv
  have hx := B.exec
  have hb := B.bytes
  have hr := B.returns
  have hts0 := atoms_spec (ws := (Cond.code yX3_gramsInMoves cX3_gramsInMoves 6 (some FieldType.long) :: wg)) B.pre
  have hts := fun (w : Cond) (h : w ∈ wg) => hts0 w (List.mem_cons_of_mem _ h)
  have hown : s.vm.findClass RX3 = some m.cls := findClass_of_methodNamed B.named
  have hlocks := B.notSynchronized
  have hl := lv_entry ([.ref (ad 0), .int n]) (n := 6) (Nat.le_of_ble_eq_true rfl)
  rw [lg_entry_eq]
  generalize (lg_sl ([.ref (ad 0), .int n]) ++ List.replicate (6 - (lg_sl ([.ref (ad 0), .int n])).length) Slot.unset).toArray = ls at hl ⊢
  have hl : lv_has ls 6 [(0, .ref (ad 0)), (1, .int n)] := hl
  have hN6 := h0.nN6
  have hM12 := h0.nM12
  have m0 := h0.mem (pu_lo (r := 0) (by decide))
  have e0 := h0.e0
  have m1 := h0.mem (pu_lo (r := 1) (by decide))
  have e1 := h0.e1
  have m2 := h0.mem (pu_lo (r := 2) (by decide))
  have e2 := h0.e2
  have m3 := h0.mem (pu_lo (r := 3) (by decide))
  have e3 := h0.e3
  refine lv_lconst (v := 0) hx hb dX3_gramsInMoves_0 (by decide) ?_
  refine lv_lstore_n (lv' := [(2, .long 0), (0, .ref (ad 0)), (1, .int n)]) hx hb dX3_gramsInMoves_1 rfl hl (by decide) rfl (fun ls hl => ?_)
  refine lv_iconst (v := 0) hx hb dX3_gramsInMoves_2 (by decide) ?_
  refine lv_istore (lv' := [(4, .int 0), (2, .long 0), (0, .ref (ad 0)), (1, .int n)]) hx hb dX3_gramsInMoves_3 hl (by decide) rfl (fun ls hl => ?_)
  refine pr_loop (σ := Nat) (nL := 6) (fun k => nM - k) (fun k => k ≤ nM) (fun k => [(4, .int (nI k)), (2, .long (sC_gim ms n k)), (0, .ref (ad 0)), (1, .int n)]) ?_ 0 (Nat.zero_le _) ls (lv_sub hl [0, 1, 2, 3] rfl)
  intro k hk ih ls hl
  refine lv_iload hx hb dX3_gramsInMoves_5 (lv_at hl 0 rfl) ?_
  refine lv_aload_n hx hb dX3_gramsInMoves_7 rfl (lv_at hl 2 rfl) ?_
  refine pw_get (ci := 3) (C := RX3) (T := TX3) (N := 8) hx hb hts inX3 hown hK hP m0 e0 rfl 5 (by decide) (hts _ mw_38) (fun _ h9 => h9) rfl dX3_gramsInMoves_8 ?_
  refine lv_icmp_ge (tgt := 58) hx hb dX3_gramsInMoves_11 (by decide) (fun c_11 => ?_) (fun c_11 => ?_)
  · have hk2 : k = nM := Nat.le_antisymm hk (nI_of_le c_11 (by omega))
    subst hk2
    refine lv_lload_n hx hb dX3_gramsInMoves_58 rfl (lv_at hl 1 rfl) ?_
    exact pr_retl hx hb hr hlocks dX3_gramsInMoves_59 rfl
  · have hk2 : k < nM := nI_of_ge c_11 (by omega)
    refine lv_aload_n hx hb dX3_gramsInMoves_14 rfl (lv_at hl 2 rfl) ?_
    refine lv_iload hx hb dX3_gramsInMoves_15 (lv_at hl 0 rfl) ?_
    refine pr_callVq (As := [.int (nI k)]) (rest := []) ⟨hx, hb, hml, hown, hts⟩ (k_C_mAt l G cs L f ad t lm nN nM ns ms rt pg (nI k) h0) (cwV 1 hts (wg_V mw_147 mw_149 ms_3 mw_1 mw_150) rfl rfl rfl (by decide +kernel) ⟨Nat.le_of_ble_eq_true rfl, Nat.le_of_ble_eq_true rfl⟩) hK hP m0 e0 rfl px_T (fun _ _ _ => trivial) rfl hl.1 rfl (lv_room (Nat.le_of_ble_eq_true rfl)) dX3_gramsInMoves_17 ⟨Nat.le_of_ble_eq_true rfl, Nat.le_of_ble_eq_true rfl⟩ (fun r_1 hr_1 => ?_)
    obtain rfl : r_1 = some (ad (32 + 2 * k)) := by rw [hr_1, ix_nI hk2 (by omega)]; rfl
    refine W.eq (g2 := F0 m 20 ls [.ref (ad (32 + 2 * k))]) rfl ?_
    refine lv_astore (lv' := [(5, .ref (ad (32 + 2 * k))), (4, .int (nI k)), (2, .long (sC_gim ms n k)), (0, .ref (ad 0)), (1, .int n)]) hx hb dX3_gramsInMoves_20 hl (by decide) rfl (fun ls hl => ?_)
    refine lv_aload hx hb dX3_gramsInMoves_22 (lv_at hl 0 rfl) ?_
    refine lv_ifnull hx hb dX3_gramsInMoves_24 ?_
    refine lv_aload hx hb dX3_gramsInMoves_27 (lv_at hl 0 rfl) ?_
    refine pw_get (ci := 0) (C := RX0) (T := TX0) (N := 8) hx hb hts inX0 hown hK hP (h0.mv hk2).1.1.1 (h0.mv hk2).1.2.1 rfl 0 (by decide) (hts _ mw_161) (fun _ h9 => h9) rfl dX3_gramsInMoves_29 ?_
    refine lv_iload_n hx hb dX3_gramsInMoves_32 rfl (lv_at hl 4 rfl) ?_
    refine lv_icmp_ne (tgt := 52) hx hb dX3_gramsInMoves_33 (by decide) (fun c_33 => ?_) (fun c_33 => ?_)
    · obtain ⟨z_2, ez_2⟩ : ∃ z : Int32, z = (nI k) + 1 := ⟨_, rfl⟩
      refine lv_iinc (v := z_2) (lv' := [(4, .int z_2), (5, .ref (ad (32 + 2 * k))), (2, .long (sC_gim ms n k)), (0, .ref (ad 0)), (1, .int n)]) hx hb dX3_gramsInMoves_52 hl (k := 1) rfl (by rw [ez_2]; rfl) (by decide) rfl (fun ls hl => ?_)
      refine lv_goto (tgt := 5) hx hb dX3_gramsInMoves_55 (by decide) ?_
      obtain rfl : z_2 = nI (k + 1) := by rw [ez_2]; exact nI_1 k
      have hsum : sC_gim ms n (k + 1) = sC_gim ms n k := by simp [sC_gim, c_33]
      rw [← hsum] at hl
      exact ih (k + 1) (by show k + 1 ≤ nM; omega) (by show nM - (k + 1) < nM - k; omega) ls (lv_sub hl [0, 2, 3, 4] rfl)
    · refine lv_aload hx hb dX3_gramsInMoves_36 (lv_at hl 0 rfl) ?_
      refine pr_callVi (As := []) (rest := []) ⟨hx, hb, hml, hown, hts⟩ (k_M_uses l G cs L f (ad (32 + 2 * k)) (ad (33 + 2 * k)) (ms k).1 (ms k).2.1 (ms k).2.2.1 (ms k).2.2.2.1 (ms k).2.2.2.2.1 (ms k).2.2.2.2.2.1 (ms k).2.2.2.2.2.2.1 (ms k).2.2.2.2.2.2.2 (h0.mv hk2).1) (cwV 0 hts (wg_V mw_151 mw_152 mw_153 mw_5 mw_154) rfl rfl rfl (by decide +kernel) ⟨Nat.le_of_ble_eq_true rfl, Nat.le_of_ble_eq_true rfl⟩) hK hP (h0.mv hk2).1.1.1 (h0.mv hk2).1.2.1 rfl px_T (fun _ _ _ => trivial) rfl hl.1 rfl (lv_room (Nat.le_of_ble_eq_true rfl)) dX3_gramsInMoves_38 ⟨Nat.le_of_ble_eq_true rfl, Nat.le_of_ble_eq_true rfl⟩ (fun r_3 hr_3 => ?_)
      subst hr_3
      refine lv_if_eq (tgt := 52) hx hb dX3_gramsInMoves_41 (by decide) (fun c_41 => ?_) (fun c_41 => ?_)
      · obtain ⟨z_4, ez_4⟩ : ∃ z : Int32, z = (nI k) + 1 := ⟨_, rfl⟩
        refine lv_iinc (v := z_4) (lv' := [(4, .int z_4), (5, .ref (ad (32 + 2 * k))), (2, .long (sC_gim ms n k)), (0, .ref (ad 0)), (1, .int n)]) hx hb dX3_gramsInMoves_52 hl (k := 1) rfl (by rw [ez_4]; rfl) (by decide) rfl (fun ls hl => ?_)
        refine lv_goto (tgt := 5) hx hb dX3_gramsInMoves_55 (by decide) ?_
        obtain rfl : z_4 = nI (k + 1) := by rw [ez_4]; exact nI_1 k
        have hsum : sC_gim ms n (k + 1) = sC_gim ms n k := by simp [sC_gim, c_33, c_41]
        rw [← hsum] at hl
        exact ih (k + 1) (by show k + 1 ≤ nM; omega) (by show nM - (k + 1) < nM - k; omega) ls (lv_sub hl [0, 2, 3, 4] rfl)
      · refine lv_lload_n hx hb dX3_gramsInMoves_44 rfl (lv_at hl 2 rfl) ?_
        refine lv_aload hx hb dX3_gramsInMoves_45 (lv_at hl 0 rfl) ?_
        refine pw_get (ci := 0) (C := RX0) (T := TX0) (N := 8) hx hb hts inX0 hown hK hP (h0.mv hk2).1.1.1 (h0.mv hk2).1.2.1 rfl 1 (by decide) (hts _ mw_163) (fun _ h9 => h9) rfl dX3_gramsInMoves_47 ?_
        refine lv_ladd hx hb dX3_gramsInMoves_50 ?_
        refine lv_lstore_n (lv' := [(2, .long ((sC_gim ms n k) + ((ms k).2.1))), (5, .ref (ad (32 + 2 * k))), (4, .int (nI k)), (0, .ref (ad 0)), (1, .int n)]) hx hb dX3_gramsInMoves_51 rfl hl (by decide) rfl (fun ls hl => ?_)
        obtain ⟨z_5, ez_5⟩ : ∃ z : Int32, z = (nI k) + 1 := ⟨_, rfl⟩
        refine lv_iinc (v := z_5) (lv' := [(4, .int z_5), (2, .long ((sC_gim ms n k) + ((ms k).2.1))), (5, .ref (ad (32 + 2 * k))), (0, .ref (ad 0)), (1, .int n)]) hx hb dX3_gramsInMoves_52 hl (k := 2) rfl (by rw [ez_5]; rfl) (by decide) rfl (fun ls hl => ?_)
        refine lv_goto (tgt := 5) hx hb dX3_gramsInMoves_55 (by decide) ?_
        obtain rfl : z_5 = nI (k + 1) := by rw [ez_5]; exact nI_1 k
        have hsum : sC_gim ms n (k + 1) = (sC_gim ms n k) + ((ms k).2.1) := by simp [sC_gim, c_33, c_41]
        rw [← hsum] at hl
        exact ih (k + 1) (by show k + 1 ≤ nM; omega) (by show nM - (k + 1) < nM - k; omega) ls (lv_sub hl [0, 1, 3, 4] rfl)

set_option maxHeartbeats 4000000 in
set_option maxRecDepth 100000 in
theorem k_C_rec (l : Launch) (G : va_G) (cs : Nat → ClassId) (L : List Nat) (f : Nat → va_E) (ad : Nat → Nat) (t lm : Int32) (nN nM : Nat) (ns : Nat → NS) (ms : Nat → MS) (rt : Nat → Int32) (pg : sp_P) (n : Int32) (h0 : PS cs L f ad t lm nN nM ns ms rt pg) : Met l yX3_gramsRecovered (Cond.code yX3_gramsRecovered cX3_gramsRecovered 6 (some FieldType.long) :: wg) ({ frames := 1, cells := 0, slots := 0, locals := 21 }) (pr_P [.ref (ad 0), .int n] G vwCl (tyl cs) L f (fun _ => True)) (vp_Sl (fun r => r = sC_rec ms n nM)) 0 0 (fun _ => False) := by
  refine Met.ofW (cc := cX3_gramsRecovered) (maxL := 6) (ret := (some FieldType.long)) (by decide) rfl ?_
  intro p e s m args below meth c s₁ B hml hv
  obtain ⟨rfl, hP, hK, hX⟩ := hv
  have hx := B.exec
  have hb := B.bytes
  have hr := B.returns
  have hts0 := atoms_spec (ws := (Cond.code yX3_gramsRecovered cX3_gramsRecovered 6 (some FieldType.long) :: wg)) B.pre
  have hts := fun (w : Cond) (h : w ∈ wg) => hts0 w (List.mem_cons_of_mem _ h)
  have hown : s.vm.findClass RX3 = some m.cls := findClass_of_methodNamed B.named
  have hlocks := B.notSynchronized
  have hl := lv_entry ([.ref (ad 0), .int n]) (n := 6) (Nat.le_of_ble_eq_true rfl)
  rw [lg_entry_eq]
  generalize (lg_sl ([.ref (ad 0), .int n]) ++ List.replicate (6 - (lg_sl ([.ref (ad 0), .int n])).length) Slot.unset).toArray = ls at hl ⊢
  have hl : lv_has ls 6 [(0, .ref (ad 0)), (1, .int n)] := hl
  have hN6 := h0.nN6
  have hM12 := h0.nM12
  have m0 := h0.mem (pu_lo (r := 0) (by decide))
  have e0 := h0.e0
  have m1 := h0.mem (pu_lo (r := 1) (by decide))
  have e1 := h0.e1
  have m2 := h0.mem (pu_lo (r := 2) (by decide))
  have e2 := h0.e2
  have m3 := h0.mem (pu_lo (r := 3) (by decide))
  have e3 := h0.e3
  refine lv_lconst (v := 0) hx hb dX3_gramsRecovered_0 (by decide) ?_
  refine lv_lstore_n (lv' := [(2, .long 0), (0, .ref (ad 0)), (1, .int n)]) hx hb dX3_gramsRecovered_1 rfl hl (by decide) rfl (fun ls hl => ?_)
  refine lv_iconst (v := 0) hx hb dX3_gramsRecovered_2 (by decide) ?_
  refine lv_istore (lv' := [(4, .int 0), (2, .long 0), (0, .ref (ad 0)), (1, .int n)]) hx hb dX3_gramsRecovered_3 hl (by decide) rfl (fun ls hl => ?_)
  refine pr_loop (σ := Nat) (nL := 6) (fun k => nM - k) (fun k => k ≤ nM) (fun k => [(4, .int (nI k)), (2, .long (sC_rec ms n k)), (0, .ref (ad 0)), (1, .int n)]) ?_ 0 (Nat.zero_le _) ls (lv_sub hl [0, 1, 2, 3] rfl)
  intro k hk ih ls hl
  refine lv_iload hx hb dX3_gramsRecovered_5 (lv_at hl 0 rfl) ?_
  refine lv_aload_n hx hb dX3_gramsRecovered_7 rfl (lv_at hl 2 rfl) ?_
  refine pw_get (ci := 3) (C := RX3) (T := TX3) (N := 8) hx hb hts inX3 hown hK hP m0 e0 rfl 5 (by decide) (hts _ mw_38) (fun _ h9 => h9) rfl dX3_gramsRecovered_8 ?_
  refine lv_icmp_ge (tgt := 59) hx hb dX3_gramsRecovered_11 (by decide) (fun c_11 => ?_) (fun c_11 => ?_)
  · have hk2 : k = nM := Nat.le_antisymm hk (nI_of_le c_11 (by omega))
    subst hk2
    refine lv_lload_n hx hb dX3_gramsRecovered_59 rfl (lv_at hl 1 rfl) ?_
    exact pr_retl hx hb hr hlocks dX3_gramsRecovered_60 rfl
  · have hk2 : k < nM := nI_of_ge c_11 (by omega)
    refine lv_aload_n hx hb dX3_gramsRecovered_14 rfl (lv_at hl 2 rfl) ?_
    refine lv_iload hx hb dX3_gramsRecovered_15 (lv_at hl 0 rfl) ?_
    refine pr_callVq (As := [.int (nI k)]) (rest := []) ⟨hx, hb, hml, hown, hts⟩ (k_C_mAt l G cs L f ad t lm nN nM ns ms rt pg (nI k) h0) (cwV 1 hts (wg_V mw_147 mw_149 ms_3 mw_1 mw_150) rfl rfl rfl (by decide +kernel) ⟨Nat.le_of_ble_eq_true rfl, Nat.le_of_ble_eq_true rfl⟩) hK hP m0 e0 rfl px_T (fun _ _ _ => trivial) rfl hl.1 rfl (lv_room (Nat.le_of_ble_eq_true rfl)) dX3_gramsRecovered_17 ⟨Nat.le_of_ble_eq_true rfl, Nat.le_of_ble_eq_true rfl⟩ (fun r_1 hr_1 => ?_)
    obtain rfl : r_1 = some (ad (32 + 2 * k)) := by rw [hr_1, ix_nI hk2 (by omega)]; rfl
    refine W.eq (g2 := F0 m 20 ls [.ref (ad (32 + 2 * k))]) rfl ?_
    refine lv_astore (lv' := [(5, .ref (ad (32 + 2 * k))), (4, .int (nI k)), (2, .long (sC_rec ms n k)), (0, .ref (ad 0)), (1, .int n)]) hx hb dX3_gramsRecovered_20 hl (by decide) rfl (fun ls hl => ?_)
    refine lv_aload hx hb dX3_gramsRecovered_22 (lv_at hl 0 rfl) ?_
    refine lv_ifnull hx hb dX3_gramsRecovered_24 ?_
    refine lv_aload hx hb dX3_gramsRecovered_27 (lv_at hl 0 rfl) ?_
    refine pw_get (ci := 0) (C := RX0) (T := TX0) (N := 8) hx hb hts inX0 hown hK hP (h0.mv hk2).1.1.1 (h0.mv hk2).1.2.1 rfl 0 (by decide) (hts _ mw_161) (fun _ h9 => h9) rfl dX3_gramsRecovered_29 ?_
    refine lv_iload_n hx hb dX3_gramsRecovered_32 rfl (lv_at hl 4 rfl) ?_
    refine lv_icmp_ne (tgt := 53) hx hb dX3_gramsRecovered_33 (by decide) (fun c_33 => ?_) (fun c_33 => ?_)
    · obtain ⟨z_2, ez_2⟩ : ∃ z : Int32, z = (nI k) + 1 := ⟨_, rfl⟩
      refine lv_iinc (v := z_2) (lv' := [(4, .int z_2), (5, .ref (ad (32 + 2 * k))), (2, .long (sC_rec ms n k)), (0, .ref (ad 0)), (1, .int n)]) hx hb dX3_gramsRecovered_53 hl (k := 1) rfl (by rw [ez_2]; rfl) (by decide) rfl (fun ls hl => ?_)
      refine lv_goto (tgt := 5) hx hb dX3_gramsRecovered_56 (by decide) ?_
      obtain rfl : z_2 = nI (k + 1) := by rw [ez_2]; exact nI_1 k
      have hsum : sC_rec ms n (k + 1) = sC_rec ms n k := by simp [sC_rec, c_33]
      rw [← hsum] at hl
      exact ih (k + 1) (by show k + 1 ≤ nM; omega) (by show nM - (k + 1) < nM - k; omega) ls (lv_sub hl [0, 2, 3, 4] rfl)
    · refine lv_aload hx hb dX3_gramsRecovered_36 (lv_at hl 0 rfl) ?_
      refine pw_get (ci := 0) (C := RX0) (T := TX0) (N := 8) hx hb hts inX0 hown hK hP (h0.mv hk2).1.1.1 (h0.mv hk2).1.2.1 rfl 5 (by decide) (hts _ mw_169) (fun _ h9 => h9) rfl dX3_gramsRecovered_38 ?_
      refine lv_iconst (v := 3) hx hb dX3_gramsRecovered_41 (by decide) ?_
      refine lv_icmp_ne (tgt := 53) hx hb dX3_gramsRecovered_42 (by decide) (fun c_42 => ?_) (fun c_42 => ?_)
      · obtain ⟨z_3, ez_3⟩ : ∃ z : Int32, z = (nI k) + 1 := ⟨_, rfl⟩
        refine lv_iinc (v := z_3) (lv' := [(4, .int z_3), (5, .ref (ad (32 + 2 * k))), (2, .long (sC_rec ms n k)), (0, .ref (ad 0)), (1, .int n)]) hx hb dX3_gramsRecovered_53 hl (k := 1) rfl (by rw [ez_3]; rfl) (by decide) rfl (fun ls hl => ?_)
        refine lv_goto (tgt := 5) hx hb dX3_gramsRecovered_56 (by decide) ?_
        obtain rfl : z_3 = nI (k + 1) := by rw [ez_3]; exact nI_1 k
        have hsum : sC_rec ms n (k + 1) = sC_rec ms n k := by simp [sC_rec, c_33, c_42]
        rw [← hsum] at hl
        exact ih (k + 1) (by show k + 1 ≤ nM; omega) (by show nM - (k + 1) < nM - k; omega) ls (lv_sub hl [0, 2, 3, 4] rfl)
      · refine lv_lload_n hx hb dX3_gramsRecovered_45 rfl (lv_at hl 2 rfl) ?_
        refine lv_aload hx hb dX3_gramsRecovered_46 (lv_at hl 0 rfl) ?_
        refine pw_get (ci := 0) (C := RX0) (T := TX0) (N := 8) hx hb hts inX0 hown hK hP (h0.mv hk2).1.1.1 (h0.mv hk2).1.2.1 rfl 1 (by decide) (hts _ mw_163) (fun _ h9 => h9) rfl dX3_gramsRecovered_48 ?_
        refine lv_ladd hx hb dX3_gramsRecovered_51 ?_
        refine lv_lstore_n (lv' := [(2, .long ((sC_rec ms n k) + ((ms k).2.1))), (5, .ref (ad (32 + 2 * k))), (4, .int (nI k)), (0, .ref (ad 0)), (1, .int n)]) hx hb dX3_gramsRecovered_52 rfl hl (by decide) rfl (fun ls hl => ?_)
        obtain ⟨z_4, ez_4⟩ : ∃ z : Int32, z = (nI k) + 1 := ⟨_, rfl⟩
        refine lv_iinc (v := z_4) (lv' := [(4, .int z_4), (2, .long ((sC_rec ms n k) + ((ms k).2.1))), (5, .ref (ad (32 + 2 * k))), (0, .ref (ad 0)), (1, .int n)]) hx hb dX3_gramsRecovered_53 hl (k := 2) rfl (by rw [ez_4]; rfl) (by decide) rfl (fun ls hl => ?_)
        refine lv_goto (tgt := 5) hx hb dX3_gramsRecovered_56 (by decide) ?_
        obtain rfl : z_4 = nI (k + 1) := by rw [ez_4]; exact nI_1 k
        have hsum : sC_rec ms n (k + 1) = (sC_rec ms n k) + ((ms k).2.1) := by simp [sC_rec, c_33, c_42]
        rw [← hsum] at hl
        exact ih (k + 1) (by show k + 1 ≤ nM; omega) (by show nM - (k + 1) < nM - k; omega) ls (lv_sub hl [0, 1, 3, 4] rfl)

set_option maxHeartbeats 4000000 in
set_option maxRecDepth 100000 in
theorem k_C_share (l : Launch) (G : va_G) (cs : Nat → ClassId) (L : List Nat) (f : Nat → va_E) (a_ b_ w : Int64) : Met l yX3_shareUp (Cond.code yX3_shareUp cX3_shareUp 10 (some FieldType.long) :: wg) ({ frames := 0, cells := 0, slots := 0, locals := 0 }) (pr_P [.long a_, .long b_, .long w] G vwCl (tyl cs) L f (fun _ => True)) (vp_Sl (fun r => r = sC_share a_ b_ w)) 0 0 (fun _ => False) := by
  refine Met.ofW (cc := cX3_shareUp) (maxL := 10) (ret := (some FieldType.long)) (by decide) rfl ?_
  intro p e s m args below meth c s₁ B hml hv
  obtain ⟨rfl, hP, hK, hX⟩ := hv
  have hx := B.exec
  have hb := B.bytes
  have hr := B.returns
  have hts0 := atoms_spec (ws := (Cond.code yX3_shareUp cX3_shareUp 10 (some FieldType.long) :: wg)) B.pre
  have hts := fun (w : Cond) (h : w ∈ wg) => hts0 w (List.mem_cons_of_mem _ h)
  have hown : s.vm.findClass RX3 = some m.cls := findClass_of_methodNamed B.named
  have hlocks := B.notSynchronized
  have hl := lv_entry ([.long a_, .long b_, .long w]) (n := 10) (Nat.le_of_ble_eq_true rfl)
  rw [lg_entry_eq]
  generalize (lg_sl ([.long a_, .long b_, .long w]) ++ List.replicate (10 - (lg_sl ([.long a_, .long b_, .long w])).length) Slot.unset).toArray = ls at hl ⊢
  have hl : lv_has ls 10 [(0, .long a_), (2, .long b_), (4, .long w)] := hl
  refine lv_lload hx hb dX3_shareUp_0 (lv_at hl 2 rfl) ?_
  refine lv_lconst (v := 1) hx hb dX3_shareUp_2 (by decide) ?_
  refine W.lcmp hx hb dX3_shareUp_3 ?_
  refine lv_if_ge (tgt := 9) hx hb dX3_shareUp_4 (by decide) (fun c_4 => ?_) (fun c_4 => ?_)
  · have c_4 := (lg_cmp_ge _ _).mp c_4
    have c_4n : ¬ w < 1 := Int64.not_lt.mpr c_4
    refine lv_lload_n hx hb dX3_shareUp_9 rfl (lv_at hl 0 rfl) ?_
    refine lv_lload hx hb dX3_shareUp_10 (lv_at hl 2 rfl) ?_
    refine lv_lrem hx hb dX3_shareUp_12 (fun h => by rw [h] at c_4; exact absurd c_4 (by decide)) ?_
    refine lv_lload_n hx hb dX3_shareUp_13 rfl (lv_at hl 1 rfl) ?_
    refine lv_lmul hx hb dX3_shareUp_14 ?_
    refine lv_lstore (lv' := [(6, .long ((a_ - a_ / w * w) * b_)), (0, .long a_), (2, .long b_), (4, .long w)]) hx hb dX3_shareUp_15 hl (by decide) rfl (fun ls hl => ?_)
    refine lv_lload hx hb dX3_shareUp_17 (lv_at hl 0 rfl) ?_
    refine lv_lload hx hb dX3_shareUp_19 (lv_at hl 3 rfl) ?_
    refine lv_lrem hx hb dX3_shareUp_21 (fun h => by rw [h] at c_4; exact absurd c_4 (by decide)) ?_
    refine lv_lconst (v := 0) hx hb dX3_shareUp_22 (by decide) ?_
    refine W.lcmp hx hb dX3_shareUp_23 ?_
    refine lv_if_ne (tgt := 31) hx hb dX3_shareUp_24 (by decide) (fun c_24 => ?_) (fun c_24 => ?_)
    · have c_24 : ¬ (((a_ - a_ / w * w) * b_) - ((a_ - a_ / w * w) * b_) / w * w) = 0 := fun h => c_24 ((lg_cmp_eq _ _).mpr h)
      refine lv_lconst (v := 1) hx hb dX3_shareUp_31 (by decide) ?_
      refine lv_lstore (lv' := [(8, .long 1), (6, .long ((a_ - a_ / w * w) * b_)), (0, .long a_), (2, .long b_), (4, .long w)]) hx hb dX3_shareUp_32 hl (by decide) rfl (fun ls hl => ?_)
      refine lv_lload_n hx hb dX3_shareUp_34 rfl (lv_at hl 2 rfl) ?_
      refine lv_lload hx hb dX3_shareUp_35 (lv_at hl 4 rfl) ?_
      refine lv_ldiv hx hb dX3_shareUp_37 (fun h => by rw [h] at c_4; exact absurd c_4 (by decide)) ?_
      refine lv_lload_n hx hb dX3_shareUp_38 rfl (lv_at hl 3 rfl) ?_
      refine lv_lmul hx hb dX3_shareUp_39 ?_
      refine lv_lload hx hb dX3_shareUp_40 (lv_at hl 1 rfl) ?_
      refine lv_lload hx hb dX3_shareUp_42 (lv_at hl 4 rfl) ?_
      refine lv_ldiv hx hb dX3_shareUp_44 (fun h => by rw [h] at c_4; exact absurd c_4 (by decide)) ?_
      refine lv_ladd hx hb dX3_shareUp_45 ?_
      refine lv_lload hx hb dX3_shareUp_46 (lv_at hl 0 rfl) ?_
      refine lv_ladd hx hb dX3_shareUp_48 ?_
      exact pr_retl hx hb hr hlocks dX3_shareUp_49 (by simp [sC_share, c_4n, c_24])
    · have c_24 := (lg_cmp_eq _ _).mp c_24
      refine lv_lconst (v := 0) hx hb dX3_shareUp_27 (by decide) ?_
      refine lv_goto (tgt := 32) hx hb dX3_shareUp_28 (by decide) ?_
      refine lv_lstore (lv' := [(8, .long 0), (6, .long ((a_ - a_ / w * w) * b_)), (0, .long a_), (2, .long b_), (4, .long w)]) hx hb dX3_shareUp_32 hl (by decide) rfl (fun ls hl => ?_)
      refine lv_lload_n hx hb dX3_shareUp_34 rfl (lv_at hl 2 rfl) ?_
      refine lv_lload hx hb dX3_shareUp_35 (lv_at hl 4 rfl) ?_
      refine lv_ldiv hx hb dX3_shareUp_37 (fun h => by rw [h] at c_4; exact absurd c_4 (by decide)) ?_
      refine lv_lload_n hx hb dX3_shareUp_38 rfl (lv_at hl 3 rfl) ?_
      refine lv_lmul hx hb dX3_shareUp_39 ?_
      refine lv_lload hx hb dX3_shareUp_40 (lv_at hl 1 rfl) ?_
      refine lv_lload hx hb dX3_shareUp_42 (lv_at hl 4 rfl) ?_
      refine lv_ldiv hx hb dX3_shareUp_44 (fun h => by rw [h] at c_4; exact absurd c_4 (by decide)) ?_
      refine lv_ladd hx hb dX3_shareUp_45 ?_
      refine lv_lload hx hb dX3_shareUp_46 (lv_at hl 0 rfl) ?_
      refine lv_ladd hx hb dX3_shareUp_48 ?_
      exact pr_retl hx hb hr hlocks dX3_shareUp_49 (by simp [sC_share, c_4n, c_24])
  · have c_4 : ¬ 1 ≤ w := fun h => c_4 ((lg_cmp_ge _ _).mpr h)
    have c_4 : w < 1 := Int64.not_le.mp c_4
    refine lv_lconst (v := 0) hx hb dX3_shareUp_7 (by decide) ?_
    exact pr_retl hx hb hr hlocks dX3_shareUp_8 (by simp [sC_share, c_4])

set_option maxHeartbeats 4000000 in
set_option maxRecDepth 100000 in
theorem k_C_left (l : Launch) (G : va_G) (cs : Nat → ClassId) (L : List Nat) (f : Nat → va_E) (ad : Nat → Nat) (t lm : Int32) (nN nM : Nat) (ns : Nat → NS) (ms : Nat → MS) (rt : Nat → Int32) (pg : sp_P) (n : Int32) (h0 : PS cs L f ad t lm nN nM ns ms rt pg) : Met l yX3_left (Cond.code yX3_left cX3_left 3 (some FieldType.long) :: wg) ({ frames := 2, cells := 0, slots := 0, locals := 46 }) (pr_P [.ref (ad 0), .int n] G vwCl (tyl cs) L f (fun _ => True)) (vp_Sl (fun r => r = sC_left nN nM ns ms n)) 0 0 (fun _ => False) := by
  refine Met.ofW (cc := cX3_left) (maxL := 3) (ret := (some FieldType.long)) (by decide) rfl ?_
  intro p e s m args below meth c s₁ B hml hv
  obtain ⟨rfl, hP, hK, hX⟩ := hv
  have hx := B.exec
  have hb := B.bytes
  have hr := B.returns
  have hts0 := atoms_spec (ws := (Cond.code yX3_left cX3_left 3 (some FieldType.long) :: wg)) B.pre
  have hts := fun (w : Cond) (h : w ∈ wg) => hts0 w (List.mem_cons_of_mem _ h)
  have hown : s.vm.findClass RX3 = some m.cls := findClass_of_methodNamed B.named
  have hlocks := B.notSynchronized
  have hl := lv_entry ([.ref (ad 0), .int n]) (n := 3) (Nat.le_of_ble_eq_true rfl)
  rw [lg_entry_eq]
  generalize (lg_sl ([.ref (ad 0), .int n]) ++ List.replicate (3 - (lg_sl ([.ref (ad 0), .int n])).length) Slot.unset).toArray = ls at hl ⊢
  have hl : lv_has ls 3 [(0, .ref (ad 0)), (1, .int n)] := hl
  have hN6 := h0.nN6
  have hM12 := h0.nM12
  have m0 := h0.mem (pu_lo (r := 0) (by decide))
  have e0 := h0.e0
  have m1 := h0.mem (pu_lo (r := 1) (by decide))
  have e1 := h0.e1
  have m2 := h0.mem (pu_lo (r := 2) (by decide))
  have e2 := h0.e2
  have m3 := h0.mem (pu_lo (r := 3) (by decide))
  have e3 := h0.e3
  refine lv_aload_n hx hb dX3_left_0 rfl (lv_at hl 0 rfl) ?_
  refine lv_iload_n hx hb dX3_left_1 rfl (lv_at hl 1 rfl) ?_
  refine pr_callVq (As := [.int n]) (rest := []) ⟨hx, hb, hml, hown, hts⟩ (k_C_nAt l G cs L f ad t lm nN nM ns ms rt pg n h0) (cwV 1 hts (wg_V mw_63 mw_65 ms_0 mw_1 mw_66) rfl rfl rfl (by decide +kernel) ⟨Nat.le_of_ble_eq_true rfl, Nat.le_of_ble_eq_true rfl⟩) hK hP m0 e0 rfl px_T (fun _ _ _ => trivial) rfl hl.1 rfl (lv_room (Nat.le_of_ble_eq_true rfl)) dX3_left_2 ⟨Nat.le_of_ble_eq_true rfl, Nat.le_of_ble_eq_true rfl⟩ (fun r_1 hr_1 => ?_)
  rcases ix_cases (m := nN) (by omega) n with ⟨hxi, hnoi⟩ | ⟨i, hi, eni, hxi, hci, hdi⟩
  · obtain rfl : r_1 = none := by rw [hr_1, hxi]; rfl
    refine W.eq (g2 := F0 m 5 ls [.null]) rfl ?_
    refine lv_astore_nN (lv' := [(2, .null), (0, .ref (ad 0)), (1, .int n)]) hx hb dX3_left_5 rfl hl (by decide) rfl (fun ls hl => ?_)
    refine lv_aload_nN hx hb dX3_left_6 rfl (lv_at hl 0 rfl) ?_
    refine lv_ifnonnullN hx hb dX3_left_7 ?_
    refine lv_ldc2 hx hb hown (hts _ mw_237) dX3_left_10 ?_
    refine lv_goto (tgt := 26) hx hb dX3_left_13 (by decide) ?_
    exact pr_retl hx hb hr hlocks dX3_left_26 (by simp [sC_left, hxi])
  · obtain rfl : r_1 = some (ad (8 + 4 * i)) := by rw [hr_1, hxi]; rfl
    refine W.eq (g2 := F0 m 5 ls [.ref (ad (8 + 4 * i))]) rfl ?_
    refine lv_astore_n (lv' := [(2, .ref (ad (8 + 4 * i))), (0, .ref (ad 0)), (1, .int n)]) hx hb dX3_left_5 rfl hl (by decide) rfl (fun ls hl => ?_)
    refine lv_aload_n hx hb dX3_left_6 rfl (lv_at hl 0 rfl) ?_
    refine lv_ifnonnull (tgt := 16) hx hb dX3_left_7 (by decide) ?_
    refine lv_aload_n hx hb dX3_left_16 rfl (lv_at hl 0 rfl) ?_
    refine pw_get (ci := 1) (C := RX1) (T := TX1) (N := 7) hx hb hts inX1 hown hK hP (h0.nt hi).1.1 (h0.nt hi).2.1.1 rfl 0 (by decide) (hts _ mw_82) (fun _ h9 => h9) rfl dX3_left_17 ?_
    refine lv_aload_n hx hb dX3_left_20 rfl (lv_at hl 1 rfl) ?_
    refine lv_iload_n hx hb dX3_left_21 rfl (lv_at hl 2 rfl) ?_
    refine pr_callVl (As := [.int n]) (rest := [.long ((ns i).1)]) ⟨hx, hb, hml, hown, hts⟩ (k_C_gim l G cs L f ad t lm nN nM ns ms rt pg n h0) (cwV 1 hts (wg_V mw_143 mw_145 ms_2 mw_1 mw_146) rfl rfl rfl (by decide +kernel) ⟨Nat.le_of_ble_eq_true rfl, Nat.le_of_ble_eq_true rfl⟩) hK hP m0 e0 rfl px_T (fun _ _ _ => trivial) rfl hl.1 rfl (lv_room (Nat.le_of_ble_eq_true rfl)) dX3_left_22 ⟨Nat.le_of_ble_eq_true rfl, Nat.le_of_ble_eq_true rfl⟩ (fun r_2 hr_2 => ?_)
    subst hr_2
    refine lv_lsub hx hb dX3_left_25 ?_
    exact pr_retl hx hb hr hlocks dX3_left_26 (by simp [sC_left, hxi])

set_option maxHeartbeats 4000000 in
set_option maxRecDepth 100000 in
theorem k_C_held (l : Launch) (G : va_G) (cs : Nat → ClassId) (L : List Nat) (f : Nat → va_E) (ad : Nat → Nat) (t lm : Int32) (nN nM : Nat) (ns : Nat → NS) (ms : Nat → MS) (rt : Nat → Int32) (pg : sp_P) (n : Int32) (h0 : PS cs L f ad t lm nN nM ns ms rt pg) : Met l yX3_held (Cond.code yX3_held cX3_held 3 (some FieldType.long) :: wg) ({ frames := 2, cells := 0, slots := 0, locals := 46 }) (pr_P [.ref (ad 0), .int n] G vwCl (tyl cs) L f (fun _ => True)) (vp_Sl (fun r => r = sC_held nN nM ns ms n)) 0 0 (fun _ => False) := by
  refine Met.ofW (cc := cX3_held) (maxL := 3) (ret := (some FieldType.long)) (by decide) rfl ?_
  intro p e s m args below meth c s₁ B hml hv
  obtain ⟨rfl, hP, hK, hX⟩ := hv
  have hx := B.exec
  have hb := B.bytes
  have hr := B.returns
  have hts0 := atoms_spec (ws := (Cond.code yX3_held cX3_held 3 (some FieldType.long) :: wg)) B.pre
  have hts := fun (w : Cond) (h : w ∈ wg) => hts0 w (List.mem_cons_of_mem _ h)
  have hown : s.vm.findClass RX3 = some m.cls := findClass_of_methodNamed B.named
  have hlocks := B.notSynchronized
  have hl := lv_entry ([.ref (ad 0), .int n]) (n := 3) (Nat.le_of_ble_eq_true rfl)
  rw [lg_entry_eq]
  generalize (lg_sl ([.ref (ad 0), .int n]) ++ List.replicate (3 - (lg_sl ([.ref (ad 0), .int n])).length) Slot.unset).toArray = ls at hl ⊢
  have hl : lv_has ls 3 [(0, .ref (ad 0)), (1, .int n)] := hl
  have hN6 := h0.nN6
  have hM12 := h0.nM12
  have m0 := h0.mem (pu_lo (r := 0) (by decide))
  have e0 := h0.e0
  have m1 := h0.mem (pu_lo (r := 1) (by decide))
  have e1 := h0.e1
  have m2 := h0.mem (pu_lo (r := 2) (by decide))
  have e2 := h0.e2
  have m3 := h0.mem (pu_lo (r := 3) (by decide))
  have e3 := h0.e3
  refine lv_aload_n hx hb dX3_held_0 rfl (lv_at hl 0 rfl) ?_
  refine lv_iload_n hx hb dX3_held_1 rfl (lv_at hl 1 rfl) ?_
  refine pr_callVq (As := [.int n]) (rest := []) ⟨hx, hb, hml, hown, hts⟩ (k_C_nAt l G cs L f ad t lm nN nM ns ms rt pg n h0) (cwV 1 hts (wg_V mw_63 mw_65 ms_0 mw_1 mw_66) rfl rfl rfl (by decide +kernel) ⟨Nat.le_of_ble_eq_true rfl, Nat.le_of_ble_eq_true rfl⟩) hK hP m0 e0 rfl px_T (fun _ _ _ => trivial) rfl hl.1 rfl (lv_room (Nat.le_of_ble_eq_true rfl)) dX3_held_2 ⟨Nat.le_of_ble_eq_true rfl, Nat.le_of_ble_eq_true rfl⟩ (fun r_1 hr_1 => ?_)
  rcases ix_cases (m := nN) (by omega) n with ⟨hxi, hnoi⟩ | ⟨i, hi, eni, hxi, hci, hdi⟩
  · obtain rfl : r_1 = none := by rw [hr_1, hxi]; rfl
    refine W.eq (g2 := F0 m 5 ls [.null]) rfl ?_
    refine lv_astore_nN (lv' := [(2, .null), (0, .ref (ad 0)), (1, .int n)]) hx hb dX3_held_5 rfl hl (by decide) rfl (fun ls hl => ?_)
    refine lv_aload_nN hx hb dX3_held_6 rfl (lv_at hl 0 rfl) ?_
    refine lv_ifnonnullN hx hb dX3_held_7 ?_
    refine lv_ldc2 hx hb hown (hts _ mw_237) dX3_held_10 ?_
    exact pr_retl hx hb hr hlocks dX3_held_13 (by simp [sC_held, hxi])
  · obtain rfl : r_1 = some (ad (8 + 4 * i)) := by rw [hr_1, hxi]; rfl
    refine W.eq (g2 := F0 m 5 ls [.ref (ad (8 + 4 * i))]) rfl ?_
    refine lv_astore_n (lv' := [(2, .ref (ad (8 + 4 * i))), (0, .ref (ad 0)), (1, .int n)]) hx hb dX3_held_5 rfl hl (by decide) rfl (fun ls hl => ?_)
    refine lv_aload_n hx hb dX3_held_6 rfl (lv_at hl 0 rfl) ?_
    refine lv_ifnonnull (tgt := 14) hx hb dX3_held_7 (by decide) ?_
    refine lv_aload_n hx hb dX3_held_14 rfl (lv_at hl 0 rfl) ?_
    refine pw_get (ci := 1) (C := RX1) (T := TX1) (N := 7) hx hb hts inX1 hown hK hP (h0.nt hi).1.1 (h0.nt hi).2.1.1 rfl 6 (by decide) (hts _ mw_90) (fun _ h9 => h9) rfl dX3_held_15 ?_
    refine lv_aload_n hx hb dX3_held_18 rfl (lv_at hl 0 rfl) ?_
    refine pw_get (ci := 1) (C := RX1) (T := TX1) (N := 7) hx hb hts inX1 hown hK hP (h0.nt hi).1.1 (h0.nt hi).2.1.1 rfl 0 (by decide) (hts _ mw_82) (fun _ h9 => h9) rfl dX3_held_19 ?_
    refine lv_aload_n hx hb dX3_held_22 rfl (lv_at hl 1 rfl) ?_
    refine lv_iload_n hx hb dX3_held_23 rfl (lv_at hl 2 rfl) ?_
    refine pr_callVl (As := [.int n]) (rest := [.long ((ns i).1), .long ((ns i).2.2.2.2.2.2)]) ⟨hx, hb, hml, hown, hts⟩ (k_C_rec l G cs L f ad t lm nN nM ns ms rt pg n h0) (cwV 1 hts (wg_V mw_247 mw_249 ms_6 mw_1 mw_250) rfl rfl rfl (by decide +kernel) ⟨Nat.le_of_ble_eq_true rfl, Nat.le_of_ble_eq_true rfl⟩) hK hP m0 e0 rfl px_T (fun _ _ _ => trivial) rfl hl.1 rfl (lv_room (Nat.le_of_ble_eq_true rfl)) dX3_held_24 ⟨Nat.le_of_ble_eq_true rfl, Nat.le_of_ble_eq_true rfl⟩ (fun r_2 hr_2 => ?_)
    subst hr_2
    refine lv_lsub hx hb dX3_held_27 ?_
    refine lv_aload_n hx hb dX3_held_28 rfl (lv_at hl 0 rfl) ?_
    refine pw_get (ci := 1) (C := RX1) (T := TX1) (N := 7) hx hb hts inX1 hown hK hP (h0.nt hi).1.1 (h0.nt hi).2.1.1 rfl 0 (by decide) (hts _ mw_82) (fun _ h9 => h9) rfl dX3_held_29 ?_
    refine pr_callSl (As := [.long ((ns i).2.2.2.2.2.2), .long (((ns i).1) - (sC_rec ms n nM)), .long ((ns i).1)]) (rest := []) ⟨hx, hb, hml, hown, hts⟩ (k_C_share l G cs L f ((ns i).2.2.2.2.2.2) (((ns i).1) - (sC_rec ms n nM)) ((ns i).1)) (cwS 3 hts (wg_S mw_251 mw_252 mw_1 mw_253) rfl rfl rfl (by decide +kernel) ⟨Nat.le_of_ble_eq_true rfl, Nat.le_of_ble_eq_true rfl⟩) hK hP px_T (fun _ _ _ => trivial) rfl hl.1 rfl (lv_room (Nat.le_of_ble_eq_true rfl)) dX3_held_32 ⟨Nat.le_of_ble_eq_true rfl, Nat.le_of_ble_eq_true rfl⟩ (fun r_3 hr_3 => ?_)
    subst hr_3
    exact pr_retl hx hb hr hlocks dX3_held_35 (by simp [sC_held, hxi])

set_option maxHeartbeats 4000000 in
set_option maxRecDepth 100000 in
theorem k_C_back (l : Launch) (G : va_G) (cs : Nat → ClassId) (L : List Nat) (f : Nat → va_E) (ad : Nat → Nat) (t lm : Int32) (nN nM : Nat) (ns : Nat → NS) (ms : Nat → MS) (rt : Nat → Int32) (pg : sp_P) (n k : Int32) (h0 : PS cs L f ad t lm nN nM ns ms rt pg) : Met l yX3_back (Cond.code yX3_back cX3_back 4 (some FieldType.int) :: wg) ({ frames := 1, cells := 0, slots := 0, locals := 21 }) (pr_P [.ref (ad 0), .int n, .int k] G vwCl (tyl cs) L f (fun _ => True)) (vp_Si (fun r => r = sC_back nM ms n k)) 0 0 (fun _ => False) := by
  refine Met.ofW (cc := cX3_back) (maxL := 4) (ret := (some FieldType.int)) (by decide) rfl ?_
  intro p e s m args below meth c s₁ B hml hv
  obtain ⟨rfl, hP, hK, hX⟩ := hv
  have hx := B.exec
  have hb := B.bytes
  have hr := B.returns
  have hts0 := atoms_spec (ws := (Cond.code yX3_back cX3_back 4 (some FieldType.int) :: wg)) B.pre
  have hts := fun (w : Cond) (h : w ∈ wg) => hts0 w (List.mem_cons_of_mem _ h)
  have hown : s.vm.findClass RX3 = some m.cls := findClass_of_methodNamed B.named
  have hlocks := B.notSynchronized
  have hl := lv_entry ([.ref (ad 0), .int n, .int k]) (n := 4) (Nat.le_of_ble_eq_true rfl)
  rw [lg_entry_eq]
  generalize (lg_sl ([.ref (ad 0), .int n, .int k]) ++ List.replicate (4 - (lg_sl ([.ref (ad 0), .int n, .int k])).length) Slot.unset).toArray = ls at hl ⊢
  have hl : lv_has ls 4 [(0, .ref (ad 0)), (1, .int n), (2, .int k)] := hl
  have hN6 := h0.nN6
  have hM12 := h0.nM12
  have m0 := h0.mem (pu_lo (r := 0) (by decide))
  have e0 := h0.e0
  have m1 := h0.mem (pu_lo (r := 1) (by decide))
  have e1 := h0.e1
  have m2 := h0.mem (pu_lo (r := 2) (by decide))
  have e2 := h0.e2
  have m3 := h0.mem (pu_lo (r := 3) (by decide))
  have e3 := h0.e3
  refine lv_aload_n hx hb dX3_back_0 rfl (lv_at hl 0 rfl) ?_
  refine lv_iload_n hx hb dX3_back_1 rfl (lv_at hl 1 rfl) ?_
  refine pr_callVq (As := [.int n]) (rest := []) ⟨hx, hb, hml, hown, hts⟩ (k_C_mAt l G cs L f ad t lm nN nM ns ms rt pg n h0) (cwV 1 hts (wg_V mw_147 mw_149 ms_3 mw_1 mw_150) rfl rfl rfl (by decide +kernel) ⟨Nat.le_of_ble_eq_true rfl, Nat.le_of_ble_eq_true rfl⟩) hK hP m0 e0 rfl px_T (fun _ _ _ => trivial) rfl hl.1 rfl (lv_room (Nat.le_of_ble_eq_true rfl)) dX3_back_2 ⟨Nat.le_of_ble_eq_true rfl, Nat.le_of_ble_eq_true rfl⟩ (fun r_1 hr_1 => ?_)
  rcases ix_cases (m := nM) (by omega) n with ⟨hxj, hnoj⟩ | ⟨j, hj, enj, hxj, hcj, hdj⟩
  · obtain rfl : r_1 = none := by rw [hr_1, hxj]; rfl
    refine W.eq (g2 := F0 m 5 ls [.null]) rfl ?_
    refine lv_astore_nN (lv' := [(3, .null), (0, .ref (ad 0)), (1, .int n), (2, .int k)]) hx hb dX3_back_5 rfl hl (by decide) rfl (fun ls hl => ?_)
    refine lv_aload_nN hx hb dX3_back_6 rfl (lv_at hl 0 rfl) ?_
    refine lv_ifnonnullN hx hb dX3_back_7 ?_
    refine lv_iconst (v := (-1)) hx hb dX3_back_10 (by decide) ?_
    refine lv_goto (tgt := 19) hx hb dX3_back_11 (by decide) ?_
    exact pr_reti hx hb hr hlocks dX3_back_19 (by simp [sC_back, hxj])
  · obtain rfl : r_1 = some (ad (32 + 2 * j)) := by rw [hr_1, hxj]; rfl
    refine W.eq (g2 := F0 m 5 ls [.ref (ad (32 + 2 * j))]) rfl ?_
    refine lv_astore_n (lv' := [(3, .ref (ad (32 + 2 * j))), (0, .ref (ad 0)), (1, .int n), (2, .int k)]) hx hb dX3_back_5 rfl hl (by decide) rfl (fun ls hl => ?_)
    refine lv_aload_n hx hb dX3_back_6 rfl (lv_at hl 0 rfl) ?_
    refine lv_ifnonnull (tgt := 14) hx hb dX3_back_7 (by decide) ?_
    refine lv_aload_n hx hb dX3_back_14 rfl (lv_at hl 0 rfl) ?_
    refine lv_iload_n hx hb dX3_back_15 rfl (lv_at hl 3 rfl) ?_
    refine pr_callVi (As := [.int k]) (rest := []) ⟨hx, hb, hml, hown, hts⟩ (k_M_back l G cs L f (ad (32 + 2 * j)) (ad (33 + 2 * j)) (ms j).1 (ms j).2.1 (ms j).2.2.1 (ms j).2.2.2.1 (ms j).2.2.2.2.1 (ms j).2.2.2.2.2.1 (ms j).2.2.2.2.2.2.1 (ms j).2.2.2.2.2.2.2 k (h0.mv hj).1 (h0.mv hj).2) (cwV 1 hts (wg_V mw_282 mw_275 mw_276 mw_5 mw_277) rfl rfl rfl (by decide +kernel) ⟨Nat.le_of_ble_eq_true rfl, Nat.le_of_ble_eq_true rfl⟩) hK hP (h0.mv hj).1.1.1 (h0.mv hj).1.2.1 rfl px_T (fun _ _ _ => trivial) rfl hl.1 rfl (lv_room (Nat.le_of_ble_eq_true rfl)) dX3_back_16 ⟨Nat.le_of_ble_eq_true rfl, Nat.le_of_ble_eq_true rfl⟩ (fun r_2 hr_2 => ?_)
    subst hr_2
    exact pr_reti hx hb hr hlocks dX3_back_19 (by simp [sC_back, hxj])

set_option maxHeartbeats 4000000 in
set_option maxRecDepth 100000 in
theorem k_C_late (l : Launch) (G : va_G) (cs : Nat → ClassId) (L : List Nat) (f : Nat → va_E) (ad : Nat → Nat) (t lm : Int32) (nN nM : Nat) (ns : Nat → NS) (ms : Nat → MS) (rt : Nat → Int32) (pg : sp_P) (k_ : Int32) (h0 : PS cs L f ad t lm nN nM ns ms rt pg) : Met l yX3_late (Cond.code yX3_late cX3_late 5 (some FieldType.int) :: wg) ({ frames := 1, cells := 0, slots := 0, locals := 21 }) (pr_P [.ref (ad 0), .int k_] G vwCl (tyl cs) L f (fun _ => True)) (vp_Si (fun r => r = sC_lt t lm ms k_ nM 0 0)) 0 0 (fun _ => False) := by
  refine Met.ofW (cc := cX3_late) (maxL := 5) (ret := (some FieldType.int)) (by decide) rfl ?_
  intro p e s m args below meth c s₁ B hml hv
  obtain ⟨rfl, hP, hK, hX⟩ := hv
  have hx := B.exec
  have hb := B.bytes
  have hr := B.returns
  have hts0 := atoms_spec (ws := (Cond.code yX3_late cX3_late 5 (some FieldType.int) :: wg)) B.pre
  have hts := fun (w : Cond) (h : w ∈ wg) => hts0 w (List.mem_cons_of_mem _ h)
  have hown : s.vm.findClass RX3 = some m.cls := findClass_of_methodNamed B.named
  have hlocks := B.notSynchronized
  have hl := lv_entry ([.ref (ad 0), .int k_]) (n := 5) (Nat.le_of_ble_eq_true rfl)
  rw [lg_entry_eq]
  generalize (lg_sl ([.ref (ad 0), .int k_]) ++ List.replicate (5 - (lg_sl ([.ref (ad 0), .int k_])).length) Slot.unset).toArray = ls at hl ⊢
  have hl : lv_has ls 5 [(0, .ref (ad 0)), (1, .int k_)] := hl
  have hN6 := h0.nN6
  have hM12 := h0.nM12
  have m0 := h0.mem (pu_lo (r := 0) (by decide))
  have e0 := h0.e0
  have m1 := h0.mem (pu_lo (r := 1) (by decide))
  have e1 := h0.e1
  have m2 := h0.mem (pu_lo (r := 2) (by decide))
  have e2 := h0.e2
  have m3 := h0.mem (pu_lo (r := 3) (by decide))
  have e3 := h0.e3
  refine lv_iconst (v := 0) hx hb dX3_late_0 (by decide) ?_
  refine lv_istore_n (lv' := [(2, .int 0), (0, .ref (ad 0)), (1, .int k_)]) hx hb dX3_late_1 rfl hl (by decide) rfl (fun ls hl => ?_)
  refine lv_iconst (v := 0) hx hb dX3_late_2 (by decide) ?_
  refine lv_istore_n (lv' := [(3, .int 0), (2, .int 0), (0, .ref (ad 0)), (1, .int k_)]) hx hb dX3_late_3 rfl hl (by decide) rfl (fun ls hl => ?_)
  refine pr_loop (σ := Nat × Int32) (nL := 5) (fun x => nM - x.1) (fun x => x.1 ≤ nM ∧ sC_lt t lm ms k_ (nM - x.1) x.1 x.2 = sC_lt t lm ms k_ nM 0 0) (fun x => [(3, .int (nI x.1)), (2, .int x.2), (0, .ref (ad 0)), (1, .int k_)]) ?_ (0, 0) ⟨Nat.zero_le _, rfl⟩ ls (lv_sub hl [0, 1, 2, 3] rfl)
  rintro ⟨k, b⟩ ⟨hk, hI2⟩ ih ls hl
  have hk : k ≤ nM := hk
  have hI2 : sC_lt t lm ms k_ (nM - k) k b = sC_lt t lm ms k_ nM 0 0 := hI2
  refine lv_iload_n hx hb dX3_late_4 rfl (lv_at hl 0 rfl) ?_
  refine lv_aload_n hx hb dX3_late_5 rfl (lv_at hl 2 rfl) ?_
  refine pw_get (ci := 3) (C := RX3) (T := TX3) (N := 8) hx hb hts inX3 hown hK hP m0 e0 rfl 5 (by decide) (hts _ mw_38) (fun _ h9 => h9) rfl dX3_late_6 ?_
  refine lv_icmp_ge (tgt := 49) hx hb dX3_late_9 (by decide) (fun c_9 => ?_) (fun c_9 => ?_)
  · have hk2 : k = nM := Nat.le_antisymm hk (nI_of_le c_9 (by omega))
    subst hk2
    refine lv_iconst (v := (-1)) hx hb dX3_late_49 (by decide) ?_
    exact pr_reti hx hb hr hlocks dX3_late_50 (by rw [← hI2, Nat.sub_self]; rfl)
  · have hk2 : k < nM := nI_of_ge c_9 (by omega)
    refine lv_aload_n hx hb dX3_late_12 rfl (lv_at hl 2 rfl) ?_
    refine lv_iload_n hx hb dX3_late_13 rfl (lv_at hl 0 rfl) ?_
    refine pr_callVq (As := [.int (nI k)]) (rest := []) ⟨hx, hb, hml, hown, hts⟩ (k_C_mAt l G cs L f ad t lm nN nM ns ms rt pg (nI k) h0) (cwV 1 hts (wg_V mw_147 mw_149 ms_3 mw_1 mw_150) rfl rfl rfl (by decide +kernel) ⟨Nat.le_of_ble_eq_true rfl, Nat.le_of_ble_eq_true rfl⟩) hK hP m0 e0 rfl px_T (fun _ _ _ => trivial) rfl hl.1 rfl (lv_room (Nat.le_of_ble_eq_true rfl)) dX3_late_14 ⟨Nat.le_of_ble_eq_true rfl, Nat.le_of_ble_eq_true rfl⟩ (fun r_1 hr_1 => ?_)
    obtain rfl : r_1 = some (ad (32 + 2 * k)) := by rw [hr_1, ix_nI hk2 (by omega)]; rfl
    refine W.eq (g2 := F0 m 17 ls [.ref (ad (32 + 2 * k))]) rfl ?_
    refine lv_astore (lv' := [(4, .ref (ad (32 + 2 * k))), (3, .int (nI k)), (2, .int b), (0, .ref (ad 0)), (1, .int k_)]) hx hb dX3_late_17 hl (by decide) rfl (fun ls hl => ?_)
    refine lv_aload hx hb dX3_late_19 (lv_at hl 0 rfl) ?_
    refine lv_ifnull hx hb dX3_late_21 ?_
    refine lv_aload_n hx hb dX3_late_24 rfl (lv_at hl 3 rfl) ?_
    refine lv_aload hx hb dX3_late_25 (lv_at hl 0 rfl) ?_
    refine pr_callVi (As := [.ref (ad (32 + 2 * k))]) (rest := []) ⟨hx, hb, hml, hown, hts⟩ (k_C_isl l G cs L f ad t lm nN nM ns ms rt pg k h0 hk2) (cwV 1 hts (wg_V mw_262 mw_264 ms_7 mw_1 mw_265) rfl rfl rfl (by decide +kernel) ⟨Nat.le_of_ble_eq_true rfl, Nat.le_of_ble_eq_true rfl⟩) hK hP m0 e0 rfl px_T (fun _ _ _ => trivial) rfl hl.1 rfl (lv_room (Nat.le_of_ble_eq_true rfl)) dX3_late_27 ⟨Nat.le_of_ble_eq_true rfl, Nat.le_of_ble_eq_true rfl⟩ (fun r_2 hr_2 => ?_)
    subst hr_2
    refine lv_if_eq (tgt := 43) hx hb dX3_late_30 (by decide) (fun c_30 => ?_) (fun c_30 => ?_)
    · obtain ⟨z_3, ez_3⟩ : ∃ z : Int32, z = (nI k) + 1 := ⟨_, rfl⟩
      refine lv_iinc (v := z_3) (lv' := [(3, .int z_3), (4, .ref (ad (32 + 2 * k))), (2, .int b), (0, .ref (ad 0)), (1, .int k_)]) hx hb dX3_late_43 hl (k := 1) rfl (by rw [ez_3]; rfl) (by decide) rfl (fun ls hl => ?_)
      refine lv_goto (tgt := 4) hx hb dX3_late_46 (by decide) ?_
      obtain rfl : z_3 = nI (k + 1) := by rw [ez_3]; exact nI_1 k
      refine ih (k + 1, b) ⟨(by show k + 1 ≤ nM; omega), ?_⟩ (by show nM - (k + 1) < nM - k; omega) ls (lv_sub hl [0, 2, 3, 4] rfl)
      rw [← hI2, show nM - k = (nM - (k + 1)) + 1 by omega]
      simp [sC_lt, c_30]
    · refine lv_iload_n hx hb dX3_late_33 rfl (lv_at hl 2 rfl) ?_
      refine lv_iload_n hx hb dX3_late_34 rfl (lv_at hl 4 rfl) ?_
      refine lv_icmp_ne (tgt := 40) hx hb dX3_late_35 (by decide) (fun c_35 => ?_) (fun c_35 => ?_)
      · obtain ⟨z_4, ez_4⟩ : ∃ z : Int32, z = b + 1 := ⟨_, rfl⟩
        refine lv_iinc (v := z_4) (lv' := [(2, .int z_4), (4, .ref (ad (32 + 2 * k))), (3, .int (nI k)), (0, .ref (ad 0)), (1, .int k_)]) hx hb dX3_late_40 hl (k := 2) rfl (by rw [ez_4]; rfl) (by decide) rfl (fun ls hl => ?_)
        obtain ⟨z_5, ez_5⟩ : ∃ z : Int32, z = (nI k) + 1 := ⟨_, rfl⟩
        refine lv_iinc (v := z_5) (lv' := [(3, .int z_5), (2, .int z_4), (4, .ref (ad (32 + 2 * k))), (0, .ref (ad 0)), (1, .int k_)]) hx hb dX3_late_43 hl (k := 2) rfl (by rw [ez_5]; rfl) (by decide) rfl (fun ls hl => ?_)
        refine lv_goto (tgt := 4) hx hb dX3_late_46 (by decide) ?_
        obtain rfl : z_5 = nI (k + 1) := by rw [ez_5]; exact nI_1 k
        subst ez_4
        refine ih (k + 1, b + 1) ⟨(by show k + 1 ≤ nM; omega), ?_⟩ (by show nM - (k + 1) < nM - k; omega) ls (lv_sub hl [0, 1, 3, 4] rfl)
        rw [← hI2, show nM - k = (nM - (k + 1)) + 1 by omega]
        simp [sC_lt, c_30, c_35]
      · refine lv_iload_n hx hb dX3_late_38 rfl (lv_at hl 1 rfl) ?_
        exact pr_reti hx hb hr hlocks dX3_late_39 (by rw [← hI2, show nM - k = (nM - (k + 1)) + 1 by omega]; simp [sC_lt, c_30, c_35])
end
section
/-! THE CLASS'S WRITING METHODS as functions of its value; what they do to the world -/
theorem va_up_same {α : Type} (f : Nat → α) (k : Nat) : va_up f k (f k) = f := by
  funext j
  by_cases h : j = k
  · rw [h, va_up_self]
  · rw [va_up_ne _ _ h]
def ns_ask (n : NS) (c d t : Int32) : Int32 × NS := if c < 0 then (0, n) else if 6 ≤ c then (0, n) else if n.2.2.2.1 c.toNatClampNeg = 0 then (1, (n.1, n.2.1, n.2.2.1, upd n.2.2.2.1 c.toNatClampNeg 1, upd n.2.2.2.2.1 c.toNatClampNeg t, upd n.2.2.2.2.2.1 c.toNatClampNeg d, n.2.2.2.2.2.2)) else (0, n)
def ns_ans (n : NS) (c y : Int32) : Int32 × NS := if c < 0 then (0, n) else if 6 ≤ c then (0, n) else if n.2.2.2.1 c.toNatClampNeg = 1 then (1, (n.1, n.2.1, n.2.2.1, upd n.2.2.2.1 c.toNatClampNeg (if y = 0 then 3 else 2), n.2.2.2.2.1, n.2.2.2.2.2.1, n.2.2.2.2.2.2)) else (0, n)
def ns_sil (n : NS) (t : Int32) : Nat × NS := ((sp_sil n.2.2.2.2.1 n.2.2.2.2.2.1 t n.2.2.2.1 6).2, (n.1, n.2.1, n.2.2.1, (sp_sil n.2.2.2.2.1 n.2.2.2.2.2.1 t n.2.2.2.1 6).1, n.2.2.2.2.1, n.2.2.2.2.2.1, n.2.2.2.2.2.2))
def ns_bank (n : NS) (c : Int64) : NS := (n.1, n.2.1, n.2.2.1, n.2.2.2.1, n.2.2.2.2.1, n.2.2.2.2.2.1, n.2.2.2.2.2.2 + c)
def ms_ent (m : MS) (s t : Int32) : MS := (m.1, m.2.1, m.2.2.1, m.2.2.2.1, m.2.2.2.2.1, s, t, m.2.2.2.2.2.2.2)
def ms_mark (m : MS) : MS := (m.1, m.2.1, m.2.2.1, m.2.2.2.1, m.2.2.2.2.1, m.2.2.2.2.2.1, m.2.2.2.2.2.2.1, 1)
def ms_addc (m : MS) (c : Int32) : Int32 × MS := if 6 ≤ m.2.2.2.2.1 then (-1, m) else if sp_back m.2.2.2.1 m.2.2.2.2.1 0 = c then (-1, m) else (nI (m.2.2.2.2.1 + 1), (m.1, m.2.1, m.2.2.1, upd m.2.2.2.1 m.2.2.2.2.1 c, m.2.2.2.2.1 + 1, m.2.2.2.2.2.1, m.2.2.2.2.2.2.1, m.2.2.2.2.2.2.2))
theorem ns_ask_01 (n : NS) (c d t : Int32) : (ns_ask n c d t).1 = 0 ∨ (ns_ask n c d t).1 = 1 := by
  unfold ns_ask
  split
  · exact Or.inl rfl
  · split
    · exact Or.inl rfl
    · split
      · exact Or.inr rfl
      · exact Or.inl rfl
theorem ns_ans_01 (n : NS) (c y : Int32) : (ns_ans n c y).1 = 0 ∨ (ns_ans n c y).1 = 1 := by
  unfold ns_ans
  split
  · exact Or.inl rfl
  · split
    · exact Or.inl rfl
    · split
      · exact Or.inr rfl
      · exact Or.inl rfl
section CSP
variable {cs : Nat → ClassId} {L : List Nat} {f : Nat → va_E} {ad : Nat → Nat} {t lm : Int32} {nN nM : Nat} {ns : Nat → NS} {ms : Nat → MS} {rt : Nat → Int32} {pg : sp_P}
theorem PS.ask (h : PS cs L f ad t lm nN nM ns ms rt pg) {i : Nat} (hi : i < nN) (c d t' : Int32) : (sp_ask f cs (ad (9 + 4 * i)) (ad (10 + 4 * i)) (ad (11 + 4 * i)) (ns i).2.2.2.1 (ns i).2.2.2.2.1 (ns i).2.2.2.2.2.1 c d t').1 = (ns_ask (ns i) c d t').1 ∧ PS cs L (sp_ask f cs (ad (9 + 4 * i)) (ad (10 + 4 * i)) (ad (11 + 4 * i)) (ns i).2.2.2.1 (ns i).2.2.2.2.1 (ns i).2.2.2.2.2.1 c d t').2 ad t lm nN nM (va_up ns i (ns_ask (ns i) c d t').2) ms rt pg := by
  have same : PS cs L f ad t lm nN nM (va_up ns i (ns i)) ms rt pg := by rw [va_up_same]; exact h
  unfold sp_ask ns_ask
  by_cases c1 : c < 0
  · rw [if_pos c1, if_pos c1]; exact ⟨rfl, same⟩
  rw [if_neg c1, if_neg c1]
  by_cases c2 : 6 ≤ c
  · rw [if_pos c2, if_pos c2]; exact ⟨rfl, same⟩
  rw [if_neg c2, if_neg c2]
  by_cases c3 : (ns i).2.2.2.1 c.toNatClampNeg = 0
  · rw [if_pos c3, if_pos c3]
    obtain ⟨⟨a, b, c', d'⟩, ⟨a1, b1, c1', d1⟩, n12, n13, n23⟩ := h.nt hi
    refine ⟨rfl, h.notice hi (fun r hr hb => ?_) ⟨⟨a, b, c', d'⟩, ⟨?_, ?_, ?_, va_up_self _ _ _⟩, n12, n13, n23⟩⟩
    · dsimp only
      rw [va_up_ne _ _ (h.ne hr (show ps_use nN nM (11 + 4 * i) from Or.inr (Or.inl ⟨by omega, by omega⟩)) (by omega)), va_up_ne _ _ (h.ne hr (show ps_use nN nM (10 + 4 * i) from Or.inr (Or.inl ⟨by omega, by omega⟩)) (by omega)), va_up_ne _ _ (h.ne hr (show ps_use nN nM (9 + 4 * i) from Or.inr (Or.inl ⟨by omega, by omega⟩)) (by omega))]
    · dsimp only
      rw [va_up_ne _ _ (pe_ro a1 d1), va_up_ne _ _ (pe_ro a1 c1'), va_up_ne _ _ (pe_ro a1 b1)]
      exact a1
    · dsimp only
      rw [va_up_ne _ _ n13, va_up_ne _ _ n12, va_up_self]
    · dsimp only
      rw [va_up_ne _ _ n23, va_up_self]
  · rw [if_neg c3, if_neg c3]; exact ⟨rfl, same⟩
theorem PS.an (h : PS cs L f ad t lm nN nM ns ms rt pg) {i : Nat} (hi : i < nN) (g : Nat → Int32) : PS cs L (va_up f (ad (9 + 4 * i)) (.inl (cs 0, 6, .inl g))) ad t lm nN nM (va_up ns i ((ns i).1, (ns i).2.1, (ns i).2.2.1, g, (ns i).2.2.2.2.1, (ns i).2.2.2.2.2.1, (ns i).2.2.2.2.2.2)) ms rt pg := by
  obtain ⟨⟨a, b, c', d'⟩, ⟨a1, b1, c1', d1⟩, n12, n13, n23⟩ := h.nt hi
  refine h.notice hi (fun r hr hb => va_up_ne _ _ (h.ne hr (show ps_use nN nM (9 + 4 * i) from Or.inr (Or.inl ⟨by omega, by omega⟩)) (by omega))) ⟨⟨a, b, c', d'⟩, ⟨?_, va_up_self _ _ _, ?_, ?_⟩, n12, n13, n23⟩
  · rw [va_up_ne _ _ (pe_ro a1 b1)]; exact a1
  · rw [va_up_ne _ _ n12.symm]; exact c1'
  · rw [va_up_ne _ _ n13.symm]; exact d1
theorem PS.ans (h : PS cs L f ad t lm nN nM ns ms rt pg) {i : Nat} (hi : i < nN) (c y : Int32) : (sp_answer f cs (ad (9 + 4 * i)) (ns i).2.2.2.1 c y).1 = (ns_ans (ns i) c y).1 ∧ PS cs L (sp_answer f cs (ad (9 + 4 * i)) (ns i).2.2.2.1 c y).2 ad t lm nN nM (va_up ns i (ns_ans (ns i) c y).2) ms rt pg := by
  have same : PS cs L f ad t lm nN nM (va_up ns i (ns i)) ms rt pg := by rw [va_up_same]; exact h
  unfold sp_answer ns_ans
  by_cases c1 : c < 0
  · rw [if_pos c1, if_pos c1]; exact ⟨rfl, same⟩
  rw [if_neg c1, if_neg c1]
  by_cases c2 : 6 ≤ c
  · rw [if_pos c2, if_pos c2]; exact ⟨rfl, same⟩
  rw [if_neg c2, if_neg c2]
  by_cases c3 : (ns i).2.2.2.1 c.toNatClampNeg = 1
  · rw [if_pos c3, if_pos c3]
    exact ⟨rfl, h.an hi _⟩
  · rw [if_neg c3, if_neg c3]; exact ⟨rfl, same⟩
theorem PS.sil (h : PS cs L f ad t lm nN nM ns ms rt pg) {i : Nat} (hi : i < nN) (t' : Int32) : PS cs L (va_up f (ad (9 + 4 * i)) (.inl (cs 0, 6, .inl (sp_sil (ns i).2.2.2.2.1 (ns i).2.2.2.2.2.1 t' (ns i).2.2.2.1 6).1))) ad t lm nN nM (va_up ns i (ns_sil (ns i) t').2) ms rt pg := h.an hi _
theorem PS.cents (h : PS cs L f ad t lm nN nM ns ms rt pg) {i : Nat} (hi : i < nN) (c : Int64) : PS cs L (va_up f (ad (8 + 4 * i)) (.inr (1, [.long (ns i).1, .int (ns i).2.1, .int (ns i).2.2.1, .ref (ad (9 + 4 * i)), .ref (ad (10 + 4 * i)), .ref (ad (11 + 4 * i)), .long ((ns i).2.2.2.2.2.2 + c)]))) ad t lm nN nM (va_up ns i (ns_bank (ns i) c)) ms rt pg := by
  obtain ⟨⟨a, b, c', d'⟩, ⟨a1, b1, c1', d1⟩, n12, n13, n23⟩ := h.nt hi
  refine h.notice hi (fun r hr hb => va_up_ne _ _ (h.ne hr (show ps_use nN nM (8 + 4 * i) from Or.inr (Or.inl ⟨by omega, by omega⟩)) (by omega))) ⟨⟨a, b, c', d'⟩, ⟨va_up_self _ _ _, ?_, ?_, ?_⟩, n12, n13, n23⟩
  · rw [va_up_ne _ _ (pe_ro a1 b1).symm]; exact b1
  · rw [va_up_ne _ _ (pe_ro a1 c1').symm]; exact c1'
  · rw [va_up_ne _ _ (pe_ro a1 d1).symm]; exact d1
/-- a move's own numbers change -/
theorem PS.mobj (h : PS cs L f ad t lm nN nM ns ms rt pg) {j : Nat} (hj : j < nM) (s' t' k' : Int32) : PS cs L (va_up f (ad (32 + 2 * j)) (.inr (0, [.int (ms j).1, .long (ms j).2.1, .int (ms j).2.2.1, .ref (ad (33 + 2 * j)), .int (nI (ms j).2.2.2.2.1), .int s', .int t', .int k']))) ad t lm nN nM ns (va_up ms j ((ms j).1, (ms j).2.1, (ms j).2.2.1, (ms j).2.2.2.1, (ms j).2.2.2.2.1, s', t', k')) rt pg := by
  obtain ⟨⟨⟨a, b⟩, a1, b1⟩, x⟩ := h.mv hj
  refine h.move hj (fun r hr hb => va_up_ne _ _ (h.ne hr (show ps_use nN nM (32 + 2 * j) from Or.inr (Or.inr ⟨by omega, by omega⟩)) (by omega))) ⟨⟨⟨a, b⟩, va_up_self _ _ _, ?_⟩, x⟩
  rw [va_up_ne _ _ (pe_ro a1 b1).symm]; exact b1
theorem PS.addc (h : PS cs L f ad t lm nN nM ns ms rt pg) {j : Nat} (hj : j < nM) (c : Int32) : (sp_addc f cs (ad (32 + 2 * j)) (ad (33 + 2 * j)) (ms j).1 (ms j).2.1 (ms j).2.2.1 (ms j).2.2.2.1 (ms j).2.2.2.2.1 (ms j).2.2.2.2.2.1 (ms j).2.2.2.2.2.2.1 (ms j).2.2.2.2.2.2.2 c).1 = (ms_addc (ms j) c).1 ∧ PS cs L (sp_addc f cs (ad (32 + 2 * j)) (ad (33 + 2 * j)) (ms j).1 (ms j).2.1 (ms j).2.2.1 (ms j).2.2.2.1 (ms j).2.2.2.2.1 (ms j).2.2.2.2.2.1 (ms j).2.2.2.2.2.2.1 (ms j).2.2.2.2.2.2.2 c).2 ad t lm nN nM ns (va_up ms j (ms_addc (ms j) c).2) rt pg := by
  have same : PS cs L f ad t lm nN nM ns (va_up ms j (ms j)) rt pg := by rw [va_up_same]; exact h
  unfold sp_addc ms_addc
  by_cases c1 : 6 ≤ (ms j).2.2.2.2.1
  · rw [if_pos c1, if_pos c1]; exact ⟨rfl, same⟩
  rw [if_neg c1, if_neg c1]
  by_cases c2 : sp_back (ms j).2.2.2.1 (ms j).2.2.2.2.1 0 = c
  · rw [if_pos c2, if_pos c2]; exact ⟨rfl, same⟩
  rw [if_neg c2, if_neg c2]
  obtain ⟨⟨⟨a, b⟩, a1, b1⟩, x⟩ := h.mv hj
  refine ⟨rfl, h.move hj (fun r hr hb => ?_) ⟨⟨⟨a, b⟩, va_up_self _ _ _, ?_⟩, (by show (ms j).2.2.2.2.1 + 1 ≤ 6; omega)⟩⟩
  · dsimp only
    rw [va_up_ne _ _ (h.ne hr (show ps_use nN nM (32 + 2 * j) from Or.inr (Or.inr ⟨by omega, by omega⟩)) (by omega)), va_up_ne _ _ (h.ne hr (show ps_use nN nM (33 + 2 * j) from Or.inr (Or.inr ⟨by omega, by omega⟩)) (by omega))]
  · dsimp only
    rw [va_up_ne _ _ (pe_ro a1 b1).symm, va_up_self]
end CSP
-- what the calls answer and leave
def sC_dn (a : Int32) (ns : Nat → NS) : Nat → Int32 × (Nat → NS)
  | 0 => (0, ns)
  | k + 1 => ((sC_dn a ns k).1 + nI (ns_sil ((sC_dn a ns k).2 k) a).1, va_up (sC_dn a ns k).2 k (ns_sil ((sC_dn a ns k).2 k) a).2)
def sC_day (x : CST) (a : Int32) : Int32 × CST := if a < x.1 then (-1, x) else if a ≤ 100000 then ((sC_dn a x.2.2.2.2.1 x.2.2.1).1, (a, x.2.1, x.2.2.1, x.2.2.2.1, (sC_dn a x.2.2.2.2.1 x.2.2.1).2, x.2.2.2.2.2.1, x.2.2.2.2.2.2)) else (-1, x)
def sC_notice (x : CST) (g : Int64) (fr to : Int32) : Int32 × CST := if 6 ≤ x.2.2.1 then (-1, x) else if g < 1 then (-1, x) else if g ≤ 1000000000 then (if fr < 0 then (-1, x) else if to < fr then (-1, x) else if to ≤ 100000 then (nI x.2.2.1, (x.1, x.2.1, x.2.2.1 + 1, x.2.2.2.1, va_up x.2.2.2.2.1 x.2.2.1 (g, fr, to, fun _ => 0, fun _ => 0, fun _ => 0, 0), x.2.2.2.2.2.1, x.2.2.2.2.2.2)) else (-1, x)) else (-1, x)
def sC_country (x : CST) (n c d : Int32) : Int32 × CST := match ix x.2.2.1 n with
  | none => (0, x)
  | some i => if d < 0 then (0, x) else if d ≤ 1000 then ((ns_ask (x.2.2.2.2.1 i) c d x.1).1, (x.1, x.2.1, x.2.2.1, x.2.2.2.1, va_up x.2.2.2.2.1 i (ns_ask (x.2.2.2.2.1 i) c d x.1).2, x.2.2.2.2.2.1, x.2.2.2.2.2.2)) else (0, x)
def sC_says (x : CST) (n c y : Int32) : Int32 × CST := match ix x.2.2.1 n with
  | none => (0, x)
  | some i => ((ns_ans (x.2.2.2.2.1 i) c y).1, (x.1, x.2.1, x.2.2.1, x.2.2.2.1, va_up x.2.2.2.2.1 i (ns_ans (x.2.2.2.2.1 i) c y).2, x.2.2.2.2.2.1, x.2.2.2.2.2.2))
def sC_move (x : CST) (n : Int32) (g : Int64) (d : Int32) : Int32 × CST := match ix x.2.2.1 n with
  | none => (-1, x)
  | some i => if 12 ≤ x.2.2.2.1 then (-1, x) else if 1 ≤ g then (if sp_covers (x.2.2.2.2.1 i).2.1 (x.2.2.2.2.1 i).2.2.1 d = 0 then (-1, x) else if x.1 + 3 ≤ d then (if sp_state (x.2.2.2.2.1 i).2.2.2.1 (x.2.2.2.2.1 i).2.2.1 x.1 = 1 then (if g ≤ (x.2.2.2.2.1 i).1 - sC_gim x.2.2.2.2.2.1 n x.2.2.2.1 then (nI x.2.2.2.1, (x.1, x.2.1, x.2.2.1, x.2.2.2.1 + 1, x.2.2.2.2.1, va_up x.2.2.2.2.2.1 x.2.2.2.1 (n, g, d, fun _ => 0, 0, 0, x.1, 0), x.2.2.2.2.2.2)) else (-3, x)) else (-2, x)) else (-1, x)) else (-1, x)
def sC_right (x : CST) (p e o : Int32) : Int32 × CST := match ix 8 p with
  | none => (0, x)
  | some a => match ix 5 e with
    | none => (0, x)
    | some b => (1, (x.1, x.2.1, x.2.2.1, x.2.2.2.1, x.2.2.2.2.1, x.2.2.2.2.2.1, upd x.2.2.2.2.2.2 (a * 5 + b) (vp_nar .boolean o)))
def sC_evR (x : CST) (j : Nat) (s : Int32) : Int32 × CST := (s, (x.1, x.2.1, x.2.2.1, x.2.2.2.1, x.2.2.2.2.1, va_up x.2.2.2.2.2.1 j (ms_ent (x.2.2.2.2.2.1 j) s x.1), x.2.2.2.2.2.2))
def sC_ev2 (x : CST) (j : Nat) (e s : Int32) : Int32 × CST := if e = 2 then (if m_mk (x.2.2.2.2.2.1 j) = 0 then (-5, x) else sC_evR x j s) else sC_evR x j s
def sC_event (x : CST) (m e p : Int32) : Int32 × CST := match ix x.2.2.2.1 m with
  | none => (-1, x)
  | some j => match ix 5 e with
    | none => (-1, x)
    | some _ => match ix 8 p with
      | none => (-1, x)
      | some _ => if sC_may x.2.2.2.2.2.2 p e = 0 then (-2, x) else if sC_next e (m_st (x.2.2.2.2.2.1 j)) = -1 then (-3, x) else if e = 0 then (if sC_can x.1 x.2.2.1 x.2.2.2.2.1 (x.2.2.2.2.2.1 j) = 0 then (-4, x) else sC_ev2 x j e (sC_next e (m_st (x.2.2.2.2.2.1 j)))) else sC_ev2 x j e (sC_next e (m_st (x.2.2.2.2.2.1 j)))
def sC_mark (x : CST) (m a b : Int32) : Int32 × CST := match ix x.2.2.2.1 m with
  | none => (0, x)
  | some j => if m_st (x.2.2.2.2.2.1 j) = 2 then (if m_mk (x.2.2.2.2.2.1 j) = 0 then (if a = b then (0, x) else if sC_may x.2.2.2.2.2.2 a 2 = 0 then (0, x) else if sC_may x.2.2.2.2.2.2 b 2 = 0 then (0, x) else (1, (x.1, x.2.1, x.2.2.1, x.2.2.2.1, x.2.2.2.2.1, va_up x.2.2.2.2.2.1 j (ms_mark (x.2.2.2.2.2.1 j)), x.2.2.2.2.2.2))) else (0, x)) else (0, x)
def sC_bank (x : CST) (n : Int32) (c : Int64) : Int32 × CST := match ix x.2.2.1 n with
  | none => (0, x)
  | some i => if c < 1 then (0, x) else if c ≤ 1000000000 then (if n_ct (x.2.2.2.2.1 i) + c ≤ 10000000000 then (1, (x.1, x.2.1, x.2.2.1, x.2.2.2.1, va_up x.2.2.2.2.1 i (ns_bank (x.2.2.2.2.1 i) c), x.2.2.2.2.2.1, x.2.2.2.2.2.2)) else (0, x)) else (0, x)
def sC_limit (x : CST) (d : Int32) : Int32 × CST := if d < 0 then (0, x) else if d ≤ 1000 then (1, (x.1, d, x.2.2.1, x.2.2.2.1, x.2.2.2.2.1, x.2.2.2.2.2.1, x.2.2.2.2.2.2)) else (0, x)
def sC_carrier (x : CST) (m c : Int32) : Int32 × CST := match ix x.2.2.2.1 m with
  | none => (-1, x)
  | some j => if m_st (x.2.2.2.2.2.1 j) = 1 then (if c < 0 then (-1, x) else if c < 100 then ((ms_addc (x.2.2.2.2.2.1 j) c).1, (x.1, x.2.1, x.2.2.1, x.2.2.2.1, x.2.2.2.2.1, va_up x.2.2.2.2.2.1 j (ms_addc (x.2.2.2.2.2.1 j) c).2, x.2.2.2.2.2.2)) else (-1, x)) else (-1, x)
end
section
/-! The class: methods that write (1). Laid by wip/gen/cwrites.py. -/
set_option maxHeartbeats 4000000 in
set_option maxRecDepth 100000 in
theorem k_C_limit (l : Launch) (G : va_G) (cs : Nat → ClassId) (L : List Nat) (f : Nat → va_E) (sz : Nat) (ad : Nat → Nat) (t lm : Int32) (nN nM : Nat) (ns : Nat → NS) (ms : Nat → MS) (rt : Nat → Int32) (pg : sp_P) (d : Int32) (h0 : PS cs L f ad t lm nN nM ns ms rt pg) : Met l yX3_limit (Cond.code yX3_limit cX3_limit 2 (some FieldType.boolean) :: wg) ({ frames := 0, cells := 0, slots := 0, locals := 0 }) (pc_P [.ref (ad 0), .int d] G vwCl (tyl cs) L f sz (fun _ => True)) (va_Qi (fun r u => ∃ ad' pg', ad' 0 = ad 0 ∧ r = (sC_limit (t, lm, nN, nM, ns, ms, rt) d).1 ∧ PSx cs u.1 u.2 ad' (sC_limit (t, lm, nN, nM, ns, ms, rt) d).2 pg') (pc_B G vwCl L sz) (pw_A L sz)) 0 0 (pw_A L sz) := by
  refine Met.ofW (cc := cX3_limit) (maxL := 2) (ret := (some FieldType.boolean)) (by decide) rfl ?_
  intro p e s m args below meth c s₁ B hml hv
  obtain ⟨rfl, hsz, hP, hK, hD0, hX⟩ := hv
  have hx := B.exec
  have hb := B.bytes
  have hr := B.returns
  have hts0 := atoms_spec (ws := (Cond.code yX3_limit cX3_limit 2 (some FieldType.boolean) :: wg)) B.pre
  have hts := fun (w : Cond) (h : w ∈ wg) => hts0 w (List.mem_cons_of_mem _ h)
  have hown : s.vm.findClass RX3 = some m.cls := findClass_of_methodNamed B.named
  have hlocks := B.notSynchronized
  subst hsz
  have hD := pw_selfD (sz := s.heap.size) hD0
  have hA : ∀ q : Nat, s.heap.size ≤ q → pw_A L s.heap.size q := fun q h => Or.inr h
  have hS : va_S (pw_A L s.heap.size) s.heap s.heap [] := va_S.rf
  have hl := lv_entry ([.ref (ad 0), .int d]) (n := 2) (Nat.le_of_ble_eq_true rfl)
  rw [lg_entry_eq]
  generalize (lg_sl ([.ref (ad 0), .int d]) ++ List.replicate (2 - (lg_sl ([.ref (ad 0), .int d])).length) Slot.unset).toArray = ls at hl ⊢
  have hl : lv_has ls 2 [(0, .ref (ad 0)), (1, .int d)] := hl
  have hN6 := h0.nN6
  have hM12 := h0.nM12
  have m0 := h0.mem (pu_lo (r := 0) (by decide))
  have e0 := h0.e0
  have m1 := h0.mem (pu_lo (r := 1) (by decide))
  have e1 := h0.e1
  have m2 := h0.mem (pu_lo (r := 2) (by decide))
  have e2 := h0.e2
  have m3 := h0.mem (pu_lo (r := 3) (by decide))
  have e3 := h0.e3
  refine lv_iload_n hx hb dX3_limit_0 rfl (lv_at hl 1 rfl) ?_
  refine lv_if_lt (tgt := 11) hx hb dX3_limit_1 (by decide) (fun c_1 => ?_) (fun c_1 => ?_)
  · refine lv_iconst (v := 0) hx hb dX3_limit_11 (by decide) ?_
    have hsp : sC_limit (t, lm, nN, nM, ns, ms, rt) d = (0, (t, lm, nN, nM, ns, ms, rt)) := by simp [sC_limit, c_1]
    exact pc_retz hx hb hr rfl hlocks hP hD hS dX3_limit_12 ⟨ad, pg, rfl, by rw [hsp], by rw [hsp]; exact h0⟩
  · refine lv_iload_n hx hb dX3_limit_4 rfl (lv_at hl 1 rfl) ?_
    refine lv_sipush (v := 1000) hx hb dX3_limit_5 (by decide) ?_
    refine lv_icmp_le (tgt := 13) hx hb dX3_limit_8 (by decide) (fun c_8 => ?_) (fun c_8 => ?_)
    · refine lv_aload_n hx hb dX3_limit_13 rfl (lv_at hl 0 rfl) ?_
      refine lv_iload_n hx hb dX3_limit_14 rfl (lv_at hl 1 rfl) ?_
      refine pw_put (ty := .int) (ci := 3) (v := .int d) (C := RX3) (T := TX3) (N := 8) hx hb hts inX3 tyX3 tyX3_ok nmX3 hown hK hP hD hS m0 e0 rfl 7 (by decide) (hts _ mw_40) (fun _ h9 => h9) rfl (by decide +kernel) rfl rfl (Nat.le_of_ble_eq_true rfl) dX3_limit_15 (fun H locs hP hD hS => ?_)
      obtain ⟨f_1, ef_1⟩ : ∃ zz : Nat → va_E, zz = va_up f (ad 0) (.inr (3, [.ref (ad 1), .ref (ad 2), .ref (ad 3), .ref (ad 4), .int (nI nN), .int (nI nM), .int t, .int d])) := ⟨_, rfl⟩
      have hP : va_P G vwCl (va_pl L f_1) H := by rw [ef_1]; exact hP
      have hD : va_D (pw_A L s.heap.size) (va_pl L f_1) := by rw [ef_1]; exact hD
      have hf_1_ad_0 : f_1 (ad 0) = .inr (3, [.ref (ad 1), .ref (ad 2), .ref (ad 3), .ref (ad 4), .int (nI nN), .int (nI nM), .int t, .int d]) := by rw [ef_1]; exact va_up_self _ _ _
      refine lv_iconst (v := 1) hx hb dX3_limit_18 (by decide) ?_
      have hps := h0.main t d
      have efm : f_1 = va_up f (ad 0) (ps_0 ad t d nN nM) := ef_1
      rw [← efm] at hps
      have hsp : sC_limit (t, lm, nN, nM, ns, ms, rt) d = (1, (t, d, nN, nM, ns, ms, rt)) := by simp [sC_limit, c_1, c_8]
      exact pc_retz hx hb hr rfl hlocks hP hD hS dX3_limit_19 ⟨ad, pg, rfl, by rw [hsp], by rw [hsp]; exact hps⟩
    · refine lv_iconst (v := 0) hx hb dX3_limit_11 (by decide) ?_
      have hsp : sC_limit (t, lm, nN, nM, ns, ms, rt) d = (0, (t, lm, nN, nM, ns, ms, rt)) := by simp [sC_limit, c_1, c_8]
      exact pc_retz hx hb hr rfl hlocks hP hD hS dX3_limit_12 ⟨ad, pg, rfl, by rw [hsp], by rw [hsp]; exact h0⟩

set_option maxHeartbeats 4000000 in
set_option maxRecDepth 100000 in
theorem k_C_right (l : Launch) (G : va_G) (cs : Nat → ClassId) (L : List Nat) (f : Nat → va_E) (sz : Nat) (ad : Nat → Nat) (t lm : Int32) (nN nM : Nat) (ns : Nat → NS) (ms : Nat → MS) (rt : Nat → Int32) (pg : sp_P) (p_ e_ o_ : Int32) (h0 : PS cs L f ad t lm nN nM ns ms rt pg) : Met l yX3_right (Cond.code yX3_right cX3_right 4 (some FieldType.boolean) :: wg) ({ frames := 1, cells := 0, slots := 0, locals := 20 }) (pc_P [.ref (ad 0), .int p_, .int e_, .int o_] G vwCl (tyl cs) L f sz (fun _ => True)) (va_Qi (fun r u => ∃ ad' pg', ad' 0 = ad 0 ∧ r = (sC_right (t, lm, nN, nM, ns, ms, rt) p_ e_ o_).1 ∧ PSx cs u.1 u.2 ad' (sC_right (t, lm, nN, nM, ns, ms, rt) p_ e_ o_).2 pg') (pc_B G vwCl L sz) (pw_A L sz)) 0 0 (pw_A L sz) := by
  refine Met.ofW (cc := cX3_right) (maxL := 4) (ret := (some FieldType.boolean)) (by decide) rfl ?_
  intro p e s m args below meth c s₁ B hml hv
  obtain ⟨rfl, hsz, hP, hK, hD0, hX⟩ := hv
  have hx := B.exec
  have hb := B.bytes
  have hr := B.returns
  have hts0 := atoms_spec (ws := (Cond.code yX3_right cX3_right 4 (some FieldType.boolean) :: wg)) B.pre
  have hts := fun (w : Cond) (h : w ∈ wg) => hts0 w (List.mem_cons_of_mem _ h)
  have hown : s.vm.findClass RX3 = some m.cls := findClass_of_methodNamed B.named
  have hlocks := B.notSynchronized
  subst hsz
  have hD := pw_selfD (sz := s.heap.size) hD0
  have hA : ∀ q : Nat, s.heap.size ≤ q → pw_A L s.heap.size q := fun q h => Or.inr h
  have hS : va_S (pw_A L s.heap.size) s.heap s.heap [] := va_S.rf
  have hl := lv_entry ([.ref (ad 0), .int p_, .int e_, .int o_]) (n := 4) (Nat.le_of_ble_eq_true rfl)
  rw [lg_entry_eq]
  generalize (lg_sl ([.ref (ad 0), .int p_, .int e_, .int o_]) ++ List.replicate (4 - (lg_sl ([.ref (ad 0), .int p_, .int e_, .int o_])).length) Slot.unset).toArray = ls at hl ⊢
  have hl : lv_has ls 4 [(0, .ref (ad 0)), (1, .int p_), (2, .int e_), (3, .int o_)] := hl
  have hN6 := h0.nN6
  have hM12 := h0.nM12
  have m0 := h0.mem (pu_lo (r := 0) (by decide))
  have e0 := h0.e0
  have m1 := h0.mem (pu_lo (r := 1) (by decide))
  have e1 := h0.e1
  have m2 := h0.mem (pu_lo (r := 2) (by decide))
  have e2 := h0.e2
  have m3 := h0.mem (pu_lo (r := 3) (by decide))
  have e3 := h0.e3
  refine lv_iload_n hx hb dX3_right_0 rfl (lv_at hl 1 rfl) ?_
  refine pr_callSi (As := [.int p_]) (rest := []) ⟨hx, hb, hml, hown, hts⟩ (k_C_isP l G cs L f p_) (cwS 1 hts (wg_S mw_198 mw_199 mw_1 mw_200) rfl rfl rfl (by decide +kernel) ⟨Nat.le_of_ble_eq_true rfl, Nat.le_of_ble_eq_true rfl⟩) hK hP px_T (fun _ _ _ => trivial) rfl hl.1 rfl (lv_room (Nat.le_of_ble_eq_true rfl)) dX3_right_1 ⟨Nat.le_of_ble_eq_true rfl, Nat.le_of_ble_eq_true rfl⟩ (fun r_1 hr_1 => ?_)
  rcases sp_in_cases (m := 8) (by decide) p_ with ⟨hxa, hsa⟩ | ⟨a, ha, ena, hxa, hsa⟩
  · obtain rfl : r_1 = 0 := by rw [hr_1, hsa]
    refine lv_if_eq (tgt := 14) hx hb dX3_right_4 (by decide) (fun c_4 => ?_) (fun c_4 => ?_)
    · refine lv_iconst (v := 0) hx hb dX3_right_14 (by decide) ?_
      have hsp : sC_right (t, lm, nN, nM, ns, ms, rt) p_ e_ o_ = (0, (t, lm, nN, nM, ns, ms, rt)) := by simp [sC_right, hxa]
      exact pc_retz hx hb hr rfl hlocks hP hD hS dX3_right_15 ⟨ad, pg, rfl, by rw [hsp], by rw [hsp]; exact h0⟩
    · exact absurd c_4 (by decide)
  · obtain rfl : r_1 = 1 := by rw [hr_1, hsa]
    refine lv_if_eq (tgt := 14) hx hb dX3_right_4 (by decide) (fun c_4 => ?_) (fun c_4 => ?_)
    · exact absurd c_4 (by decide)
    · refine lv_iload_n hx hb dX3_right_7 rfl (lv_at hl 2 rfl) ?_
      refine pr_callSi (As := [.int e_]) (rest := []) ⟨hx, hb, hml, hown, hts⟩ (k_C_isE l G cs L f e_) (cwS 1 hts (wg_S mw_201 mw_202 mw_1 mw_203) rfl rfl rfl (by decide +kernel) ⟨Nat.le_of_ble_eq_true rfl, Nat.le_of_ble_eq_true rfl⟩) hK hP px_T (fun _ _ _ => trivial) rfl hl.1 rfl (lv_room (Nat.le_of_ble_eq_true rfl)) dX3_right_8 ⟨Nat.le_of_ble_eq_true rfl, Nat.le_of_ble_eq_true rfl⟩ (fun r_2 hr_2 => ?_)
      rcases sp_in_cases (m := 5) (by decide) e_ with ⟨hxb, hsb⟩ | ⟨b, hb_, enb, hxb, hsb⟩
      · obtain rfl : r_2 = 0 := by rw [hr_2, hsb]
        refine lv_if_ne (tgt := 16) hx hb dX3_right_11 (by decide) (fun c_11 => ?_) (fun c_11 => ?_)
        · exact absurd c_11 (by decide)
        · refine lv_iconst (v := 0) hx hb dX3_right_14 (by decide) ?_
          have hsp : sC_right (t, lm, nN, nM, ns, ms, rt) p_ e_ o_ = (0, (t, lm, nN, nM, ns, ms, rt)) := by simp [sC_right, hxa, hxb]
          exact pc_retz hx hb hr rfl hlocks hP hD hS dX3_right_15 ⟨ad, pg, rfl, by rw [hsp], by rw [hsp]; exact h0⟩
      · obtain rfl : r_2 = 1 := by rw [hr_2, hsb]
        refine lv_if_ne (tgt := 16) hx hb dX3_right_11 (by decide) (fun c_11 => ?_) (fun c_11 => ?_)
        · refine lv_aload_n hx hb dX3_right_16 rfl (lv_at hl 0 rfl) ?_
          refine pw_get (ci := 3) (C := RX3) (T := TX3) (N := 8) hx hb hts inX3 hown hK hP m0 e0 rfl 2 (by decide) (hts _ mw_35) (fun _ h9 => h9) rfl dX3_right_17 ?_
          refine lv_iload_n hx hb dX3_right_20 rfl (lv_at hl 1 rfl) ?_
          refine lv_iconst (v := 5) hx hb dX3_right_21 (by decide) ?_
          refine lv_imul hx hb dX3_right_22 ?_
          refine lv_iload_n hx hb dX3_right_23 rfl (lv_at hl 2 rfl) ?_
          refine lv_iadd hx hb dX3_right_24 ?_
          refine lv_iload_n hx hb dX3_right_25 rfl (lv_at hl 3 rfl) ?_
          have eix : p_ * 5 + e_ = nI (a * 5 + b) := by rw [ena, enb]; exact rt_ix ha hb_
          rw [eix]
          refine pw_zastN (k := a * 5 + b) hx hb hK hP hD hS m3 2 e3 rfl (by omega) (by decide) dX3_right_26 (fun H locs hP hD hS => ?_)
          obtain ⟨f_3, ef_3⟩ : ∃ zz : Nat → va_E, zz = va_up f (ad 3) (.inl (cs 2, 40, .inl (upd rt (a * 5 + b) (vp_nar .boolean o_)))) := ⟨_, rfl⟩
          have hP : va_P G vwCl (va_pl L f_3) H := by rw [ef_3]; exact hP
          have hD : va_D (pw_A L s.heap.size) (va_pl L f_3) := by rw [ef_3]; exact hD
          have hf_3_ad_3 : f_3 (ad 3) = .inl (cs 2, 40, .inl (upd rt (a * 5 + b) (vp_nar .boolean o_))) := by rw [ef_3]; exact va_up_self _ _ _
          refine lv_iconst (v := 1) hx hb dX3_right_27 (by decide) ?_
          have hps := h0.rights (upd rt (a * 5 + b) (vp_nar .boolean o_))
          rw [← ef_3] at hps
          have hsp : sC_right (t, lm, nN, nM, ns, ms, rt) p_ e_ o_ = (1, (t, lm, nN, nM, ns, ms, upd rt (a * 5 + b) (vp_nar .boolean o_))) := by simp [sC_right, hxa, hxb]
          exact pc_retz hx hb hr rfl hlocks hP hD hS dX3_right_28 ⟨ad, pg, rfl, by rw [hsp], by rw [hsp]; exact hps⟩
        · exact absurd c_11 (by decide)

set_option maxHeartbeats 4000000 in
set_option maxRecDepth 100000 in
theorem k_C_bank (l : Launch) (G : va_G) (cs : Nat → ClassId) (L : List Nat) (f : Nat → va_E) (sz : Nat) (ad : Nat → Nat) (t lm : Int32) (nN nM : Nat) (ns : Nat → NS) (ms : Nat → MS) (rt : Nat → Int32) (pg : sp_P) (n : Int32) (c_ : Int64) (h0 : PS cs L f ad t lm nN nM ns ms rt pg) : Met l yX3_bank (Cond.code yX3_bank cX3_bank 5 (some FieldType.boolean) :: wg) ({ frames := 1, cells := 0, slots := 0, locals := 21 }) (pc_P [.ref (ad 0), .int n, .long c_] G vwCl (tyl cs) L f sz (fun _ => True)) (va_Qi (fun r u => ∃ ad' pg', ad' 0 = ad 0 ∧ r = (sC_bank (t, lm, nN, nM, ns, ms, rt) n c_).1 ∧ PSx cs u.1 u.2 ad' (sC_bank (t, lm, nN, nM, ns, ms, rt) n c_).2 pg') (pc_B G vwCl L sz) (pw_A L sz)) 0 0 (pw_A L sz) := by
  refine Met.ofW (cc := cX3_bank) (maxL := 5) (ret := (some FieldType.boolean)) (by decide) rfl ?_
  intro p e s m args below meth c s₁ B hml hv
  obtain ⟨rfl, hsz, hP, hK, hD0, hX⟩ := hv
  have hx := B.exec
  have hb := B.bytes
  have hr := B.returns
  have hts0 := atoms_spec (ws := (Cond.code yX3_bank cX3_bank 5 (some FieldType.boolean) :: wg)) B.pre
  have hts := fun (w : Cond) (h : w ∈ wg) => hts0 w (List.mem_cons_of_mem _ h)
  have hown : s.vm.findClass RX3 = some m.cls := findClass_of_methodNamed B.named
  have hlocks := B.notSynchronized
  subst hsz
  have hD := pw_selfD (sz := s.heap.size) hD0
  have hA : ∀ q : Nat, s.heap.size ≤ q → pw_A L s.heap.size q := fun q h => Or.inr h
  have hS : va_S (pw_A L s.heap.size) s.heap s.heap [] := va_S.rf
  have hl := lv_entry ([.ref (ad 0), .int n, .long c_]) (n := 5) (Nat.le_of_ble_eq_true rfl)
  rw [lg_entry_eq]
  generalize (lg_sl ([.ref (ad 0), .int n, .long c_]) ++ List.replicate (5 - (lg_sl ([.ref (ad 0), .int n, .long c_])).length) Slot.unset).toArray = ls at hl ⊢
  have hl : lv_has ls 5 [(0, .ref (ad 0)), (1, .int n), (2, .long c_)] := hl
  have hN6 := h0.nN6
  have hM12 := h0.nM12
  have m0 := h0.mem (pu_lo (r := 0) (by decide))
  have e0 := h0.e0
  have m1 := h0.mem (pu_lo (r := 1) (by decide))
  have e1 := h0.e1
  have m2 := h0.mem (pu_lo (r := 2) (by decide))
  have e2 := h0.e2
  have m3 := h0.mem (pu_lo (r := 3) (by decide))
  have e3 := h0.e3
  refine lv_aload_n hx hb dX3_bank_0 rfl (lv_at hl 0 rfl) ?_
  refine lv_iload_n hx hb dX3_bank_1 rfl (lv_at hl 1 rfl) ?_
  refine pr_callVq (As := [.int n]) (rest := []) ⟨hx, hb, hml, hown, hts⟩ (k_C_nAt l G cs L f ad t lm nN nM ns ms rt pg n h0) (cwV 1 hts (wg_V mw_63 mw_65 ms_0 mw_1 mw_66) rfl rfl rfl (by decide +kernel) ⟨Nat.le_of_ble_eq_true rfl, Nat.le_of_ble_eq_true rfl⟩) hK hP m0 e0 rfl px_T (fun _ _ _ => trivial) rfl hl.1 rfl (lv_room (Nat.le_of_ble_eq_true rfl)) dX3_bank_2 ⟨Nat.le_of_ble_eq_true rfl, Nat.le_of_ble_eq_true rfl⟩ (fun r_1 hr_1 => ?_)
  rcases ix_cases (m := nN) (by omega) n with ⟨hxi, hnoi⟩ | ⟨i, hi, eni, hxi, hci, hdi⟩
  · obtain rfl : r_1 = none := by rw [hr_1, hxi]; rfl
    refine W.eq (g2 := F0 m 5 ls [.null]) rfl ?_
    refine lv_astoreN (lv' := [(4, .null), (0, .ref (ad 0)), (1, .int n), (2, .long c_)]) hx hb dX3_bank_5 hl (by decide) rfl (fun ls hl => ?_)
    refine lv_aloadN hx hb dX3_bank_7 (lv_at hl 0 rfl) ?_
    refine lv_ifnullN (tgt := 26) hx hb dX3_bank_9 (by decide) ?_
    refine lv_iconst (v := 0) hx hb dX3_bank_26 (by decide) ?_
    have hsp : sC_bank (t, lm, nN, nM, ns, ms, rt) n c_ = (0, (t, lm, nN, nM, ns, ms, rt)) := by simp [sC_bank, hxi]
    exact pc_retz hx hb hr rfl hlocks hP hD hS dX3_bank_27 ⟨ad, pg, rfl, by rw [hsp], by rw [hsp]; exact h0⟩
  · obtain rfl : r_1 = some (ad (8 + 4 * i)) := by rw [hr_1, hxi]; rfl
    refine W.eq (g2 := F0 m 5 ls [.ref (ad (8 + 4 * i))]) rfl ?_
    refine lv_astore (lv' := [(4, .ref (ad (8 + 4 * i))), (0, .ref (ad 0)), (1, .int n), (2, .long c_)]) hx hb dX3_bank_5 hl (by decide) rfl (fun ls hl => ?_)
    refine lv_aload hx hb dX3_bank_7 (lv_at hl 0 rfl) ?_
    refine lv_ifnull hx hb dX3_bank_9 ?_
    refine lv_lload_n hx hb dX3_bank_12 rfl (lv_at hl 3 rfl) ?_
    refine lv_lconst (v := 1) hx hb dX3_bank_13 (by decide) ?_
    refine W.lcmp hx hb dX3_bank_14 ?_
    refine lv_if_lt (tgt := 26) hx hb dX3_bank_15 (by decide) (fun c_15 => ?_) (fun c_15 => ?_)
    · have c_15 := (lg_cmp_lt _ _).mp c_15
      refine lv_iconst (v := 0) hx hb dX3_bank_26 (by decide) ?_
      have hsp : sC_bank (t, lm, nN, nM, ns, ms, rt) n c_ = (0, (t, lm, nN, nM, ns, ms, rt)) := by simp [sC_bank, hxi, c_15]
      exact pc_retz hx hb hr rfl hlocks hP hD hS dX3_bank_27 ⟨ad, pg, rfl, by rw [hsp], by rw [hsp]; exact h0⟩
    · have c_15 : ¬ c_ < 1 := fun h => c_15 ((lg_cmp_lt _ _).mpr h)
      refine lv_lload_n hx hb dX3_bank_18 rfl (lv_at hl 3 rfl) ?_
      refine lv_ldc2 hx hb hown (hts _ mw_75) dX3_bank_19 ?_
      refine W.lcmp hx hb dX3_bank_22 ?_
      refine lv_if_le (tgt := 28) hx hb dX3_bank_23 (by decide) (fun c_23 => ?_) (fun c_23 => ?_)
      · have c_23 := (lg_cmp_le _ _).mp c_23
        refine lv_aload hx hb dX3_bank_28 (lv_at hl 0 rfl) ?_
        refine pw_get (ci := 1) (C := RX1) (T := TX1) (N := 7) hx hb hts inX1 hown hK hP (h0.nt hi).1.1 (h0.nt hi).2.1.1 rfl 6 (by decide) (hts _ mw_90) (fun _ h9 => h9) rfl dX3_bank_30 ?_
        refine lv_lload_n hx hb dX3_bank_33 rfl (lv_at hl 3 rfl) ?_
        refine lv_ladd hx hb dX3_bank_34 ?_
        refine lv_ldc2 hx hb hown (hts _ mw_242) dX3_bank_35 ?_
        refine W.lcmp hx hb dX3_bank_38 ?_
        refine lv_if_le (tgt := 44) hx hb dX3_bank_39 (by decide) (fun c_39 => ?_) (fun c_39 => ?_)
        · have c_39 := (lg_cmp_le _ _).mp c_39
          refine lv_aload hx hb dX3_bank_44 (lv_at hl 0 rfl) ?_
          refine lv_dup hx hb dX3_bank_46 rfl ?_
          refine pw_get (ci := 1) (C := RX1) (T := TX1) (N := 7) hx hb hts inX1 hown hK hP (h0.nt hi).1.1 (h0.nt hi).2.1.1 rfl 6 (by decide) (hts _ mw_90) (fun _ h9 => h9) rfl dX3_bank_47 ?_
          refine lv_lload_n hx hb dX3_bank_50 rfl (lv_at hl 3 rfl) ?_
          refine lv_ladd hx hb dX3_bank_51 ?_
          refine pw_put (ty := .long) (ci := 1) (v := .long (((ns i).2.2.2.2.2.2) + c_)) (C := RX1) (T := TX1) (N := 7) hx hb hts inX1 tyX1 tyX1_ok nmX1 hown hK hP hD hS (h0.nt hi).1.1 (h0.nt hi).2.1.1 rfl 6 (by decide) (hts _ mw_90) (fun _ h9 => h9) rfl (by decide +kernel) rfl rfl (Nat.le_of_ble_eq_true rfl) dX3_bank_52 (fun H locs hP hD hS => ?_)
          obtain ⟨f_2, ef_2⟩ : ∃ zz : Nat → va_E, zz = va_up f (ad (8 + 4 * i)) (.inr (1, [.long ((ns i).1), .int ((ns i).2.1), .int ((ns i).2.2.1), .ref (ad (9 + 4 * i)), .ref (ad (10 + 4 * i)), .ref (ad (11 + 4 * i)), .long (((ns i).2.2.2.2.2.2) + c_)])) := ⟨_, rfl⟩
          have hP : va_P G vwCl (va_pl L f_2) H := by rw [ef_2]; exact hP
          have hD : va_D (pw_A L s.heap.size) (va_pl L f_2) := by rw [ef_2]; exact hD
          have hf_2_ad_8_4_i : f_2 (ad (8 + 4 * i)) = .inr (1, [.long ((ns i).1), .int ((ns i).2.1), .int ((ns i).2.2.1), .ref (ad (9 + 4 * i)), .ref (ad (10 + 4 * i)), .ref (ad (11 + 4 * i)), .long (((ns i).2.2.2.2.2.2) + c_)]) := by rw [ef_2]; exact va_up_self _ _ _
          refine lv_iconst (v := 1) hx hb dX3_bank_55 (by decide) ?_
          have hps := h0.cents hi c_
          rw [← ef_2] at hps
          have hsp : sC_bank (t, lm, nN, nM, ns, ms, rt) n c_ = (1, (t, lm, nN, nM, va_up ns i (ns_bank (ns i) c_), ms, rt)) := by simp [sC_bank, hxi, c_15, c_23, c_39]
          exact pc_retz hx hb hr rfl hlocks hP hD hS dX3_bank_56 ⟨ad, pg, rfl, by rw [hsp], by rw [hsp]; exact hps⟩
        · have c_39 : ¬ (((ns i).2.2.2.2.2.2) + c_) ≤ 10000000000 := fun h => c_39 ((lg_cmp_le _ _).mpr h)
          refine lv_iconst (v := 0) hx hb dX3_bank_42 (by decide) ?_
          have hsp : sC_bank (t, lm, nN, nM, ns, ms, rt) n c_ = (0, (t, lm, nN, nM, ns, ms, rt)) := by simp [sC_bank, hxi, c_15, c_23, c_39]
          exact pc_retz hx hb hr rfl hlocks hP hD hS dX3_bank_43 ⟨ad, pg, rfl, by rw [hsp], by rw [hsp]; exact h0⟩
      · have c_23 : ¬ c_ ≤ 1000000000 := fun h => c_23 ((lg_cmp_le _ _).mpr h)
        refine lv_iconst (v := 0) hx hb dX3_bank_26 (by decide) ?_
        have hsp : sC_bank (t, lm, nN, nM, ns, ms, rt) n c_ = (0, (t, lm, nN, nM, ns, ms, rt)) := by simp [sC_bank, hxi, c_15, c_23]
        exact pc_retz hx hb hr rfl hlocks hP hD hS dX3_bank_27 ⟨ad, pg, rfl, by rw [hsp], by rw [hsp]; exact h0⟩

set_option maxHeartbeats 4000000 in
set_option maxRecDepth 100000 in
theorem k_C_country (l : Launch) (G : va_G) (cs : Nat → ClassId) (L : List Nat) (f : Nat → va_E) (sz : Nat) (ad : Nat → Nat) (t lm : Int32) (nN nM : Nat) (ns : Nat → NS) (ms : Nat → MS) (rt : Nat → Int32) (pg : sp_P) (n c_ d : Int32) (h0 : PS cs L f ad t lm nN nM ns ms rt pg) : Met l yX3_country (Cond.code yX3_country cX3_country 5 (some FieldType.boolean) :: wg) ({ frames := 1, cells := 0, slots := 0, locals := 23 }) (pc_P [.ref (ad 0), .int n, .int c_, .int d] G vwCl (tyl cs) L f sz (fun _ => True)) (va_Qi (fun r u => ∃ ad' pg', ad' 0 = ad 0 ∧ r = (sC_country (t, lm, nN, nM, ns, ms, rt) n c_ d).1 ∧ PSx cs u.1 u.2 ad' (sC_country (t, lm, nN, nM, ns, ms, rt) n c_ d).2 pg') (pc_B G vwCl L sz) (pw_A L sz)) 0 0 (pw_A L sz) := by
  refine Met.ofW (cc := cX3_country) (maxL := 5) (ret := (some FieldType.boolean)) (by decide) rfl ?_
  intro p e s m args below meth c s₁ B hml hv
  obtain ⟨rfl, hsz, hP, hK, hD0, hX⟩ := hv
  have hx := B.exec
  have hb := B.bytes
  have hr := B.returns
  have hts0 := atoms_spec (ws := (Cond.code yX3_country cX3_country 5 (some FieldType.boolean) :: wg)) B.pre
  have hts := fun (w : Cond) (h : w ∈ wg) => hts0 w (List.mem_cons_of_mem _ h)
  have hown : s.vm.findClass RX3 = some m.cls := findClass_of_methodNamed B.named
  have hlocks := B.notSynchronized
  subst hsz
  have hD := pw_selfD (sz := s.heap.size) hD0
  have hA : ∀ q : Nat, s.heap.size ≤ q → pw_A L s.heap.size q := fun q h => Or.inr h
  have hS : va_S (pw_A L s.heap.size) s.heap s.heap [] := va_S.rf
  have hl := lv_entry ([.ref (ad 0), .int n, .int c_, .int d]) (n := 5) (Nat.le_of_ble_eq_true rfl)
  rw [lg_entry_eq]
  generalize (lg_sl ([.ref (ad 0), .int n, .int c_, .int d]) ++ List.replicate (5 - (lg_sl ([.ref (ad 0), .int n, .int c_, .int d])).length) Slot.unset).toArray = ls at hl ⊢
  have hl : lv_has ls 5 [(0, .ref (ad 0)), (1, .int n), (2, .int c_), (3, .int d)] := hl
  have hN6 := h0.nN6
  have hM12 := h0.nM12
  have m0 := h0.mem (pu_lo (r := 0) (by decide))
  have e0 := h0.e0
  have m1 := h0.mem (pu_lo (r := 1) (by decide))
  have e1 := h0.e1
  have m2 := h0.mem (pu_lo (r := 2) (by decide))
  have e2 := h0.e2
  have m3 := h0.mem (pu_lo (r := 3) (by decide))
  have e3 := h0.e3
  refine lv_aload_n hx hb dX3_country_0 rfl (lv_at hl 0 rfl) ?_
  refine lv_iload_n hx hb dX3_country_1 rfl (lv_at hl 1 rfl) ?_
  refine pr_callVq (As := [.int n]) (rest := []) ⟨hx, hb, hml, hown, hts⟩ (k_C_nAt l G cs L f ad t lm nN nM ns ms rt pg n h0) (cwV 1 hts (wg_V mw_63 mw_65 ms_0 mw_1 mw_66) rfl rfl rfl (by decide +kernel) ⟨Nat.le_of_ble_eq_true rfl, Nat.le_of_ble_eq_true rfl⟩) hK hP m0 e0 rfl px_T (fun _ _ _ => trivial) rfl hl.1 rfl (lv_room (Nat.le_of_ble_eq_true rfl)) dX3_country_2 ⟨Nat.le_of_ble_eq_true rfl, Nat.le_of_ble_eq_true rfl⟩ (fun r_1 hr_1 => ?_)
  rcases ix_cases (m := nN) (by omega) n with ⟨hxi, hnoi⟩ | ⟨i, hi, eni, hxi, hci, hdi⟩
  · obtain rfl : r_1 = none := by rw [hr_1, hxi]; rfl
    refine W.eq (g2 := F0 m 5 ls [.null]) rfl ?_
    refine lv_astoreN (lv' := [(4, .null), (0, .ref (ad 0)), (1, .int n), (2, .int c_), (3, .int d)]) hx hb dX3_country_5 hl (by decide) rfl (fun ls hl => ?_)
    refine lv_aloadN hx hb dX3_country_7 (lv_at hl 0 rfl) ?_
    refine lv_ifnullN (tgt := 23) hx hb dX3_country_9 (by decide) ?_
    refine lv_iconst (v := 0) hx hb dX3_country_23 (by decide) ?_
    have hsp : sC_country (t, lm, nN, nM, ns, ms, rt) n c_ d = (0, (t, lm, nN, nM, ns, ms, rt)) := by simp [sC_country, hxi]
    exact pc_retz hx hb hr rfl hlocks hP hD hS dX3_country_24 ⟨ad, pg, rfl, by rw [hsp], by rw [hsp]; exact h0⟩
  · obtain rfl : r_1 = some (ad (8 + 4 * i)) := by rw [hr_1, hxi]; rfl
    refine W.eq (g2 := F0 m 5 ls [.ref (ad (8 + 4 * i))]) rfl ?_
    refine lv_astore (lv' := [(4, .ref (ad (8 + 4 * i))), (0, .ref (ad 0)), (1, .int n), (2, .int c_), (3, .int d)]) hx hb dX3_country_5 hl (by decide) rfl (fun ls hl => ?_)
    refine lv_aload hx hb dX3_country_7 (lv_at hl 0 rfl) ?_
    refine lv_ifnull hx hb dX3_country_9 ?_
    refine lv_iload_n hx hb dX3_country_12 rfl (lv_at hl 4 rfl) ?_
    refine lv_if_lt (tgt := 23) hx hb dX3_country_13 (by decide) (fun c_13 => ?_) (fun c_13 => ?_)
    · refine lv_iconst (v := 0) hx hb dX3_country_23 (by decide) ?_
      have hsp : sC_country (t, lm, nN, nM, ns, ms, rt) n c_ d = (0, (t, lm, nN, nM, ns, ms, rt)) := by simp [sC_country, hxi, c_13]
      exact pc_retz hx hb hr rfl hlocks hP hD hS dX3_country_24 ⟨ad, pg, rfl, by rw [hsp], by rw [hsp]; exact h0⟩
    · refine lv_iload_n hx hb dX3_country_16 rfl (lv_at hl 4 rfl) ?_
      refine lv_sipush (v := 1000) hx hb dX3_country_17 (by decide) ?_
      refine lv_icmp_le (tgt := 25) hx hb dX3_country_20 (by decide) (fun c_20 => ?_) (fun c_20 => ?_)
      · refine lv_aload hx hb dX3_country_25 (lv_at hl 0 rfl) ?_
        refine lv_iload_n hx hb dX3_country_27 rfl (lv_at hl 3 rfl) ?_
        refine lv_iload_n hx hb dX3_country_28 rfl (lv_at hl 4 rfl) ?_
        refine lv_aload_n hx hb dX3_country_29 rfl (lv_at hl 1 rfl) ?_
        refine pw_get (ci := 3) (C := RX3) (T := TX3) (N := 8) hx hb hts inX3 hown hK hP m0 e0 rfl 6 (by decide) (hts _ mw_39) (fun _ h9 => h9) rfl dX3_country_30 ?_
        refine pc_callVi (As := [.int c_, .int d, .int t]) (rest := []) ⟨hx, hb, hml, hown, hts⟩ (k_N_ask l G cs L f _ (ad (8 + 4 * i)) (ad (9 + 4 * i)) (ad (10 + 4 * i)) (ad (11 + 4 * i)) (ns i).1 (ns i).2.1 (ns i).2.2.1 (ns i).2.2.2.1 (ns i).2.2.2.2.1 (ns i).2.2.2.2.2.1 (ns i).2.2.2.2.2.2 c_ d t (h0.nt hi)) (cwV 3 hts (wg_V mw_111 mw_112 mw_113 mw_4 mw_114) rfl rfl rfl (by decide +kernel) ⟨Nat.le_of_ble_eq_true rfl, Nat.le_of_ble_eq_true rfl⟩) hK hP hD hS hA (h0.nt hi).1.1 (h0.nt hi).2.1.1 rfl px_T (fun _ _ _ => trivial) rfl hl.1 rfl (lv_room (Nat.le_of_ble_eq_true rfl)) dX3_country_33 ⟨Nat.le_of_ble_eq_true rfl, Nat.le_of_ble_eq_true rfl⟩ (fun r_2 L1 f1 H locs hr_2 hP hD hS => ?_)
        obtain ⟨hr1, hr2⟩ := Prod.mk.inj hr_2
        obtain ⟨rfl, rfl⟩ := Prod.mk.inj hr2
        obtain ⟨hq1, hps⟩ := h0.ask hi c_ d t
        rw [hq1] at hr1
        subst hr1
        have hsp : sC_country (t, lm, nN, nM, ns, ms, rt) n c_ d = ((ns_ask (ns i) c_ d t).1, (t, lm, nN, nM, va_up ns i (ns_ask (ns i) c_ d t).2, ms, rt)) := by simp [sC_country, hxi, c_13, c_20]
        exact pc_retz hx hb hr (nb_01 (ns_ask_01 _ _ _ _)) hlocks hP hD hS dX3_country_36 ⟨ad, pg, rfl, by rw [hsp], by rw [hsp]; exact hps⟩
      · refine lv_iconst (v := 0) hx hb dX3_country_23 (by decide) ?_
        have hsp : sC_country (t, lm, nN, nM, ns, ms, rt) n c_ d = (0, (t, lm, nN, nM, ns, ms, rt)) := by simp [sC_country, hxi, c_13, c_20]
        exact pc_retz hx hb hr rfl hlocks hP hD hS dX3_country_24 ⟨ad, pg, rfl, by rw [hsp], by rw [hsp]; exact h0⟩

set_option maxHeartbeats 4000000 in
set_option maxRecDepth 100000 in
theorem k_C_says (l : Launch) (G : va_G) (cs : Nat → ClassId) (L : List Nat) (f : Nat → va_E) (sz : Nat) (ad : Nat → Nat) (t lm : Int32) (nN nM : Nat) (ns : Nat → NS) (ms : Nat → MS) (rt : Nat → Int32) (pg : sp_P) (n c_ y : Int32) (h0 : PS cs L f ad t lm nN nM ns ms rt pg) : Met l yX3_says (Cond.code yX3_says cX3_says 5 (some FieldType.boolean) :: wg) ({ frames := 1, cells := 0, slots := 0, locals := 22 }) (pc_P [.ref (ad 0), .int n, .int c_, .int y] G vwCl (tyl cs) L f sz (fun _ => True)) (va_Qi (fun r u => ∃ ad' pg', ad' 0 = ad 0 ∧ r = (sC_says (t, lm, nN, nM, ns, ms, rt) n c_ y).1 ∧ PSx cs u.1 u.2 ad' (sC_says (t, lm, nN, nM, ns, ms, rt) n c_ y).2 pg') (pc_B G vwCl L sz) (pw_A L sz)) 0 0 (pw_A L sz) := by
  refine Met.ofW (cc := cX3_says) (maxL := 5) (ret := (some FieldType.boolean)) (by decide) rfl ?_
  intro p e s m args below meth c s₁ B hml hv
  obtain ⟨rfl, hsz, hP, hK, hD0, hX⟩ := hv
  have hx := B.exec
  have hb := B.bytes
  have hr := B.returns
  have hts0 := atoms_spec (ws := (Cond.code yX3_says cX3_says 5 (some FieldType.boolean) :: wg)) B.pre
  have hts := fun (w : Cond) (h : w ∈ wg) => hts0 w (List.mem_cons_of_mem _ h)
  have hown : s.vm.findClass RX3 = some m.cls := findClass_of_methodNamed B.named
  have hlocks := B.notSynchronized
  subst hsz
  have hD := pw_selfD (sz := s.heap.size) hD0
  have hA : ∀ q : Nat, s.heap.size ≤ q → pw_A L s.heap.size q := fun q h => Or.inr h
  have hS : va_S (pw_A L s.heap.size) s.heap s.heap [] := va_S.rf
  have hl := lv_entry ([.ref (ad 0), .int n, .int c_, .int y]) (n := 5) (Nat.le_of_ble_eq_true rfl)
  rw [lg_entry_eq]
  generalize (lg_sl ([.ref (ad 0), .int n, .int c_, .int y]) ++ List.replicate (5 - (lg_sl ([.ref (ad 0), .int n, .int c_, .int y])).length) Slot.unset).toArray = ls at hl ⊢
  have hl : lv_has ls 5 [(0, .ref (ad 0)), (1, .int n), (2, .int c_), (3, .int y)] := hl
  have hN6 := h0.nN6
  have hM12 := h0.nM12
  have m0 := h0.mem (pu_lo (r := 0) (by decide))
  have e0 := h0.e0
  have m1 := h0.mem (pu_lo (r := 1) (by decide))
  have e1 := h0.e1
  have m2 := h0.mem (pu_lo (r := 2) (by decide))
  have e2 := h0.e2
  have m3 := h0.mem (pu_lo (r := 3) (by decide))
  have e3 := h0.e3
  refine lv_aload_n hx hb dX3_says_0 rfl (lv_at hl 0 rfl) ?_
  refine lv_iload_n hx hb dX3_says_1 rfl (lv_at hl 1 rfl) ?_
  refine pr_callVq (As := [.int n]) (rest := []) ⟨hx, hb, hml, hown, hts⟩ (k_C_nAt l G cs L f ad t lm nN nM ns ms rt pg n h0) (cwV 1 hts (wg_V mw_63 mw_65 ms_0 mw_1 mw_66) rfl rfl rfl (by decide +kernel) ⟨Nat.le_of_ble_eq_true rfl, Nat.le_of_ble_eq_true rfl⟩) hK hP m0 e0 rfl px_T (fun _ _ _ => trivial) rfl hl.1 rfl (lv_room (Nat.le_of_ble_eq_true rfl)) dX3_says_2 ⟨Nat.le_of_ble_eq_true rfl, Nat.le_of_ble_eq_true rfl⟩ (fun r_1 hr_1 => ?_)
  rcases ix_cases (m := nN) (by omega) n with ⟨hxi, hnoi⟩ | ⟨i, hi, eni, hxi, hci, hdi⟩
  · obtain rfl : r_1 = none := by rw [hr_1, hxi]; rfl
    refine W.eq (g2 := F0 m 5 ls [.null]) rfl ?_
    refine lv_astoreN (lv' := [(4, .null), (0, .ref (ad 0)), (1, .int n), (2, .int c_), (3, .int y)]) hx hb dX3_says_5 hl (by decide) rfl (fun ls hl => ?_)
    refine lv_aloadN hx hb dX3_says_7 (lv_at hl 0 rfl) ?_
    refine lv_ifnullN (tgt := 26) hx hb dX3_says_9 (by decide) ?_
    refine lv_iconst (v := 0) hx hb dX3_says_26 (by decide) ?_
    have hsp : sC_says (t, lm, nN, nM, ns, ms, rt) n c_ y = (0, (t, lm, nN, nM, ns, ms, rt)) := by simp [sC_says, hxi]
    exact pc_retz hx hb hr rfl hlocks hP hD hS dX3_says_27 ⟨ad, pg, rfl, by rw [hsp], by rw [hsp]; exact h0⟩
  · obtain rfl : r_1 = some (ad (8 + 4 * i)) := by rw [hr_1, hxi]; rfl
    refine W.eq (g2 := F0 m 5 ls [.ref (ad (8 + 4 * i))]) rfl ?_
    refine lv_astore (lv' := [(4, .ref (ad (8 + 4 * i))), (0, .ref (ad 0)), (1, .int n), (2, .int c_), (3, .int y)]) hx hb dX3_says_5 hl (by decide) rfl (fun ls hl => ?_)
    refine lv_aload hx hb dX3_says_7 (lv_at hl 0 rfl) ?_
    refine lv_ifnull hx hb dX3_says_9 ?_
    refine lv_aload hx hb dX3_says_12 (lv_at hl 0 rfl) ?_
    refine lv_iload_n hx hb dX3_says_14 rfl (lv_at hl 3 rfl) ?_
    refine lv_iload_n hx hb dX3_says_15 rfl (lv_at hl 4 rfl) ?_
    refine pc_callVi (As := [.int c_, .int y]) (rest := []) ⟨hx, hb, hml, hown, hts⟩ (k_N_answer l G cs L f _ (ad (8 + 4 * i)) (ad (9 + 4 * i)) (ad (10 + 4 * i)) (ad (11 + 4 * i)) (ns i).1 (ns i).2.1 (ns i).2.2.1 (ns i).2.2.2.1 (ns i).2.2.2.2.1 (ns i).2.2.2.2.2.1 (ns i).2.2.2.2.2.2 c_ y (h0.nt hi)) (cwV 2 hts (wg_V mw_119 mw_120 mw_121 mw_4 mw_122) rfl rfl rfl (by decide +kernel) ⟨Nat.le_of_ble_eq_true rfl, Nat.le_of_ble_eq_true rfl⟩) hK hP hD hS hA (h0.nt hi).1.1 (h0.nt hi).2.1.1 rfl px_T (fun _ _ _ => trivial) rfl hl.1 rfl (lv_room (Nat.le_of_ble_eq_true rfl)) dX3_says_16 ⟨Nat.le_of_ble_eq_true rfl, Nat.le_of_ble_eq_true rfl⟩ (fun r_2 L1 f1 H locs hr_2 hP hD hS => ?_)
    obtain ⟨hr1, hr2⟩ := Prod.mk.inj hr_2
    obtain ⟨rfl, rfl⟩ := Prod.mk.inj hr2
    obtain ⟨hq1, hps⟩ := h0.ans hi c_ y
    rw [hq1] at hr1
    subst hr1
    refine lv_if_eq (tgt := 26) hx hb dX3_says_19 (by decide) (fun c_19 => ?_) (fun c_19 => ?_)
    · refine lv_iconst (v := 0) hx hb dX3_says_26 (by decide) ?_
      have hsp : sC_says (t, lm, nN, nM, ns, ms, rt) n c_ y = (0, (t, lm, nN, nM, va_up ns i (ns_ans (ns i) c_ y).2, ms, rt)) := by simp [sC_says, hxi, c_19]
      exact pc_retz hx hb hr rfl hlocks hP hD hS dX3_says_27 ⟨ad, pg, rfl, by rw [hsp], by rw [hsp]; exact hps⟩
    · have c_19 : (ns_ans (ns i) c_ y).1 = 1 := (ns_ans_01 _ _ _).resolve_left c_19
      refine lv_iconst (v := 1) hx hb dX3_says_22 (by decide) ?_
      refine lv_goto (tgt := 27) hx hb dX3_says_23 (by decide) ?_
      have hsp : sC_says (t, lm, nN, nM, ns, ms, rt) n c_ y = (1, (t, lm, nN, nM, va_up ns i (ns_ans (ns i) c_ y).2, ms, rt)) := by simp [sC_says, hxi, c_19]
      exact pc_retz hx hb hr rfl hlocks hP hD hS dX3_says_27 ⟨ad, pg, rfl, by rw [hsp], by rw [hsp]; exact hps⟩

set_option maxHeartbeats 4000000 in
set_option maxRecDepth 100000 in
theorem k_C_mark (l : Launch) (G : va_G) (cs : Nat → ClassId) (L : List Nat) (f : Nat → va_E) (sz : Nat) (ad : Nat → Nat) (t lm : Int32) (nN nM : Nat) (ns : Nat → NS) (ms : Nat → MS) (rt : Nat → Int32) (pg : sp_P) (n a_ b_ : Int32) (h0 : PS cs L f ad t lm nN nM ns ms rt pg) : Met l yX3_mark (Cond.code yX3_mark cX3_mark 5 (some FieldType.boolean) :: wg) ({ frames := 2, cells := 0, slots := 0, locals := 42 }) (pc_P [.ref (ad 0), .int n, .int a_, .int b_] G vwCl (tyl cs) L f sz (fun _ => True)) (va_Qi (fun r u => ∃ ad' pg', ad' 0 = ad 0 ∧ r = (sC_mark (t, lm, nN, nM, ns, ms, rt) n a_ b_).1 ∧ PSx cs u.1 u.2 ad' (sC_mark (t, lm, nN, nM, ns, ms, rt) n a_ b_).2 pg') (pc_B G vwCl L sz) (pw_A L sz)) 0 0 (pw_A L sz) := by
  refine Met.ofW (cc := cX3_mark) (maxL := 5) (ret := (some FieldType.boolean)) (by decide) rfl ?_
  intro p e s m args below meth c s₁ B hml hv
  obtain ⟨rfl, hsz, hP, hK, hD0, hX⟩ := hv
  have hx := B.exec
  have hb := B.bytes
  have hr := B.returns
  have hts0 := atoms_spec (ws := (Cond.code yX3_mark cX3_mark 5 (some FieldType.boolean) :: wg)) B.pre
  have hts := fun (w : Cond) (h : w ∈ wg) => hts0 w (List.mem_cons_of_mem _ h)
  have hown : s.vm.findClass RX3 = some m.cls := findClass_of_methodNamed B.named
  have hlocks := B.notSynchronized
  subst hsz
  have hD := pw_selfD (sz := s.heap.size) hD0
  have hA : ∀ q : Nat, s.heap.size ≤ q → pw_A L s.heap.size q := fun q h => Or.inr h
  have hS : va_S (pw_A L s.heap.size) s.heap s.heap [] := va_S.rf
  have hl := lv_entry ([.ref (ad 0), .int n, .int a_, .int b_]) (n := 5) (Nat.le_of_ble_eq_true rfl)
  rw [lg_entry_eq]
  generalize (lg_sl ([.ref (ad 0), .int n, .int a_, .int b_]) ++ List.replicate (5 - (lg_sl ([.ref (ad 0), .int n, .int a_, .int b_])).length) Slot.unset).toArray = ls at hl ⊢
  have hl : lv_has ls 5 [(0, .ref (ad 0)), (1, .int n), (2, .int a_), (3, .int b_)] := hl
  have hN6 := h0.nN6
  have hM12 := h0.nM12
  have m0 := h0.mem (pu_lo (r := 0) (by decide))
  have e0 := h0.e0
  have m1 := h0.mem (pu_lo (r := 1) (by decide))
  have e1 := h0.e1
  have m2 := h0.mem (pu_lo (r := 2) (by decide))
  have e2 := h0.e2
  have m3 := h0.mem (pu_lo (r := 3) (by decide))
  have e3 := h0.e3
  refine lv_aload_n hx hb dX3_mark_0 rfl (lv_at hl 0 rfl) ?_
  refine lv_iload_n hx hb dX3_mark_1 rfl (lv_at hl 1 rfl) ?_
  refine pr_callVq (As := [.int n]) (rest := []) ⟨hx, hb, hml, hown, hts⟩ (k_C_mAt l G cs L f ad t lm nN nM ns ms rt pg n h0) (cwV 1 hts (wg_V mw_147 mw_149 ms_3 mw_1 mw_150) rfl rfl rfl (by decide +kernel) ⟨Nat.le_of_ble_eq_true rfl, Nat.le_of_ble_eq_true rfl⟩) hK hP m0 e0 rfl px_T (fun _ _ _ => trivial) rfl hl.1 rfl (lv_room (Nat.le_of_ble_eq_true rfl)) dX3_mark_2 ⟨Nat.le_of_ble_eq_true rfl, Nat.le_of_ble_eq_true rfl⟩ (fun r_1 hr_1 => ?_)
  rcases ix_cases (m := nM) (by omega) n with ⟨hxj, hnoj⟩ | ⟨j, hj, enj, hxj, hcj, hdj⟩
  · obtain rfl : r_1 = none := by rw [hr_1, hxj]; rfl
    refine W.eq (g2 := F0 m 5 ls [.null]) rfl ?_
    refine lv_astoreN (lv' := [(4, .null), (0, .ref (ad 0)), (1, .int n), (2, .int a_), (3, .int b_)]) hx hb dX3_mark_5 hl (by decide) rfl (fun ls hl => ?_)
    refine lv_aloadN hx hb dX3_mark_7 (lv_at hl 0 rfl) ?_
    refine lv_ifnullN (tgt := 29) hx hb dX3_mark_9 (by decide) ?_
    refine lv_iconst (v := 0) hx hb dX3_mark_29 (by decide) ?_
    have hsp : sC_mark (t, lm, nN, nM, ns, ms, rt) n a_ b_ = (0, (t, lm, nN, nM, ns, ms, rt)) := by simp [sC_mark, hxj]
    exact pc_retz hx hb hr rfl hlocks hP hD hS dX3_mark_30 ⟨ad, pg, rfl, by rw [hsp], by rw [hsp]; exact h0⟩
  · obtain rfl : r_1 = some (ad (32 + 2 * j)) := by rw [hr_1, hxj]; rfl
    refine W.eq (g2 := F0 m 5 ls [.ref (ad (32 + 2 * j))]) rfl ?_
    refine lv_astore (lv' := [(4, .ref (ad (32 + 2 * j))), (0, .ref (ad 0)), (1, .int n), (2, .int a_), (3, .int b_)]) hx hb dX3_mark_5 hl (by decide) rfl (fun ls hl => ?_)
    refine lv_aload hx hb dX3_mark_7 (lv_at hl 0 rfl) ?_
    refine lv_ifnull hx hb dX3_mark_9 ?_
    refine lv_aload hx hb dX3_mark_12 (lv_at hl 0 rfl) ?_
    refine pw_get (ci := 0) (C := RX0) (T := TX0) (N := 8) hx hb hts inX0 hown hK hP (h0.mv hj).1.1.1 (h0.mv hj).1.2.1 rfl 5 (by decide) (hts _ mw_169) (fun _ h9 => h9) rfl dX3_mark_14 ?_
    refine lv_iconst (v := 2) hx hb dX3_mark_17 (by decide) ?_
    refine lv_icmp_ne (tgt := 29) hx hb dX3_mark_18 (by decide) (fun c_18 => ?_) (fun c_18 => ?_)
    · refine lv_iconst (v := 0) hx hb dX3_mark_29 (by decide) ?_
      have hsp : sC_mark (t, lm, nN, nM, ns, ms, rt) n a_ b_ = (0, (t, lm, nN, nM, ns, ms, rt)) := by simp [sC_mark, hxj, c_18]
      exact pc_retz hx hb hr rfl hlocks hP hD hS dX3_mark_30 ⟨ad, pg, rfl, by rw [hsp], by rw [hsp]; exact h0⟩
    · refine lv_aload hx hb dX3_mark_21 (lv_at hl 0 rfl) ?_
      refine pw_get (ci := 0) (C := RX0) (T := TX0) (N := 8) hx hb hts inX0 hown hK hP (h0.mv hj).1.1.1 (h0.mv hj).1.2.1 rfl 7 (by decide) (hts _ mw_172) (fun _ h9 => h9) rfl dX3_mark_23 ?_
      refine lv_if_eq (tgt := 31) hx hb dX3_mark_26 (by decide) (fun c_26 => ?_) (fun c_26 => ?_)
      · refine lv_iload_n hx hb dX3_mark_31 rfl (lv_at hl 3 rfl) ?_
        refine lv_iload_n hx hb dX3_mark_32 rfl (lv_at hl 4 rfl) ?_
        refine lv_icmp_eq (tgt := 54) hx hb dX3_mark_33 (by decide) (fun c_33 => ?_) (fun c_33 => ?_)
        · refine lv_iconst (v := 0) hx hb dX3_mark_54 (by decide) ?_
          have hsp : sC_mark (t, lm, nN, nM, ns, ms, rt) n a_ b_ = (0, (t, lm, nN, nM, ns, ms, rt)) := by simp [sC_mark, hxj, c_18, c_26, c_33]
          exact pc_retz hx hb hr rfl hlocks hP hD hS dX3_mark_55 ⟨ad, pg, rfl, by rw [hsp], by rw [hsp]; exact h0⟩
        · refine lv_aload_n hx hb dX3_mark_36 rfl (lv_at hl 1 rfl) ?_
          refine lv_iload_n hx hb dX3_mark_37 rfl (lv_at hl 3 rfl) ?_
          refine lv_iconst (v := 2) hx hb dX3_mark_38 (by decide) ?_
          refine pr_callVi (As := [.int a_, .int 2]) (rest := []) ⟨hx, hb, hml, hown, hts⟩ (k_C_has l G cs L f ad t lm nN nM ns ms rt pg a_ 2 h0) (cwV 2 hts (wg_V mw_208 mw_210 ms_4 mw_1 mw_211) rfl rfl rfl (by decide +kernel) ⟨Nat.le_of_ble_eq_true rfl, Nat.le_of_ble_eq_true rfl⟩) hK hP m0 e0 rfl px_T (fun _ _ _ => trivial) rfl hl.1 rfl (lv_room (Nat.le_of_ble_eq_true rfl)) dX3_mark_39 ⟨Nat.le_of_ble_eq_true rfl, Nat.le_of_ble_eq_true rfl⟩ (fun r_2 hr_2 => ?_)
          subst hr_2
          refine lv_if_eq (tgt := 54) hx hb dX3_mark_42 (by decide) (fun c_42 => ?_) (fun c_42 => ?_)
          · refine lv_iconst (v := 0) hx hb dX3_mark_54 (by decide) ?_
            have hsp : sC_mark (t, lm, nN, nM, ns, ms, rt) n a_ b_ = (0, (t, lm, nN, nM, ns, ms, rt)) := by simp [sC_mark, hxj, c_18, c_26, c_33, c_42]
            exact pc_retz hx hb hr rfl hlocks hP hD hS dX3_mark_55 ⟨ad, pg, rfl, by rw [hsp], by rw [hsp]; exact h0⟩
          · refine lv_aload_n hx hb dX3_mark_45 rfl (lv_at hl 1 rfl) ?_
            refine lv_iload_n hx hb dX3_mark_46 rfl (lv_at hl 4 rfl) ?_
            refine lv_iconst (v := 2) hx hb dX3_mark_47 (by decide) ?_
            refine pr_callVi (As := [.int b_, .int 2]) (rest := []) ⟨hx, hb, hml, hown, hts⟩ (k_C_has l G cs L f ad t lm nN nM ns ms rt pg b_ 2 h0) (cwV 2 hts (wg_V mw_208 mw_210 ms_4 mw_1 mw_211) rfl rfl rfl (by decide +kernel) ⟨Nat.le_of_ble_eq_true rfl, Nat.le_of_ble_eq_true rfl⟩) hK hP m0 e0 rfl px_T (fun _ _ _ => trivial) rfl hl.1 rfl (lv_room (Nat.le_of_ble_eq_true rfl)) dX3_mark_48 ⟨Nat.le_of_ble_eq_true rfl, Nat.le_of_ble_eq_true rfl⟩ (fun r_3 hr_3 => ?_)
            subst hr_3
            refine lv_if_ne (tgt := 56) hx hb dX3_mark_51 (by decide) (fun c_51 => ?_) (fun c_51 => ?_)
            · refine lv_aload hx hb dX3_mark_56 (lv_at hl 0 rfl) ?_
              refine lv_iconst (v := 1) hx hb dX3_mark_58 (by decide) ?_
              refine pw_put (ty := .boolean) (ci := 0) (v := .int 1) (C := RX0) (T := TX0) (N := 8) hx hb hts inX0 tyX0 tyX0_ok nmX0 hown hK hP hD hS (h0.mv hj).1.1.1 (h0.mv hj).1.2.1 rfl 7 (by decide) (hts _ mw_172) (fun _ h9 => h9) rfl (by decide +kernel) rfl rfl (Nat.le_of_ble_eq_true rfl) dX3_mark_59 (fun H locs hP hD hS => ?_)
              obtain ⟨f_4, ef_4⟩ : ∃ zz : Nat → va_E, zz = va_up f (ad (32 + 2 * j)) (.inr (0, [.int ((ms j).1), .long ((ms j).2.1), .int ((ms j).2.2.1), .ref (ad (33 + 2 * j)), .int (nI (ms j).2.2.2.2.1), .int ((ms j).2.2.2.2.2.1), .int ((ms j).2.2.2.2.2.2.1), .int 1])) := ⟨_, rfl⟩
              have hP : va_P G vwCl (va_pl L f_4) H := by rw [ef_4]; exact hP
              have hD : va_D (pw_A L s.heap.size) (va_pl L f_4) := by rw [ef_4]; exact hD
              have hf_4_ad_32_2_j : f_4 (ad (32 + 2 * j)) = .inr (0, [.int ((ms j).1), .long ((ms j).2.1), .int ((ms j).2.2.1), .ref (ad (33 + 2 * j)), .int (nI (ms j).2.2.2.2.1), .int ((ms j).2.2.2.2.2.1), .int ((ms j).2.2.2.2.2.2.1), .int 1]) := by rw [ef_4]; exact va_up_self _ _ _
              refine lv_iconst (v := 1) hx hb dX3_mark_62 (by decide) ?_
              have hps := h0.mobj hj (ms j).2.2.2.2.2.1 (ms j).2.2.2.2.2.2.1 1
              rw [← ef_4] at hps
              have hsp : sC_mark (t, lm, nN, nM, ns, ms, rt) n a_ b_ = (1, (t, lm, nN, nM, ns, va_up ms j (ms_mark (ms j)), rt)) := by simp [sC_mark, hxj, c_18, c_26, c_33, c_42, c_51]
              exact pc_retz hx hb hr rfl hlocks hP hD hS dX3_mark_63 ⟨ad, pg, rfl, by rw [hsp], by rw [hsp]; exact hps⟩
            · refine lv_iconst (v := 0) hx hb dX3_mark_54 (by decide) ?_
              have hsp : sC_mark (t, lm, nN, nM, ns, ms, rt) n a_ b_ = (0, (t, lm, nN, nM, ns, ms, rt)) := by simp [sC_mark, hxj, c_18, c_26, c_33, c_42, c_51]
              exact pc_retz hx hb hr rfl hlocks hP hD hS dX3_mark_55 ⟨ad, pg, rfl, by rw [hsp], by rw [hsp]; exact h0⟩
      · refine lv_iconst (v := 0) hx hb dX3_mark_29 (by decide) ?_
        have hsp : sC_mark (t, lm, nN, nM, ns, ms, rt) n a_ b_ = (0, (t, lm, nN, nM, ns, ms, rt)) := by simp [sC_mark, hxj, c_18, c_26]
        exact pc_retz hx hb hr rfl hlocks hP hD hS dX3_mark_30 ⟨ad, pg, rfl, by rw [hsp], by rw [hsp]; exact h0⟩

set_option maxHeartbeats 4000000 in
set_option maxRecDepth 100000 in
theorem k_C_carrier (l : Launch) (G : va_G) (cs : Nat → ClassId) (L : List Nat) (f : Nat → va_E) (sz : Nat) (ad : Nat → Nat) (t lm : Int32) (nN nM : Nat) (ns : Nat → NS) (ms : Nat → MS) (rt : Nat → Int32) (pg : sp_P) (n c_ : Int32) (h0 : PS cs L f ad t lm nN nM ns ms rt pg) : Met l yX3_carrier (Cond.code yX3_carrier cX3_carrier 4 (some FieldType.int) :: wg) ({ frames := 2, cells := 0, slots := 0, locals := 42 }) (pc_P [.ref (ad 0), .int n, .int c_] G vwCl (tyl cs) L f sz (fun _ => True)) (va_Qi (fun r u => ∃ ad' pg', ad' 0 = ad 0 ∧ r = (sC_carrier (t, lm, nN, nM, ns, ms, rt) n c_).1 ∧ PSx cs u.1 u.2 ad' (sC_carrier (t, lm, nN, nM, ns, ms, rt) n c_).2 pg') (pc_B G vwCl L sz) (pw_A L sz)) 0 0 (pw_A L sz) := by
  refine Met.ofW (cc := cX3_carrier) (maxL := 4) (ret := (some FieldType.int)) (by decide) rfl ?_
  intro p e s m args below meth c s₁ B hml hv
  obtain ⟨rfl, hsz, hP, hK, hD0, hX⟩ := hv
  have hx := B.exec
  have hb := B.bytes
  have hr := B.returns
  have hts0 := atoms_spec (ws := (Cond.code yX3_carrier cX3_carrier 4 (some FieldType.int) :: wg)) B.pre
  have hts := fun (w : Cond) (h : w ∈ wg) => hts0 w (List.mem_cons_of_mem _ h)
  have hown : s.vm.findClass RX3 = some m.cls := findClass_of_methodNamed B.named
  have hlocks := B.notSynchronized
  subst hsz
  have hD := pw_selfD (sz := s.heap.size) hD0
  have hA : ∀ q : Nat, s.heap.size ≤ q → pw_A L s.heap.size q := fun q h => Or.inr h
  have hS : va_S (pw_A L s.heap.size) s.heap s.heap [] := va_S.rf
  have hl := lv_entry ([.ref (ad 0), .int n, .int c_]) (n := 4) (Nat.le_of_ble_eq_true rfl)
  rw [lg_entry_eq]
  generalize (lg_sl ([.ref (ad 0), .int n, .int c_]) ++ List.replicate (4 - (lg_sl ([.ref (ad 0), .int n, .int c_])).length) Slot.unset).toArray = ls at hl ⊢
  have hl : lv_has ls 4 [(0, .ref (ad 0)), (1, .int n), (2, .int c_)] := hl
  have hN6 := h0.nN6
  have hM12 := h0.nM12
  have m0 := h0.mem (pu_lo (r := 0) (by decide))
  have e0 := h0.e0
  have m1 := h0.mem (pu_lo (r := 1) (by decide))
  have e1 := h0.e1
  have m2 := h0.mem (pu_lo (r := 2) (by decide))
  have e2 := h0.e2
  have m3 := h0.mem (pu_lo (r := 3) (by decide))
  have e3 := h0.e3
  refine lv_aload_n hx hb dX3_carrier_0 rfl (lv_at hl 0 rfl) ?_
  refine lv_iload_n hx hb dX3_carrier_1 rfl (lv_at hl 1 rfl) ?_
  refine pr_callVq (As := [.int n]) (rest := []) ⟨hx, hb, hml, hown, hts⟩ (k_C_mAt l G cs L f ad t lm nN nM ns ms rt pg n h0) (cwV 1 hts (wg_V mw_147 mw_149 ms_3 mw_1 mw_150) rfl rfl rfl (by decide +kernel) ⟨Nat.le_of_ble_eq_true rfl, Nat.le_of_ble_eq_true rfl⟩) hK hP m0 e0 rfl px_T (fun _ _ _ => trivial) rfl hl.1 rfl (lv_room (Nat.le_of_ble_eq_true rfl)) dX3_carrier_2 ⟨Nat.le_of_ble_eq_true rfl, Nat.le_of_ble_eq_true rfl⟩ (fun r_1 hr_1 => ?_)
  rcases ix_cases (m := nM) (by omega) n with ⟨hxj, hnoj⟩ | ⟨j, hj, enj, hxj, hcj, hdj⟩
  · obtain rfl : r_1 = none := by rw [hr_1, hxj]; rfl
    refine W.eq (g2 := F0 m 5 ls [.null]) rfl ?_
    refine lv_astore_nN (lv' := [(3, .null), (0, .ref (ad 0)), (1, .int n), (2, .int c_)]) hx hb dX3_carrier_5 rfl hl (by decide) rfl (fun ls hl => ?_)
    refine lv_aload_nN hx hb dX3_carrier_6 rfl (lv_at hl 0 rfl) ?_
    refine lv_ifnullN (tgt := 28) hx hb dX3_carrier_7 (by decide) ?_
    refine lv_iconst (v := (-1)) hx hb dX3_carrier_28 (by decide) ?_
    have hsp : sC_carrier (t, lm, nN, nM, ns, ms, rt) n c_ = ((-1), (t, lm, nN, nM, ns, ms, rt)) := by simp [sC_carrier, hxj]
    exact pc_reti hx hb hr hlocks hP hD hS dX3_carrier_29 ⟨ad, pg, rfl, by rw [hsp], by rw [hsp]; exact h0⟩
  · obtain rfl : r_1 = some (ad (32 + 2 * j)) := by rw [hr_1, hxj]; rfl
    refine W.eq (g2 := F0 m 5 ls [.ref (ad (32 + 2 * j))]) rfl ?_
    refine lv_astore_n (lv' := [(3, .ref (ad (32 + 2 * j))), (0, .ref (ad 0)), (1, .int n), (2, .int c_)]) hx hb dX3_carrier_5 rfl hl (by decide) rfl (fun ls hl => ?_)
    refine lv_aload_n hx hb dX3_carrier_6 rfl (lv_at hl 0 rfl) ?_
    refine lv_ifnull hx hb dX3_carrier_7 ?_
    refine lv_aload_n hx hb dX3_carrier_10 rfl (lv_at hl 0 rfl) ?_
    refine pw_get (ci := 0) (C := RX0) (T := TX0) (N := 8) hx hb hts inX0 hown hK hP (h0.mv hj).1.1.1 (h0.mv hj).1.2.1 rfl 5 (by decide) (hts _ mw_169) (fun _ h9 => h9) rfl dX3_carrier_11 ?_
    refine lv_iconst (v := 1) hx hb dX3_carrier_14 (by decide) ?_
    refine lv_icmp_ne (tgt := 28) hx hb dX3_carrier_15 (by decide) (fun c_15 => ?_) (fun c_15 => ?_)
    · refine lv_iconst (v := (-1)) hx hb dX3_carrier_28 (by decide) ?_
      have hsp : sC_carrier (t, lm, nN, nM, ns, ms, rt) n c_ = ((-1), (t, lm, nN, nM, ns, ms, rt)) := by simp [sC_carrier, hxj, c_15]
      exact pc_reti hx hb hr hlocks hP hD hS dX3_carrier_29 ⟨ad, pg, rfl, by rw [hsp], by rw [hsp]; exact h0⟩
    · refine lv_iload_n hx hb dX3_carrier_18 rfl (lv_at hl 3 rfl) ?_
      refine lv_if_lt (tgt := 28) hx hb dX3_carrier_19 (by decide) (fun c_19 => ?_) (fun c_19 => ?_)
      · refine lv_iconst (v := (-1)) hx hb dX3_carrier_28 (by decide) ?_
        have hsp : sC_carrier (t, lm, nN, nM, ns, ms, rt) n c_ = ((-1), (t, lm, nN, nM, ns, ms, rt)) := by simp [sC_carrier, hxj, c_15, c_19]
        exact pc_reti hx hb hr hlocks hP hD hS dX3_carrier_29 ⟨ad, pg, rfl, by rw [hsp], by rw [hsp]; exact h0⟩
      · refine lv_iload_n hx hb dX3_carrier_22 rfl (lv_at hl 3 rfl) ?_
        refine lv_bipush (v := 100) hx hb dX3_carrier_23 (by decide) ?_
        refine lv_icmp_lt (tgt := 30) hx hb dX3_carrier_25 (by decide) (fun c_25 => ?_) (fun c_25 => ?_)
        · refine lv_aload_n hx hb dX3_carrier_30 rfl (lv_at hl 0 rfl) ?_
          refine lv_iload_n hx hb dX3_carrier_31 rfl (lv_at hl 3 rfl) ?_
          refine pc_callVi (As := [.int c_]) (rest := []) ⟨hx, hb, hml, hown, hts⟩ (k_M_addc l G cs L f _ (ad (32 + 2 * j)) (ad (33 + 2 * j)) (ms j).1 (ms j).2.1 (ms j).2.2.1 (ms j).2.2.2.1 (ms j).2.2.2.2.1 (ms j).2.2.2.2.2.1 (ms j).2.2.2.2.2.2.1 (ms j).2.2.2.2.2.2.2 c_ (h0.mv hj).1 (h0.mv hj).2) (cwV 1 hts (wg_V mw_270 mw_271 mw_272 mw_5 mw_273) rfl rfl rfl (by decide +kernel) ⟨Nat.le_of_ble_eq_true rfl, Nat.le_of_ble_eq_true rfl⟩) hK hP hD hS hA (h0.mv hj).1.1.1 (h0.mv hj).1.2.1 rfl px_T (fun _ _ _ => trivial) rfl hl.1 rfl (lv_room (Nat.le_of_ble_eq_true rfl)) dX3_carrier_32 ⟨Nat.le_of_ble_eq_true rfl, Nat.le_of_ble_eq_true rfl⟩ (fun r_2 L1 f1 H locs hr_2 hP hD hS => ?_)
          obtain ⟨hr1, hr2⟩ := Prod.mk.inj hr_2
          obtain ⟨rfl, rfl⟩ := Prod.mk.inj hr2
          obtain ⟨hq1, hps⟩ := h0.addc hj c_
          rw [hq1] at hr1
          subst hr1
          have hsp : sC_carrier (t, lm, nN, nM, ns, ms, rt) n c_ = ((ms_addc (ms j) c_).1, (t, lm, nN, nM, ns, va_up ms j (ms_addc (ms j) c_).2, rt)) := by simp [sC_carrier, hxj, c_15, c_19, c_25]
          exact pc_reti hx hb hr hlocks hP hD hS dX3_carrier_35 ⟨ad, pg, rfl, by rw [hsp], by rw [hsp]; exact hps⟩
        · refine lv_iconst (v := (-1)) hx hb dX3_carrier_28 (by decide) ?_
          have hsp : sC_carrier (t, lm, nN, nM, ns, ms, rt) n c_ = ((-1), (t, lm, nN, nM, ns, ms, rt)) := by simp [sC_carrier, hxj, c_15, c_19, c_25]
          exact pc_reti hx hb hr hlocks hP hD hS dX3_carrier_29 ⟨ad, pg, rfl, by rw [hsp], by rw [hsp]; exact h0⟩

set_option maxHeartbeats 4000000 in
set_option maxRecDepth 100000 in
theorem k_C_event (l : Launch) (G : va_G) (cs : Nat → ClassId) (L : List Nat) (f : Nat → va_E) (sz : Nat) (ad : Nat → Nat) (t lm : Int32) (nN nM : Nat) (ns : Nat → NS) (ms : Nat → MS) (rt : Nat → Int32) (pg : sp_P) (n e_ p_ : Int32) (tL tC : Nat) (h0 : PS cs L f ad t lm nN nM ns ms rt pg) : Met l yX3_event (Cond.code yX3_event cX3_event 6 (some FieldType.int) :: wg) ({ frames := 3, cells := 0, slots := 0, locals := 66 }) (pc_P [.ref (ad 0), .int n, .int e_, .int p_] G vwCl (tyl cs) L f sz (fun U => SX tL tC (pw_A L sz) U U.heap)) (va_Qi (fun r u => ∃ ad' pg', ad' 0 = ad 0 ∧ r = (sC_event (t, lm, nN, nM, ns, ms, rt) n e_ p_).1 ∧ PSx cs u.1 u.2 ad' (sC_event (t, lm, nN, nM, ns, ms, rt) n e_ p_).2 pg') (pc_B G vwCl L sz) (pw_A L sz)) 0 0 (pw_A L sz) := by
  refine Met.ofW (cc := cX3_event) (maxL := 6) (ret := (some FieldType.int)) (by decide) rfl ?_
  intro p e s m args below meth c s₁ B hml hv
  obtain ⟨rfl, hsz, hP, hK, hD0, hX⟩ := hv
  have hx := B.exec
  have hb := B.bytes
  have hr := B.returns
  have hts0 := atoms_spec (ws := (Cond.code yX3_event cX3_event 6 (some FieldType.int) :: wg)) B.pre
  have hts := fun (w : Cond) (h : w ∈ wg) => hts0 w (List.mem_cons_of_mem _ h)
  have hown : s.vm.findClass RX3 = some m.cls := findClass_of_methodNamed B.named
  have hlocks := B.notSynchronized
  subst hsz
  have hD := pw_selfD (sz := s.heap.size) hD0
  have hA : ∀ q : Nat, s.heap.size ≤ q → pw_A L s.heap.size q := fun q h => Or.inr h
  have hS : va_S (pw_A L s.heap.size) s.heap s.heap [] := va_S.rf
  have hl := lv_entry ([.ref (ad 0), .int n, .int e_, .int p_]) (n := 6) (Nat.le_of_ble_eq_true rfl)
  rw [lg_entry_eq]
  generalize (lg_sl ([.ref (ad 0), .int n, .int e_, .int p_]) ++ List.replicate (6 - (lg_sl ([.ref (ad 0), .int n, .int e_, .int p_])).length) Slot.unset).toArray = ls at hl ⊢
  have hl : lv_has ls 6 [(0, .ref (ad 0)), (1, .int n), (2, .int e_), (3, .int p_)] := hl
  have hN6 := h0.nN6
  have hM12 := h0.nM12
  have m0 := h0.mem (pu_lo (r := 0) (by decide))
  have e0 := h0.e0
  have m1 := h0.mem (pu_lo (r := 1) (by decide))
  have e1 := h0.e1
  have m2 := h0.mem (pu_lo (r := 2) (by decide))
  have e2 := h0.e2
  have m3 := h0.mem (pu_lo (r := 3) (by decide))
  have e3 := h0.e3
  refine lv_aload_n hx hb dX3_event_0 rfl (lv_at hl 0 rfl) ?_
  refine lv_iload_n hx hb dX3_event_1 rfl (lv_at hl 1 rfl) ?_
  refine pr_callVq (As := [.int n]) (rest := []) ⟨hx, hb, hml, hown, hts⟩ (k_C_mAt l G cs L f ad t lm nN nM ns ms rt pg n h0) (cwV 1 hts (wg_V mw_147 mw_149 ms_3 mw_1 mw_150) rfl rfl rfl (by decide +kernel) ⟨Nat.le_of_ble_eq_true rfl, Nat.le_of_ble_eq_true rfl⟩) hK hP m0 e0 rfl px_T (fun _ _ _ => trivial) rfl hl.1 rfl (lv_room (Nat.le_of_ble_eq_true rfl)) dX3_event_2 ⟨Nat.le_of_ble_eq_true rfl, Nat.le_of_ble_eq_true rfl⟩ (fun r_1 hr_1 => ?_)
  rcases ix_cases (m := nM) (by omega) n with ⟨hxj, hnoj⟩ | ⟨j, hj, enj, hxj, hcj, hdj⟩
  · obtain rfl : r_1 = none := by rw [hr_1, hxj]; rfl
    refine W.eq (g2 := F0 m 5 ls [.null]) rfl ?_
    refine lv_astoreN (lv' := [(4, .null), (0, .ref (ad 0)), (1, .int n), (2, .int e_), (3, .int p_)]) hx hb dX3_event_5 hl (by decide) rfl (fun ls hl => ?_)
    refine lv_aloadN hx hb dX3_event_7 (lv_at hl 0 rfl) ?_
    refine lv_ifnullN (tgt := 26) hx hb dX3_event_9 (by decide) ?_
    refine lv_iconst (v := (-1)) hx hb dX3_event_26 (by decide) ?_
    have hsp : sC_event (t, lm, nN, nM, ns, ms, rt) n e_ p_ = ((-1), (t, lm, nN, nM, ns, ms, rt)) := by simp only [sC_event, hxj, sC_ev2, sC_evR]
    exact pc_reti hx hb hr hlocks hP hD hS dX3_event_27 ⟨ad, pg, rfl, by rw [hsp], by rw [hsp]; exact h0⟩
  · obtain rfl : r_1 = some (ad (32 + 2 * j)) := by rw [hr_1, hxj]; rfl
    refine W.eq (g2 := F0 m 5 ls [.ref (ad (32 + 2 * j))]) rfl ?_
    refine lv_astore (lv' := [(4, .ref (ad (32 + 2 * j))), (0, .ref (ad 0)), (1, .int n), (2, .int e_), (3, .int p_)]) hx hb dX3_event_5 hl (by decide) rfl (fun ls hl => ?_)
    refine lv_aload hx hb dX3_event_7 (lv_at hl 0 rfl) ?_
    refine lv_ifnull hx hb dX3_event_9 ?_
    refine lv_iload_n hx hb dX3_event_12 rfl (lv_at hl 3 rfl) ?_
    refine pr_callSi (As := [.int e_]) (rest := []) ⟨hx, hb, hml, hown, hts⟩ (k_C_isE l G cs L f e_) (cwS 1 hts (wg_S mw_201 mw_202 mw_1 mw_203) rfl rfl rfl (by decide +kernel) ⟨Nat.le_of_ble_eq_true rfl, Nat.le_of_ble_eq_true rfl⟩) hK hP px_T (fun _ _ _ => trivial) rfl hl.1 rfl (lv_room (Nat.le_of_ble_eq_true rfl)) dX3_event_13 ⟨Nat.le_of_ble_eq_true rfl, Nat.le_of_ble_eq_true rfl⟩ (fun r_2 hr_2 => ?_)
    rcases sp_in_cases (m := 5) (by decide) e_ with ⟨hxb, hsb⟩ | ⟨b, hb_, enb, hxb, hsb⟩
    · obtain rfl : r_2 = 0 := by rw [hr_2, hsb]
      refine lv_if_eq (tgt := 26) hx hb dX3_event_16 (by decide) (fun c_16 => ?_) (fun c_16 => ?_)
      · refine lv_iconst (v := (-1)) hx hb dX3_event_26 (by decide) ?_
        have hsp : sC_event (t, lm, nN, nM, ns, ms, rt) n e_ p_ = ((-1), (t, lm, nN, nM, ns, ms, rt)) := by simp only [sC_event, hxj, hxb, sC_ev2, sC_evR]
        exact pc_reti hx hb hr hlocks hP hD hS dX3_event_27 ⟨ad, pg, rfl, by rw [hsp], by rw [hsp]; exact h0⟩
      · exact absurd c_16 (by decide)
    · obtain rfl : r_2 = 1 := by rw [hr_2, hsb]
      refine lv_if_eq (tgt := 26) hx hb dX3_event_16 (by decide) (fun c_16 => ?_) (fun c_16 => ?_)
      · exact absurd c_16 (by decide)
      · refine lv_iload_n hx hb dX3_event_19 rfl (lv_at hl 4 rfl) ?_
        refine pr_callSi (As := [.int p_]) (rest := []) ⟨hx, hb, hml, hown, hts⟩ (k_C_isP l G cs L f p_) (cwS 1 hts (wg_S mw_198 mw_199 mw_1 mw_200) rfl rfl rfl (by decide +kernel) ⟨Nat.le_of_ble_eq_true rfl, Nat.le_of_ble_eq_true rfl⟩) hK hP px_T (fun _ _ _ => trivial) rfl hl.1 rfl (lv_room (Nat.le_of_ble_eq_true rfl)) dX3_event_20 ⟨Nat.le_of_ble_eq_true rfl, Nat.le_of_ble_eq_true rfl⟩ (fun r_3 hr_3 => ?_)
        rcases sp_in_cases (m := 8) (by decide) p_ with ⟨hxa, hsa⟩ | ⟨a, ha, ena, hxa, hsa⟩
        · obtain rfl : r_3 = 0 := by rw [hr_3, hsa]
          refine lv_if_ne (tgt := 28) hx hb dX3_event_23 (by decide) (fun c_23 => ?_) (fun c_23 => ?_)
          · exact absurd c_23 (by decide)
          · refine lv_iconst (v := (-1)) hx hb dX3_event_26 (by decide) ?_
            have hsp : sC_event (t, lm, nN, nM, ns, ms, rt) n e_ p_ = ((-1), (t, lm, nN, nM, ns, ms, rt)) := by simp only [sC_event, hxj, hxb, hxa, sC_ev2, sC_evR]
            exact pc_reti hx hb hr hlocks hP hD hS dX3_event_27 ⟨ad, pg, rfl, by rw [hsp], by rw [hsp]; exact h0⟩
        · obtain rfl : r_3 = 1 := by rw [hr_3, hsa]
          refine lv_if_ne (tgt := 28) hx hb dX3_event_23 (by decide) (fun c_23 => ?_) (fun c_23 => ?_)
          · refine lv_aload_n hx hb dX3_event_28 rfl (lv_at hl 1 rfl) ?_
            refine lv_iload_n hx hb dX3_event_29 rfl (lv_at hl 4 rfl) ?_
            refine lv_iload_n hx hb dX3_event_30 rfl (lv_at hl 3 rfl) ?_
            refine pr_callVi (As := [.int p_, .int e_]) (rest := []) ⟨hx, hb, hml, hown, hts⟩ (k_C_has l G cs L f ad t lm nN nM ns ms rt pg p_ e_ h0) (cwV 2 hts (wg_V mw_208 mw_210 ms_4 mw_1 mw_211) rfl rfl rfl (by decide +kernel) ⟨Nat.le_of_ble_eq_true rfl, Nat.le_of_ble_eq_true rfl⟩) hK hP m0 e0 rfl px_T (fun _ _ _ => trivial) rfl hl.1 rfl (lv_room (Nat.le_of_ble_eq_true rfl)) dX3_event_31 ⟨Nat.le_of_ble_eq_true rfl, Nat.le_of_ble_eq_true rfl⟩ (fun r_4 hr_4 => ?_)
            subst hr_4
            refine lv_if_ne (tgt := 40) hx hb dX3_event_34 (by decide) (fun c_34 => ?_) (fun c_34 => ?_)
            · refine lv_iload_n hx hb dX3_event_40 rfl (lv_at hl 3 rfl) ?_
              refine lv_aload hx hb dX3_event_41 (lv_at hl 0 rfl) ?_
              refine pw_get (ci := 0) (C := RX0) (T := TX0) (N := 8) hx hb hts inX0 hown hK hP (h0.mv hj).1.1.1 (h0.mv hj).1.2.1 rfl 5 (by decide) (hts _ mw_169) (fun _ h9 => h9) rfl dX3_event_43 ?_
              refine pr_callSi (As := [.int e_, .int ((ms j).2.2.2.2.2.1)]) (rest := []) ⟨hx, hb, hml, hown, hts⟩ (k_C_next l G cs L f e_ ((ms j).2.2.2.2.2.1) tL tC) (cwS 2 hts (wg_S mw_216 mw_217 mw_1 mw_218) rfl rfl rfl (by decide +kernel) ⟨Nat.le_of_ble_eq_true rfl, Nat.le_of_ble_eq_true rfl⟩) hK hP SX.px (SX.use hX hS (fun _ h => h.elim)) rfl hl.1 rfl (lv_room (Nat.le_of_ble_eq_true rfl)) dX3_event_46 ⟨Nat.le_of_ble_eq_true rfl, Nat.le_of_ble_eq_true rfl⟩ (fun r_5 hr_5 => ?_)
              subst hr_5
              refine lv_istore (lv' := [(5, .int (sC_next e_ ((ms j).2.2.2.2.2.1))), (4, .ref (ad (32 + 2 * j))), (0, .ref (ad 0)), (1, .int n), (2, .int e_), (3, .int p_)]) hx hb dX3_event_49 hl (by decide) rfl (fun ls hl => ?_)
              refine lv_iload hx hb dX3_event_51 (lv_at hl 0 rfl) ?_
              refine lv_iconst (v := (-1)) hx hb dX3_event_53 (by decide) ?_
              refine lv_icmp_ne (tgt := 60) hx hb dX3_event_54 (by decide) (fun c_54 => ?_) (fun c_54 => ?_)
              · refine lv_iload_n hx hb dX3_event_60 rfl (lv_at hl 4 rfl) ?_
                refine lv_if_ne (tgt := 76) hx hb dX3_event_61 (by decide) (fun c_61 => ?_) (fun c_61 => ?_)
                · refine lv_iload_n hx hb dX3_event_76 rfl (lv_at hl 4 rfl) ?_
                  refine lv_iconst (v := 2) hx hb dX3_event_77 (by decide) ?_
                  refine lv_icmp_ne (tgt := 92) hx hb dX3_event_78 (by decide) (fun c_78 => ?_) (fun c_78 => ?_)
                  · refine lv_aload hx hb dX3_event_92 (lv_at hl 1 rfl) ?_
                    refine lv_iload hx hb dX3_event_94 (lv_at hl 0 rfl) ?_
                    refine lv_aload_n hx hb dX3_event_96 rfl (lv_at hl 2 rfl) ?_
                    refine pw_get (ci := 3) (C := RX3) (T := TX3) (N := 8) hx hb hts inX3 hown hK hP m0 e0 rfl 6 (by decide) (hts _ mw_39) (fun _ h9 => h9) rfl dX3_event_97 ?_
                    refine pc_callVv (As := [.int (sC_next e_ ((ms j).2.2.2.2.2.1)), .int t]) (rest := []) ⟨hx, hb, hml, hown, hts⟩ (k_M_enter l G cs L f _ (ad (32 + 2 * j)) (ad (33 + 2 * j)) (ms j).1 (ms j).2.1 (ms j).2.2.1 (ms j).2.2.2.1 (ms j).2.2.2.2.1 (ms j).2.2.2.2.2.1 (ms j).2.2.2.2.2.2.1 (ms j).2.2.2.2.2.2.2 (sC_next e_ ((ms j).2.2.2.2.2.1)) t (h0.mv hj).1) (cwV 2 hts (wg_V mw_225 mw_226 mw_227 mw_5 mw_228) rfl rfl rfl (by decide +kernel) ⟨Nat.le_of_ble_eq_true rfl, Nat.le_of_ble_eq_true rfl⟩) hK hP hD hS hA (h0.mv hj).1.1.1 (h0.mv hj).1.2.1 rfl px_T (fun _ _ _ => trivial) rfl hl.1 rfl (lv_room (Nat.le_of_ble_eq_true rfl)) dX3_event_100 ⟨Nat.le_of_ble_eq_true rfl, Nat.le_of_ble_eq_true rfl⟩ (fun L1 f1 H locs hr_6 hP hD hS => ?_)
                    obtain ⟨rfl, rfl⟩ := Prod.mk.inj hr_6
                    have hps := h0.mobj hj (sC_next e_ ((ms j).2.2.2.2.2.1)) t (ms j).2.2.2.2.2.2.2
                    refine lv_iload hx hb dX3_event_103 (lv_at hl 0 rfl) ?_
                    have hsp : sC_event (t, lm, nN, nM, ns, ms, rt) n e_ p_ = (sC_next e_ ((ms j).2.2.2.2.2.1), (t, lm, nN, nM, ns, va_up ms j (ms_ent (ms j) (sC_next e_ ((ms j).2.2.2.2.2.1)) t), rt)) := by simp only [sC_event, hxj, hxb, hxa, if_neg c_34, if_neg c_54, if_neg c_61, if_neg c_78, sC_ev2, sC_evR]
                    exact pc_reti hx hb hr hlocks hP hD hS dX3_event_105 ⟨ad, pg, rfl, by rw [hsp], by rw [hsp]; exact hps⟩
                  · refine lv_aload hx hb dX3_event_81 (lv_at hl 1 rfl) ?_
                    refine pw_get (ci := 0) (C := RX0) (T := TX0) (N := 8) hx hb hts inX0 hown hK hP (h0.mv hj).1.1.1 (h0.mv hj).1.2.1 rfl 7 (by decide) (hts _ mw_172) (fun _ h9 => h9) rfl dX3_event_83 ?_
                    refine lv_if_ne (tgt := 92) hx hb dX3_event_86 (by decide) (fun c_86 => ?_) (fun c_86 => ?_)
                    · refine lv_aload hx hb dX3_event_92 (lv_at hl 1 rfl) ?_
                      refine lv_iload hx hb dX3_event_94 (lv_at hl 0 rfl) ?_
                      refine lv_aload_n hx hb dX3_event_96 rfl (lv_at hl 2 rfl) ?_
                      refine pw_get (ci := 3) (C := RX3) (T := TX3) (N := 8) hx hb hts inX3 hown hK hP m0 e0 rfl 6 (by decide) (hts _ mw_39) (fun _ h9 => h9) rfl dX3_event_97 ?_
                      refine pc_callVv (As := [.int (sC_next e_ ((ms j).2.2.2.2.2.1)), .int t]) (rest := []) ⟨hx, hb, hml, hown, hts⟩ (k_M_enter l G cs L f _ (ad (32 + 2 * j)) (ad (33 + 2 * j)) (ms j).1 (ms j).2.1 (ms j).2.2.1 (ms j).2.2.2.1 (ms j).2.2.2.2.1 (ms j).2.2.2.2.2.1 (ms j).2.2.2.2.2.2.1 (ms j).2.2.2.2.2.2.2 (sC_next e_ ((ms j).2.2.2.2.2.1)) t (h0.mv hj).1) (cwV 2 hts (wg_V mw_225 mw_226 mw_227 mw_5 mw_228) rfl rfl rfl (by decide +kernel) ⟨Nat.le_of_ble_eq_true rfl, Nat.le_of_ble_eq_true rfl⟩) hK hP hD hS hA (h0.mv hj).1.1.1 (h0.mv hj).1.2.1 rfl px_T (fun _ _ _ => trivial) rfl hl.1 rfl (lv_room (Nat.le_of_ble_eq_true rfl)) dX3_event_100 ⟨Nat.le_of_ble_eq_true rfl, Nat.le_of_ble_eq_true rfl⟩ (fun L1 f1 H locs hr_7 hP hD hS => ?_)
                      obtain ⟨rfl, rfl⟩ := Prod.mk.inj hr_7
                      have hps := h0.mobj hj (sC_next e_ ((ms j).2.2.2.2.2.1)) t (ms j).2.2.2.2.2.2.2
                      refine lv_iload hx hb dX3_event_103 (lv_at hl 0 rfl) ?_
                      have hsp : sC_event (t, lm, nN, nM, ns, ms, rt) n e_ p_ = (sC_next e_ ((ms j).2.2.2.2.2.1), (t, lm, nN, nM, ns, va_up ms j (ms_ent (ms j) (sC_next e_ ((ms j).2.2.2.2.2.1)) t), rt)) := by simp only [sC_event, hxj, hxb, hxa, if_neg c_34, if_neg c_54, if_neg c_61, if_pos c_78, if_neg c_86, sC_ev2, sC_evR]
                      exact pc_reti hx hb hr hlocks hP hD hS dX3_event_105 ⟨ad, pg, rfl, by rw [hsp], by rw [hsp]; exact hps⟩
                    · refine lv_bipush (v := (-5)) hx hb dX3_event_89 (by decide) ?_
                      have hsp : sC_event (t, lm, nN, nM, ns, ms, rt) n e_ p_ = ((-5), (t, lm, nN, nM, ns, ms, rt)) := by simp only [sC_event, hxj, hxb, hxa, if_neg c_34, if_neg c_54, if_neg c_61, if_pos c_78, if_pos c_86, sC_ev2, sC_evR]
                      exact pc_reti hx hb hr hlocks hP hD hS dX3_event_91 ⟨ad, pg, rfl, by rw [hsp], by rw [hsp]; exact h0⟩
                · refine lv_aload_n hx hb dX3_event_64 rfl (lv_at hl 2 rfl) ?_
                  refine lv_aload hx hb dX3_event_65 (lv_at hl 1 rfl) ?_
                  refine pr_callVi (As := [.ref (ad (32 + 2 * j))]) (rest := []) ⟨hx, hb, hml, hown, hts⟩ (k_C_can l G cs L f ad t lm nN nM ns ms rt pg j h0 hj) (cwV 1 hts (wg_V mw_221 mw_223 ms_5 mw_1 mw_224) rfl rfl rfl (by decide +kernel) ⟨Nat.le_of_ble_eq_true rfl, Nat.le_of_ble_eq_true rfl⟩) hK hP m0 e0 rfl px_T (fun _ _ _ => trivial) rfl hl.1 rfl (lv_room (Nat.le_of_ble_eq_true rfl)) dX3_event_67 ⟨Nat.le_of_ble_eq_true rfl, Nat.le_of_ble_eq_true rfl⟩ (fun r_8 hr_8 => ?_)
                  subst hr_8
                  refine lv_if_ne (tgt := 76) hx hb dX3_event_70 (by decide) (fun c_70 => ?_) (fun c_70 => ?_)
                  · refine lv_iload_n hx hb dX3_event_76 rfl (lv_at hl 4 rfl) ?_
                    refine lv_iconst (v := 2) hx hb dX3_event_77 (by decide) ?_
                    refine lv_icmp_ne (tgt := 92) hx hb dX3_event_78 (by decide) (fun c_78 => ?_) (fun c_78 => ?_)
                    · refine lv_aload hx hb dX3_event_92 (lv_at hl 1 rfl) ?_
                      refine lv_iload hx hb dX3_event_94 (lv_at hl 0 rfl) ?_
                      refine lv_aload_n hx hb dX3_event_96 rfl (lv_at hl 2 rfl) ?_
                      refine pw_get (ci := 3) (C := RX3) (T := TX3) (N := 8) hx hb hts inX3 hown hK hP m0 e0 rfl 6 (by decide) (hts _ mw_39) (fun _ h9 => h9) rfl dX3_event_97 ?_
                      refine pc_callVv (As := [.int (sC_next e_ ((ms j).2.2.2.2.2.1)), .int t]) (rest := []) ⟨hx, hb, hml, hown, hts⟩ (k_M_enter l G cs L f _ (ad (32 + 2 * j)) (ad (33 + 2 * j)) (ms j).1 (ms j).2.1 (ms j).2.2.1 (ms j).2.2.2.1 (ms j).2.2.2.2.1 (ms j).2.2.2.2.2.1 (ms j).2.2.2.2.2.2.1 (ms j).2.2.2.2.2.2.2 (sC_next e_ ((ms j).2.2.2.2.2.1)) t (h0.mv hj).1) (cwV 2 hts (wg_V mw_225 mw_226 mw_227 mw_5 mw_228) rfl rfl rfl (by decide +kernel) ⟨Nat.le_of_ble_eq_true rfl, Nat.le_of_ble_eq_true rfl⟩) hK hP hD hS hA (h0.mv hj).1.1.1 (h0.mv hj).1.2.1 rfl px_T (fun _ _ _ => trivial) rfl hl.1 rfl (lv_room (Nat.le_of_ble_eq_true rfl)) dX3_event_100 ⟨Nat.le_of_ble_eq_true rfl, Nat.le_of_ble_eq_true rfl⟩ (fun L1 f1 H locs hr_9 hP hD hS => ?_)
                      obtain ⟨rfl, rfl⟩ := Prod.mk.inj hr_9
                      have hps := h0.mobj hj (sC_next e_ ((ms j).2.2.2.2.2.1)) t (ms j).2.2.2.2.2.2.2
                      refine lv_iload hx hb dX3_event_103 (lv_at hl 0 rfl) ?_
                      have hsp : sC_event (t, lm, nN, nM, ns, ms, rt) n e_ p_ = (sC_next e_ ((ms j).2.2.2.2.2.1), (t, lm, nN, nM, ns, va_up ms j (ms_ent (ms j) (sC_next e_ ((ms j).2.2.2.2.2.1)) t), rt)) := by simp only [sC_event, hxj, hxb, hxa, if_neg c_34, if_neg c_54, if_pos c_61, if_neg c_70, if_neg c_78, sC_ev2, sC_evR]
                      exact pc_reti hx hb hr hlocks hP hD hS dX3_event_105 ⟨ad, pg, rfl, by rw [hsp], by rw [hsp]; exact hps⟩
                    · refine lv_aload hx hb dX3_event_81 (lv_at hl 1 rfl) ?_
                      refine pw_get (ci := 0) (C := RX0) (T := TX0) (N := 8) hx hb hts inX0 hown hK hP (h0.mv hj).1.1.1 (h0.mv hj).1.2.1 rfl 7 (by decide) (hts _ mw_172) (fun _ h9 => h9) rfl dX3_event_83 ?_
                      refine lv_if_ne (tgt := 92) hx hb dX3_event_86 (by decide) (fun c_86 => ?_) (fun c_86 => ?_)
                      · refine lv_aload hx hb dX3_event_92 (lv_at hl 1 rfl) ?_
                        refine lv_iload hx hb dX3_event_94 (lv_at hl 0 rfl) ?_
                        refine lv_aload_n hx hb dX3_event_96 rfl (lv_at hl 2 rfl) ?_
                        refine pw_get (ci := 3) (C := RX3) (T := TX3) (N := 8) hx hb hts inX3 hown hK hP m0 e0 rfl 6 (by decide) (hts _ mw_39) (fun _ h9 => h9) rfl dX3_event_97 ?_
                        refine pc_callVv (As := [.int (sC_next e_ ((ms j).2.2.2.2.2.1)), .int t]) (rest := []) ⟨hx, hb, hml, hown, hts⟩ (k_M_enter l G cs L f _ (ad (32 + 2 * j)) (ad (33 + 2 * j)) (ms j).1 (ms j).2.1 (ms j).2.2.1 (ms j).2.2.2.1 (ms j).2.2.2.2.1 (ms j).2.2.2.2.2.1 (ms j).2.2.2.2.2.2.1 (ms j).2.2.2.2.2.2.2 (sC_next e_ ((ms j).2.2.2.2.2.1)) t (h0.mv hj).1) (cwV 2 hts (wg_V mw_225 mw_226 mw_227 mw_5 mw_228) rfl rfl rfl (by decide +kernel) ⟨Nat.le_of_ble_eq_true rfl, Nat.le_of_ble_eq_true rfl⟩) hK hP hD hS hA (h0.mv hj).1.1.1 (h0.mv hj).1.2.1 rfl px_T (fun _ _ _ => trivial) rfl hl.1 rfl (lv_room (Nat.le_of_ble_eq_true rfl)) dX3_event_100 ⟨Nat.le_of_ble_eq_true rfl, Nat.le_of_ble_eq_true rfl⟩ (fun L1 f1 H locs hr_10 hP hD hS => ?_)
                        obtain ⟨rfl, rfl⟩ := Prod.mk.inj hr_10
                        have hps := h0.mobj hj (sC_next e_ ((ms j).2.2.2.2.2.1)) t (ms j).2.2.2.2.2.2.2
                        refine lv_iload hx hb dX3_event_103 (lv_at hl 0 rfl) ?_
                        have hsp : sC_event (t, lm, nN, nM, ns, ms, rt) n e_ p_ = (sC_next e_ ((ms j).2.2.2.2.2.1), (t, lm, nN, nM, ns, va_up ms j (ms_ent (ms j) (sC_next e_ ((ms j).2.2.2.2.2.1)) t), rt)) := by simp only [sC_event, hxj, hxb, hxa, if_neg c_34, if_neg c_54, if_pos c_61, if_neg c_70, if_pos c_78, if_neg c_86, sC_ev2, sC_evR]
                        exact pc_reti hx hb hr hlocks hP hD hS dX3_event_105 ⟨ad, pg, rfl, by rw [hsp], by rw [hsp]; exact hps⟩
                      · refine lv_bipush (v := (-5)) hx hb dX3_event_89 (by decide) ?_
                        have hsp : sC_event (t, lm, nN, nM, ns, ms, rt) n e_ p_ = ((-5), (t, lm, nN, nM, ns, ms, rt)) := by simp only [sC_event, hxj, hxb, hxa, if_neg c_34, if_neg c_54, if_pos c_61, if_neg c_70, if_pos c_78, if_pos c_86, sC_ev2, sC_evR]
                        exact pc_reti hx hb hr hlocks hP hD hS dX3_event_91 ⟨ad, pg, rfl, by rw [hsp], by rw [hsp]; exact h0⟩
                  · refine lv_bipush (v := (-4)) hx hb dX3_event_73 (by decide) ?_
                    have hsp : sC_event (t, lm, nN, nM, ns, ms, rt) n e_ p_ = ((-4), (t, lm, nN, nM, ns, ms, rt)) := by simp only [sC_event, hxj, hxb, hxa, if_neg c_34, if_neg c_54, if_pos c_61, if_pos c_70, sC_ev2, sC_evR]
                    exact pc_reti hx hb hr hlocks hP hD hS dX3_event_75 ⟨ad, pg, rfl, by rw [hsp], by rw [hsp]; exact h0⟩
              · refine lv_bipush (v := (-3)) hx hb dX3_event_57 (by decide) ?_
                have hsp : sC_event (t, lm, nN, nM, ns, ms, rt) n e_ p_ = ((-3), (t, lm, nN, nM, ns, ms, rt)) := by simp only [sC_event, hxj, hxb, hxa, if_neg c_34, if_pos c_54, sC_ev2, sC_evR]
                exact pc_reti hx hb hr hlocks hP hD hS dX3_event_59 ⟨ad, pg, rfl, by rw [hsp], by rw [hsp]; exact h0⟩
            · refine lv_bipush (v := (-2)) hx hb dX3_event_37 (by decide) ?_
              have hsp : sC_event (t, lm, nN, nM, ns, ms, rt) n e_ p_ = ((-2), (t, lm, nN, nM, ns, ms, rt)) := by simp only [sC_event, hxj, hxb, hxa, if_pos c_34, sC_ev2, sC_evR]
              exact pc_reti hx hb hr hlocks hP hD hS dX3_event_39 ⟨ad, pg, rfl, by rw [hsp], by rw [hsp]; exact h0⟩
          · exact absurd c_23 (by decide)
end
section
/-! The class: methods that write (2): day, notice, move. Laid by wip/gen/cwrites2.py. -/
theorem pw_astqN {p : Program} {l : Launch} {e : Env} {R : Room} {s : State} {m : MethodId} {args : Array Value} {below : List Frame} {meth : Method} {c : Code} {H : Heap} {locs : List Loc} {cells slots : Nat} {Q : State → Prop} {cc : ByteArray} {pc : Nat} {ls : Array Slot} {rest : List Value} {D : va_G} {cl : List vw_C} {A : Nat → Prop} {a : Nat} {tys : List (ClassId × FieldType)} {H0 : Heap} {L : List Nat} {f : Nat → va_E} (hexec : p.tables.exec = Jvm.exec) (hb : c.code = cc) (hK : va_K D cl tys s) (hP : va_P D cl (va_pl L f) H) (hD : va_D A (va_pl L f)) (hS : va_S A H0 H locs) (hm : a ∈ L) (t0 ci : Nat) {cA : ClassId} {r : vw_C} {n k v : Nat} {vs : List Value} {g : Nat → Option Nat} (he : f a = .inl (cA, n, .inr (.inr (.inr (.inr g))))) (ht : tys[t0]? = some (cA, .object r.1)) (hm2 : v ∈ L) (hv : f v = .inr (ci, vs)) (hc : cl[ci]? = some r) (hk : k < n) (hn : n < 2 ^ 31) (hdg : decode cc pc = .ok (.aastore, 1))
    (kk : ∀ (H1 : Heap) (locs1 : List Loc), va_P D cl (va_pl L (va_up f a (.inl (cA, n, .inr (.inr (.inr (.inr (va_up g k (some v))))))))) H1 → va_D A (va_pl L (va_up f a (.inl (cA, n, .inr (.inr (.inr (.inr (va_up g k (some v))))))))) → va_S A H0 H1 locs1 → W p l e R s m args below meth c H1 locs1 cells slots Q (F0 m (pc + 1) ls rest)) : W p l e R s m args below meth c H locs cells slots Q (F0 m pc ls (.ref v :: .int (nI k) :: .ref a :: rest)) := by
  refine pw_astq hexec hb hK hP hD hS hm t0 ci he ht hm2 hv hc (vp_in_nI hk hn) hdg (fun H1 locs1 hP1 hD1 hS1 => ?_)
  rw [nI_clamp (by omega)] at hP1 hD1
  exact kk H1 locs1 hP1 hD1 hS1
theorem pp_clr {cs : Nat → ClassId} {L : List Nat} {f : Nat → va_E} {q q1 n : Nat} {g : Nat → Int32} (h : PP cs L f q q1 n g) : va_up f q (.inr (2, [.ref q1, .int (nI 0)])) = pp_f cs f q q1 (0, g) := by
  have e : va_up f q1 (.inl (cs 1, 208, .inl g)) = f := by rw [← h.2.2]; exact va_up_same f q1
  unfold pp_f
  rw [e]

set_option maxHeartbeats 4000000 in
set_option maxRecDepth 100000 in
theorem k_C_day (l : Launch) (G : va_G) (cs : Nat → ClassId) (L : List Nat) (f : Nat → va_E) (sz : Nat) (ad : Nat → Nat) (t lm : Int32) (nN nM : Nat) (ns : Nat → NS) (ms : Nat → MS) (rt : Nat → Int32) (pg : sp_P) (a_ : Int32) (h0 : PS cs L f ad t lm nN nM ns ms rt pg) : Met l yX3_day (Cond.code yX3_day cX3_day 5 (some FieldType.int) :: wg) ({ frames := 1, cells := 0, slots := 0, locals := 23 }) (pc_P [.ref (ad 0), .int a_] G vwCl (tyl cs) L f sz (fun _ => True)) (va_Qi (fun r u => ∃ ad' pg', ad' 0 = ad 0 ∧ r = (sC_day (t, lm, nN, nM, ns, ms, rt) a_).1 ∧ PSx cs u.1 u.2 ad' (sC_day (t, lm, nN, nM, ns, ms, rt) a_).2 pg') (pc_B G vwCl L sz) (pw_A L sz)) 0 0 (pw_A L sz) := by
  refine Met.ofW (cc := cX3_day) (maxL := 5) (ret := (some FieldType.int)) (by decide) rfl ?_
  intro p e s m args below meth c s₁ B hml hv
  obtain ⟨rfl, hsz, hP, hK, hD0, hX⟩ := hv
  have hx := B.exec
  have hb := B.bytes
  have hr := B.returns
  have hts0 := atoms_spec (ws := (Cond.code yX3_day cX3_day 5 (some FieldType.int) :: wg)) B.pre
  have hts := fun (w : Cond) (h : w ∈ wg) => hts0 w (List.mem_cons_of_mem _ h)
  have hown : s.vm.findClass RX3 = some m.cls := findClass_of_methodNamed B.named
  have hlocks := B.notSynchronized
  subst hsz
  have hD := pw_selfD (sz := s.heap.size) hD0
  have hA : ∀ q : Nat, s.heap.size ≤ q → pw_A L s.heap.size q := fun q h => Or.inr h
  have hS : va_S (pw_A L s.heap.size) s.heap s.heap [] := va_S.rf
  have hl := lv_entry ([.ref (ad 0), .int a_]) (n := 5) (Nat.le_of_ble_eq_true rfl)
  rw [lg_entry_eq]
  generalize (lg_sl ([.ref (ad 0), .int a_]) ++ List.replicate (5 - (lg_sl ([.ref (ad 0), .int a_])).length) Slot.unset).toArray = ls at hl ⊢
  have hl : lv_has ls 5 [(0, .ref (ad 0)), (1, .int a_)] := hl
  have hN6 := h0.nN6
  have hM12 := h0.nM12
  have m0 := h0.mem (pu_lo (r := 0) (by decide))
  have e0 := h0.e0
  have m1 := h0.mem (pu_lo (r := 1) (by decide))
  have e1 := h0.e1
  have m2 := h0.mem (pu_lo (r := 2) (by decide))
  have e2 := h0.e2
  have m3 := h0.mem (pu_lo (r := 3) (by decide))
  have e3 := h0.e3
  refine lv_iload_n hx hb dX3_day_0 rfl (lv_at hl 1 rfl) ?_
  refine lv_aload_n hx hb dX3_day_1 rfl (lv_at hl 0 rfl) ?_
  refine pw_get (ci := 3) (C := RX3) (T := TX3) (N := 8) hx hb hts inX3 hown hK hP m0 e0 rfl 6 (by decide) (hts _ mw_39) (fun _ h9 => h9) rfl dX3_day_2 ?_
  refine lv_icmp_lt (tgt := 14) hx hb dX3_day_5 (by decide) (fun c_5 => ?_) (fun c_5 => ?_)
  · refine lv_iconst (v := (-1)) hx hb dX3_day_14 (by decide) ?_
    have hsp : sC_day (t, lm, nN, nM, ns, ms, rt) a_ = ((-1), (t, lm, nN, nM, ns, ms, rt)) := by simp [sC_day, c_5]
    exact pc_reti hx hb hr hlocks hP hD hS dX3_day_15 ⟨ad, pg, rfl, by rw [hsp], by rw [hsp]; exact h0⟩
  · refine lv_iload_n hx hb dX3_day_8 rfl (lv_at hl 1 rfl) ?_
    refine lv_ldc hx hb hown (hts _ mw_62) dX3_day_9 ?_
    refine lv_icmp_le (tgt := 16) hx hb dX3_day_11 (by decide) (fun c_11 => ?_) (fun c_11 => ?_)
    · refine lv_aload_n hx hb dX3_day_16 rfl (lv_at hl 0 rfl) ?_
      refine lv_iload_n hx hb dX3_day_17 rfl (lv_at hl 1 rfl) ?_
      refine pw_put (ty := .int) (ci := 3) (v := .int a_) (C := RX3) (T := TX3) (N := 8) hx hb hts inX3 tyX3 tyX3_ok nmX3 hown hK hP hD hS m0 e0 rfl 6 (by decide) (hts _ mw_39) (fun _ h9 => h9) rfl (by decide +kernel) rfl rfl (Nat.le_of_ble_eq_true rfl) dX3_day_18 (fun H locs hP hD hS => ?_)
      obtain ⟨f_1, ef_1⟩ : ∃ zz : Nat → va_E, zz = va_up f (ad 0) (.inr (3, [.ref (ad 1), .ref (ad 2), .ref (ad 3), .ref (ad 4), .int (nI nN), .int (nI nM), .int a_, .int lm])) := ⟨_, rfl⟩
      have hP : va_P G vwCl (va_pl L f_1) H := by rw [ef_1]; exact hP
      have hD : va_D (pw_A L s.heap.size) (va_pl L f_1) := by rw [ef_1]; exact hD
      have hf_1_ad_0 : f_1 (ad 0) = .inr (3, [.ref (ad 1), .ref (ad 2), .ref (ad 3), .ref (ad 4), .int (nI nN), .int (nI nM), .int a_, .int lm]) := by rw [ef_1]; exact va_up_self _ _ _
      refine lv_iconst (v := 0) hx hb dX3_day_21 (by decide) ?_
      refine lv_istore_n (lv' := [(2, .int 0), (0, .ref (ad 0)), (1, .int a_)]) hx hb dX3_day_22 rfl hl (by decide) rfl (fun ls hl => ?_)
      refine lv_iconst (v := 0) hx hb dX3_day_23 (by decide) ?_
      refine lv_istore_n (lv' := [(3, .int 0), (2, .int 0), (0, .ref (ad 0)), (1, .int a_)]) hx hb dX3_day_24 rfl hl (by decide) rfl (fun ls hl => ?_)
      have hp1 := h0.main a_ lm
      have efm : f_1 = va_up f (ad 0) (ps_0 ad a_ lm nN nM) := ef_1
      rw [← efm] at hp1
      refine pc_loop (σ := Nat × (Nat → va_E)) (nL := 5) (fun x => nN - x.1) (fun x => x.1 ≤ nN ∧ PS cs L x.2 ad a_ lm nN nM (sC_dn a_ ns x.1).2 ms rt pg) (fun x => (L, x.2)) (fun x => [(3, .int (nI x.1)), (2, .int (sC_dn a_ ns x.1).1), (0, .ref (ad 0)), (1, .int a_)]) ?_ (0, f_1) ⟨Nat.zero_le _, hp1⟩ hP hD hS ls (lv_sub hl [0, 1, 2, 3] rfl)
      rintro ⟨k, fq⟩ ⟨hk, hq⟩ ih H locs ls hP hD hS hl
      have hk : k ≤ nN := hk
      have hq : PS cs L fq ad a_ lm nN nM (sC_dn a_ ns k).2 ms rt pg := hq
      have e0 := hq.e0
      refine lv_iload_n hx hb dX3_day_25 rfl (lv_at hl 0 rfl) ?_
      refine lv_aload_n hx hb dX3_day_26 rfl (lv_at hl 2 rfl) ?_
      refine pw_get (ci := 3) (C := RX3) (T := TX3) (N := 8) hx hb hts inX3 hown hK hP m0 e0 rfl 4 (by decide) (hts _ mw_37) (fun _ h9 => h9) rfl dX3_day_27 ?_
      refine lv_icmp_ge (tgt := 60) hx hb dX3_day_30 (by decide) (fun c_30 => ?_) (fun c_30 => ?_)
      · have hk2 : k = nN := Nat.le_antisymm hk (nI_of_le c_30 (by omega))
        rw [hk2] at hq
        refine lv_iload_n hx hb dX3_day_60 rfl (lv_at hl 1 rfl) ?_
        rw [hk2]
        have hsp : sC_day (t, lm, nN, nM, ns, ms, rt) a_ = ((sC_dn a_ ns nN).1, (a_, lm, nN, nM, (sC_dn a_ ns nN).2, ms, rt)) := by simp [sC_day, c_5, c_11]
        exact pc_reti hx hb hr hlocks hP hD hS dX3_day_61 ⟨ad, pg, rfl, by rw [hsp], by rw [hsp]; exact hq⟩
      · have hk2 : k < nN := nI_of_ge c_30 (by omega)
        refine lv_aload_n hx hb dX3_day_33 rfl (lv_at hl 2 rfl) ?_
        refine lv_iload_n hx hb dX3_day_34 rfl (lv_at hl 0 rfl) ?_
        obtain ⟨nk, enk⟩ : ∃ z, z = (sC_dn a_ ns k).2 := ⟨_, rfl⟩
        rw [← enk] at hq
        refine pr_callVq (As := [.int (nI k)]) (rest := []) ⟨hx, hb, hml, hown, hts⟩ (k_C_nAt l G cs L fq ad a_ lm nN nM nk ms rt pg (nI k) hq) (cwV 1 hts (wg_V mw_63 mw_65 ms_0 mw_1 mw_66) rfl rfl rfl (by decide +kernel) ⟨Nat.le_of_ble_eq_true rfl, Nat.le_of_ble_eq_true rfl⟩) hK hP m0 e0 rfl px_T (fun _ _ _ => trivial) rfl hl.1 rfl (lv_room (Nat.le_of_ble_eq_true rfl)) dX3_day_35 ⟨Nat.le_of_ble_eq_true rfl, Nat.le_of_ble_eq_true rfl⟩ (fun r_2 hr_2 => ?_)
        obtain rfl : r_2 = some (ad (8 + 4 * k)) := by rw [hr_2, ix_nI hk2 (by omega)]; rfl
        refine W.eq (g2 := F0 m 38 ls [.ref (ad (8 + 4 * k))]) rfl ?_
        refine lv_astore (lv' := [(4, .ref (ad (8 + 4 * k))), (3, .int (nI k)), (2, .int ((sC_dn a_ ns k).1)), (0, .ref (ad 0)), (1, .int a_)]) hx hb dX3_day_38 hl (by decide) rfl (fun ls hl => ?_)
        refine lv_aload hx hb dX3_day_40 (lv_at hl 0 rfl) ?_
        refine lv_ifnull hx hb dX3_day_42 ?_
        refine lv_iload_n hx hb dX3_day_45 rfl (lv_at hl 2 rfl) ?_
        refine lv_aload hx hb dX3_day_46 (lv_at hl 0 rfl) ?_
        refine lv_iload_n hx hb dX3_day_48 rfl (lv_at hl 4 rfl) ?_
        refine pc_callVi (As := [.int a_]) (rest := [.int ((sC_dn a_ ns k).1)]) ⟨hx, hb, hml, hown, hts⟩ (k_N_silent l G cs L fq _ (ad (8 + 4 * k)) (ad (9 + 4 * k)) (ad (10 + 4 * k)) (ad (11 + 4 * k)) (nk k).1 (nk k).2.1 (nk k).2.2.1 (nk k).2.2.2.1 (nk k).2.2.2.2.1 (nk k).2.2.2.2.2.1 (nk k).2.2.2.2.2.2 a_ (hq.nt hk2)) (cwV 1 hts (wg_V mw_67 mw_68 mw_69 mw_4 mw_70) rfl rfl rfl (by decide +kernel) ⟨Nat.le_of_ble_eq_true rfl, Nat.le_of_ble_eq_true rfl⟩) hK hP hD hS hA (hq.nt hk2).1.1 (hq.nt hk2).2.1.1 rfl px_T (fun _ _ _ => trivial) rfl hl.1 rfl (lv_room (Nat.le_of_ble_eq_true rfl)) dX3_day_49 ⟨Nat.le_of_ble_eq_true rfl, Nat.le_of_ble_eq_true rfl⟩ (fun r_3 L1 f1 H locs hr_3 hP hD hS => ?_)
        obtain ⟨hr1, hr2⟩ := Prod.mk.inj hr_3
        obtain ⟨hL1, hf1⟩ := Prod.mk.inj hr2
        rw [hL1, hf1] at hP hD
        subst hr1
        have hps := hq.sil hk2 a_
        refine lv_iadd hx hb dX3_day_52 ?_
        refine lv_istore_n (lv' := [(2, .int (((sC_dn a_ ns k).1) + (nI (sp_sil (nk k).2.2.2.2.1 (nk k).2.2.2.2.2.1 a_ (nk k).2.2.2.1 6).2))), (4, .ref (ad (8 + 4 * k))), (3, .int (nI k)), (0, .ref (ad 0)), (1, .int a_)]) hx hb dX3_day_53 rfl hl (by decide) rfl (fun ls hl => ?_)
        obtain ⟨z_4, ez_4⟩ : ∃ z : Int32, z = (nI k) + 1 := ⟨_, rfl⟩
        refine lv_iinc (v := z_4) (lv' := [(3, .int z_4), (2, .int (((sC_dn a_ ns k).1) + (nI (sp_sil (nk k).2.2.2.2.1 (nk k).2.2.2.2.2.1 a_ (nk k).2.2.2.1 6).2))), (4, .ref (ad (8 + 4 * k))), (0, .ref (ad 0)), (1, .int a_)]) hx hb dX3_day_54 hl (k := 2) rfl (by rw [ez_4]; rfl) (by decide) rfl (fun ls hl => ?_)
        refine lv_goto (tgt := 25) hx hb dX3_day_57 (by decide) ?_
        obtain rfl : z_4 = nI (k + 1) := by rw [ez_4]; exact nI_1 k
        have hsum : (sC_dn a_ ns (k + 1)).1 = ((sC_dn a_ ns k).1) + (nI (sp_sil (nk k).2.2.2.2.1 (nk k).2.2.2.2.2.1 a_ (nk k).2.2.2.1 6).2) := by simp only [sC_dn, ns_sil, enk]
        have hsu2 : (sC_dn a_ ns (k + 1)).2 = va_up nk k (ns_sil (nk k) a_).2 := by simp only [sC_dn, enk]
        rw [← hsum] at hl
        refine ih (k + 1, va_up fq (ad (9 + 4 * k)) (.inl (cs 0, 6, .inl (sp_sil (nk k).2.2.2.2.1 (nk k).2.2.2.2.2.1 a_ (nk k).2.2.2.1 6).1))) ⟨by show k + 1 ≤ nN; omega, ?_⟩ (by show nN - (k + 1) < nN - k; omega) H locs ls hP hD hS (lv_sub hl [0, 1, 3, 4] rfl)
        show PS cs L (va_up fq (ad (9 + 4 * k)) (.inl (cs 0, 6, .inl (sp_sil (nk k).2.2.2.2.1 (nk k).2.2.2.2.2.1 a_ (nk k).2.2.2.1 6).1))) ad a_ lm nN nM (sC_dn a_ ns (k + 1)).2 ms rt pg
        rw [hsu2]
        exact hps
    · refine lv_iconst (v := (-1)) hx hb dX3_day_14 (by decide) ?_
      have hsp : sC_day (t, lm, nN, nM, ns, ms, rt) a_ = ((-1), (t, lm, nN, nM, ns, ms, rt)) := by simp [sC_day, c_5, c_11]
      exact pc_reti hx hb hr hlocks hP hD hS dX3_day_15 ⟨ad, pg, rfl, by rw [hsp], by rw [hsp]; exact h0⟩

set_option maxHeartbeats 4000000 in
set_option maxRecDepth 100000 in
theorem k_C_notice (l : Launch) (G : va_G) (cs : Nat → ClassId) (L : List Nat) (f : Nat → va_E) (sz : Nat) (ad : Nat → Nat) (t lm : Int32) (nN nM : Nat) (ns : Nat → NS) (ms : Nat → MS) (rt : Nat → Int32) (pg : sp_P) (g_ : Int64) (f_ t_ : Int32) (h0 : PS cs L f ad t lm nN nM ns ms rt pg) : Met l yX3_notice (Cond.code yX3_notice cX3_notice 6 (some FieldType.int) :: wg) ({ frames := 2, cells := 4, slots := 25, locals := 36 }) (pc_P [.ref (ad 0), .long g_, .int f_, .int t_] G vwCl (tyl cs) L f sz (fun _ => True)) (va_Qi (fun r u => ∃ ad' pg', ad' 0 = ad 0 ∧ r = (sC_notice (t, lm, nN, nM, ns, ms, rt) g_ f_ t_).1 ∧ PSx cs u.1 u.2 ad' (sC_notice (t, lm, nN, nM, ns, ms, rt) g_ f_ t_).2 pg') (pc_B G vwCl L sz) (pw_A L sz)) 4 25 (pw_A L sz) := by
  refine Met.ofW (cc := cX3_notice) (maxL := 6) (ret := (some FieldType.int)) (by decide) rfl ?_
  intro p e s m args below meth c s₁ B hml hv
  obtain ⟨rfl, hsz, hP, hK, hD0, hX⟩ := hv
  have hx := B.exec
  have hb := B.bytes
  have hr := B.returns
  have hts0 := atoms_spec (ws := (Cond.code yX3_notice cX3_notice 6 (some FieldType.int) :: wg)) B.pre
  have hts := fun (w : Cond) (h : w ∈ wg) => hts0 w (List.mem_cons_of_mem _ h)
  have hown : s.vm.findClass RX3 = some m.cls := findClass_of_methodNamed B.named
  have hlocks := B.notSynchronized
  subst hsz
  have hD := pw_selfD (sz := s.heap.size) hD0
  have hA : ∀ q : Nat, s.heap.size ≤ q → pw_A L s.heap.size q := fun q h => Or.inr h
  have hS : va_S (pw_A L s.heap.size) s.heap s.heap [] := va_S.rf
  have hl := lv_entry ([.ref (ad 0), .long g_, .int f_, .int t_]) (n := 6) (Nat.le_of_ble_eq_true rfl)
  rw [lg_entry_eq]
  generalize (lg_sl ([.ref (ad 0), .long g_, .int f_, .int t_]) ++ List.replicate (6 - (lg_sl ([.ref (ad 0), .long g_, .int f_, .int t_])).length) Slot.unset).toArray = ls at hl ⊢
  have hl : lv_has ls 6 [(0, .ref (ad 0)), (1, .long g_), (3, .int f_), (4, .int t_)] := hl
  have hN6 := h0.nN6
  have hM12 := h0.nM12
  have m0 := h0.mem (pu_lo (r := 0) (by decide))
  have e0 := h0.e0
  have m1 := h0.mem (pu_lo (r := 1) (by decide))
  have e1 := h0.e1
  have m2 := h0.mem (pu_lo (r := 2) (by decide))
  have e2 := h0.e2
  have m3 := h0.mem (pu_lo (r := 3) (by decide))
  have e3 := h0.e3
  refine lv_aload_n hx hb dX3_notice_0 rfl (lv_at hl 0 rfl) ?_
  refine pw_get (ci := 3) (C := RX3) (T := TX3) (N := 8) hx hb hts inX3 hown hK hP m0 e0 rfl 4 (by decide) (hts _ mw_37) (fun _ h9 => h9) rfl dX3_notice_1 ?_
  refine lv_bipush (v := 6) hx hb dX3_notice_4 (by decide) ?_
  refine lv_icmp_ge (tgt := 23) hx hb dX3_notice_6 (by decide) (fun c_6 => ?_) (fun c_6 => ?_)
  · have d_6 : 6 ≤ nN := (nI_leI (a := 6) (b := nN) (by decide) (by omega)).mp c_6
    refine lv_iconst (v := (-1)) hx hb dX3_notice_23 (by decide) ?_
    refine W.widen (k := 4) (n := 25) (Nat.zero_le _) (Nat.zero_le _) ?_
    have hsp : sC_notice (t, lm, nN, nM, ns, ms, rt) g_ f_ t_ = ((-1), (t, lm, nN, nM, ns, ms, rt)) := by simp [sC_notice, d_6]
    exact pc_reti hx hb hr hlocks hP hD hS dX3_notice_24 ⟨ad, pg, rfl, by rw [hsp], by rw [hsp]; exact h0⟩
  · have d_6 : ¬ 6 ≤ nN := fun z => c_6 ((nI_leI (a := 6) (b := nN) (by decide) (by omega)).mpr z)
    refine lv_lload_n hx hb dX3_notice_9 rfl (lv_at hl 1 rfl) ?_
    refine lv_lconst (v := 1) hx hb dX3_notice_10 (by decide) ?_
    refine W.lcmp hx hb dX3_notice_11 ?_
    refine lv_if_lt (tgt := 23) hx hb dX3_notice_12 (by decide) (fun c_12 => ?_) (fun c_12 => ?_)
    · have c_12 := (lg_cmp_lt _ _).mp c_12
      refine lv_iconst (v := (-1)) hx hb dX3_notice_23 (by decide) ?_
      refine W.widen (k := 4) (n := 25) (Nat.zero_le _) (Nat.zero_le _) ?_
      have hsp : sC_notice (t, lm, nN, nM, ns, ms, rt) g_ f_ t_ = ((-1), (t, lm, nN, nM, ns, ms, rt)) := by simp [sC_notice, d_6, c_12]
      exact pc_reti hx hb hr hlocks hP hD hS dX3_notice_24 ⟨ad, pg, rfl, by rw [hsp], by rw [hsp]; exact h0⟩
    · have c_12 : ¬ g_ < 1 := fun h => c_12 ((lg_cmp_lt _ _).mpr h)
      refine lv_lload_n hx hb dX3_notice_15 rfl (lv_at hl 1 rfl) ?_
      refine lv_ldc2 hx hb hown (hts _ mw_75) dX3_notice_16 ?_
      refine W.lcmp hx hb dX3_notice_19 ?_
      refine lv_if_le (tgt := 25) hx hb dX3_notice_20 (by decide) (fun c_20 => ?_) (fun c_20 => ?_)
      · have c_20 := (lg_cmp_le _ _).mp c_20
        refine lv_iload_n hx hb dX3_notice_25 rfl (lv_at hl 2 rfl) ?_
        refine lv_if_lt (tgt := 42) hx hb dX3_notice_26 (by decide) (fun c_26 => ?_) (fun c_26 => ?_)
        · refine lv_iconst (v := (-1)) hx hb dX3_notice_42 (by decide) ?_
          refine W.widen (k := 4) (n := 25) (Nat.zero_le _) (Nat.zero_le _) ?_
          have hsp : sC_notice (t, lm, nN, nM, ns, ms, rt) g_ f_ t_ = ((-1), (t, lm, nN, nM, ns, ms, rt)) := by simp [sC_notice, d_6, c_12, c_20, c_26]
          exact pc_reti hx hb hr hlocks hP hD hS dX3_notice_43 ⟨ad, pg, rfl, by rw [hsp], by rw [hsp]; exact h0⟩
        · refine lv_iload hx hb dX3_notice_29 (lv_at hl 3 rfl) ?_
          refine lv_iload_n hx hb dX3_notice_31 rfl (lv_at hl 2 rfl) ?_
          refine lv_icmp_lt (tgt := 42) hx hb dX3_notice_32 (by decide) (fun c_32 => ?_) (fun c_32 => ?_)
          · refine lv_iconst (v := (-1)) hx hb dX3_notice_42 (by decide) ?_
            refine W.widen (k := 4) (n := 25) (Nat.zero_le _) (Nat.zero_le _) ?_
            have hsp : sC_notice (t, lm, nN, nM, ns, ms, rt) g_ f_ t_ = ((-1), (t, lm, nN, nM, ns, ms, rt)) := by simp [sC_notice, d_6, c_12, c_20, c_26, c_32]
            exact pc_reti hx hb hr hlocks hP hD hS dX3_notice_43 ⟨ad, pg, rfl, by rw [hsp], by rw [hsp]; exact h0⟩
          · refine lv_iload hx hb dX3_notice_35 (lv_at hl 3 rfl) ?_
            refine lv_ldc hx hb hown (hts _ mw_62) dX3_notice_37 ?_
            refine lv_icmp_le (tgt := 44) hx hb dX3_notice_39 (by decide) (fun c_39 => ?_) (fun c_39 => ?_)
            · refine lv_aload_n hx hb dX3_notice_44 rfl (lv_at hl 0 rfl) ?_
              refine pw_get (ci := 3) (C := RX3) (T := TX3) (N := 8) hx hb hts inX3 hown hK hP m0 e0 rfl 4 (by decide) (hts _ mw_37) (fun _ h9 => h9) rfl dX3_notice_45 ?_
              refine lv_istore (lv' := [(5, .int (nI nN)), (0, .ref (ad 0)), (1, .long g_), (3, .int f_), (4, .int t_)]) hx hb dX3_notice_48 hl (by decide) rfl (fun ls hl => ?_)
              refine lv_aload_n hx hb dX3_notice_50 rfl (lv_at hl 1 rfl) ?_
              refine pw_get (ci := 3) (C := RX3) (T := TX3) (N := 8) hx hb hts inX3 hown hK hP m0 e0 rfl 0 (by decide) (hts _ mw_33) (fun _ h9 => h9) rfl dX3_notice_51 ?_
              refine lv_iload hx hb dX3_notice_54 (lv_at hl 0 rfl) ?_
              refine pw_new (ci := 1) (C := RX1) (T := TX1) (N := 7) (fs := [.long 0, .int 0, .int 0, .null, .null, .null, .long 0]) hx hb hts inX1 tyX1 tyX1_ok hown (hts _ mw_14) (hts _ mw_76) (hts _ mw_4) hK hP hD hS hA rfl (by decide) (Nat.le_of_ble_eq_true rfl) (Nat.le_of_ble_eq_true rfl) dX3_notice_56 (fun q H hq hP hD hS => ?_)
              obtain ⟨f_1, ef_1⟩ : ∃ zz : Nat → va_E, zz = va_up f q (.inr (1, [.long 0, .int 0, .int 0, .null, .null, .null, .long 0])) := ⟨_, rfl⟩
              have hP : va_P G vwCl (va_pl (L ++ [q]) f_1) H := by rw [ef_1]; exact hP
              have hD : va_D (pw_A L s.heap.size) (va_pl (L ++ [q]) f_1) := by rw [ef_1]; exact hD
              have mf_1_ad_0 : ad 0 ∈ (L ++ [q]) := List.mem_append_left _ m0
              have hf_1_ad_0 := (show f_1 (ad 0) = f (ad 0) by rw [ef_1]; exact va_up_ne _ _ (fun h => hq (h ▸ m0))).trans e0
              have mf_1_ad_1 : ad 1 ∈ (L ++ [q]) := List.mem_append_left _ m1
              have hf_1_ad_1 := (show f_1 (ad 1) = f (ad 1) by rw [ef_1]; exact va_up_ne _ _ (fun h => hq (h ▸ m1))).trans e1
              have mf_1_q : q ∈ (L ++ [q]) := List.mem_append_right _ (List.mem_singleton.mpr rfl)
              have hf_1_q : f_1 q = .inr (1, [.long 0, .int 0, .int 0, .null, .null, .null, .long 0]) := by rw [ef_1]; exact va_up_self _ _ _
              refine lv_dup hx hb dX3_notice_59 rfl ?_
              refine lv_lload_n hx hb dX3_notice_60 rfl (lv_at hl 2 rfl) ?_
              refine lv_iload_n hx hb dX3_notice_61 rfl (lv_at hl 3 rfl) ?_
              refine lv_iload hx hb dX3_notice_62 (lv_at hl 4 rfl) ?_
              refine pc_callI (As := [.long g_, .int f_, .int t_]) (rest := [.ref q, .int (nI nN), .ref (ad 1)]) ⟨hx, hb, hml, hown, hts⟩ (k_N_init l G cs (L ++ [q]) f_1 _ q g_ f_ t_ mf_1_q hf_1_q) (cwI 3 hts (wg_I mw_79) rfl rfl rfl (hts _ mw_4) (hts _ mw_77) (hts _ mw_78) rfl (by decide +kernel) ⟨Nat.le_of_ble_eq_true rfl, Nat.le_of_ble_eq_true rfl⟩) hK hP hD hS hA px_T (fun _ _ _ => trivial) rfl hl.1 rfl (lv_room (Nat.le_of_ble_eq_true rfl)) dX3_notice_64 ⟨Nat.le_of_ble_eq_true rfl, Nat.le_of_ble_eq_true rfl⟩ (fun L1 f1 H locs hr_2 hP hD hS => ?_)
              obtain ⟨q1, q2, q3, hn1, hn2, hn3, hsub, hkeep, hN⟩ := hr_2
              have hkeep : ∀ a, a ∈ (L ++ [q]) → a ≠ q → f1 a = f_1 a := hkeep
              have mmad_0 : ad 0 ∈ L1 := hsub _ mf_1_ad_0
              have eead_0 := (hkeep (ad 0) mf_1_ad_0 (fun z => hq (z ▸ m0))).trans hf_1_ad_0
              have mmad_1 : ad 1 ∈ L1 := hsub _ mf_1_ad_1
              have eead_1 := (hkeep (ad 1) mf_1_ad_1 (fun z => hq (z ▸ m1))).trans hf_1_ad_1
              refine pw_astqN (k := nN) (r := (RX1, TX1, 7)) hx hb hK hP hD hS mmad_1 4 1 eead_1 rfl hN.1.1 hN.2.1.1 rfl (by omega) (by decide) dX3_notice_67 (fun H locs hP hD hS => ?_)
              obtain ⟨fA, efA⟩ : ∃ zz : Nat → va_E, zz = va_up f1 (ad 1) (.inl (cs 4, 6, .inr (.inr (.inr (.inr (va_up (ps_g ad 8 4 nN) nN (some q))))))) := ⟨_, rfl⟩
              have hP : va_P G vwCl (va_pl L1 fA) H := by rw [efA]; exact hP
              have hD : va_D (pw_A L s.heap.size) (va_pl L1 fA) := by rw [efA]; exact hD
              have e00 := (show fA (ad 0) = f1 (ad 0) by rw [efA]; exact va_up_ne _ _ (h0.ne (pu_lo (by decide)) (pu_lo (by decide)) (by decide))).trans eead_0
              refine lv_aload_n hx hb dX3_notice_68 rfl (lv_at hl 1 rfl) ?_
              refine lv_dup hx hb dX3_notice_69 rfl ?_
              refine pw_get (ci := 3) (C := RX3) (T := TX3) (N := 8) hx hb hts inX3 hown hK hP mmad_0 e00 rfl 4 (by decide) (hts _ mw_37) (fun _ h9 => h9) rfl dX3_notice_70 ?_
              refine lv_iconst (v := 1) hx hb dX3_notice_73 (by decide) ?_
              refine lv_iadd hx hb dX3_notice_74 ?_
              have eix75 : nI nN + 1 = nI (nN + 1) := nI_1 nN
              rw [eix75]
              refine pw_put (ty := .int) (ci := 3) (v := .int (nI (nN + 1))) (C := RX3) (T := TX3) (N := 8) hx hb hts inX3 tyX3 tyX3_ok nmX3 hown hK hP hD hS mmad_0 e00 rfl 4 (by decide) (hts _ mw_37) (fun _ h9 => h9) rfl (by decide +kernel) rfl rfl (Nat.le_of_ble_eq_true rfl) dX3_notice_75 (fun H locs hP hD hS => ?_)
              obtain ⟨f_3, ef_3⟩ : ∃ zz : Nat → va_E, zz = va_up fA (ad 0) (.inr (3, [.ref (ad 1), .ref (ad 2), .ref (ad 3), .ref (ad 4), .int (nI (nN + 1)), .int (nI nM), .int t, .int lm])) := ⟨_, rfl⟩
              have hP : va_P G vwCl (va_pl L1 f_3) H := by rw [ef_3]; exact hP
              have hD : va_D (pw_A L s.heap.size) (va_pl L1 f_3) := by rw [ef_3]; exact hD
              have hf_3_ad_0 : f_3 (ad 0) = .inr (3, [.ref (ad 1), .ref (ad 2), .ref (ad 3), .ref (ad 4), .int (nI (nN + 1)), .int (nI nM), .int t, .int lm]) := by rw [ef_3]; exact va_up_self _ _ _
              refine lv_iload hx hb dX3_notice_78 (lv_at hl 0 rfl) ?_
              have a0 : ∀ x, x ∉ L → x ≠ ad 0 ∧ x ≠ ad 1 := fun x hx0 => ⟨fun z => hx0 (z ▸ m0), fun z => hx0 (z ▸ m1)⟩
              have hq1 : q1 ∉ L := fun z => hn1 (List.mem_append_left _ z)
              have hq2 : q2 ∉ L := fun z => hn2 (List.mem_append_left _ z)
              have hq3 : q3 ∉ L := fun z => hn3 (List.mem_append_left _ z)
              have kp : ∀ x, x ≠ ad 0 → x ≠ ad 1 → f_3 x = f1 x := fun x z0 z1 => by rw [ef_3, va_up_ne _ _ z0, efA, va_up_ne _ _ z1]
              have hsubL : ∀ a ∈ L, a ∈ L1 := fun a ha => hsub a (List.mem_append_left _ ha)
              have hNz : NT cs L1 f_3 q q1 q2 q3 g_ f_ t_ (fun _ => 0) (fun _ => 0) (fun _ => 0) 0 := by
                obtain ⟨w1, ⟨w2, w3, w4, w5⟩, w6⟩ := hN
                exact ⟨w1, ⟨(kp _ (a0 _ hq).1 (a0 _ hq).2).trans w2, (kp _ (a0 _ hq1).1 (a0 _ hq1).2).trans w3, (kp _ (a0 _ hq2).1 (a0 _ hq2).2).trans w4, (kp _ (a0 _ hq3).1 (a0 _ hq3).2).trans w5⟩, w6⟩
              obtain ⟨ad', had, hps⟩ := h0.more (n' := (g_, f_, t_, fun _ => 0, fun _ => 0, fun _ => 0, 0)) (by omega) hsubL ⟨⟨hq, hq1, hq2, hq3⟩, fun z => hn1 (z ▸ List.mem_append_right _ (List.mem_singleton.mpr rfl)), fun z => hn2 (z ▸ List.mem_append_right _ (List.mem_singleton.mpr rfl)), fun z => hn3 (z ▸ List.mem_append_right _ (List.mem_singleton.mpr rfl))⟩ hNz
                (fun r hr h1 => by
                  rw [kp _ (h0.ne hr (pu_lo (by decide)) (by omega)) (h0.ne hr (pu_lo (by decide)) (by omega)), hkeep _ (List.mem_append_left _ (h0.mem hr)) (fun z => hq (z ▸ h0.mem hr)), ef_1]
                  exact va_up_ne _ _ (fun z => hq (z ▸ h0.mem hr)))
                (by rw [ef_3]; exact va_up_self _ _ _)
                (by rw [ef_3, va_up_ne _ _ (h0.ne (pu_lo (by decide)) (pu_lo (by decide)) (by decide)), efA]; exact va_up_self _ _ _)
              have hsp : sC_notice (t, lm, nN, nM, ns, ms, rt) g_ f_ t_ = (nI nN, (t, lm, nN + 1, nM, va_up ns nN (g_, f_, t_, fun _ => 0, fun _ => 0, fun _ => 0, 0), ms, rt)) := by simp [sC_notice, d_6, c_12, c_20, c_26, c_32, c_39]
              exact pc_reti hx hb hr hlocks hP hD hS dX3_notice_80 ⟨ad', pg, had, by rw [hsp], by rw [hsp]; exact hps⟩
            · refine lv_iconst (v := (-1)) hx hb dX3_notice_42 (by decide) ?_
              refine W.widen (k := 4) (n := 25) (Nat.zero_le _) (Nat.zero_le _) ?_
              have hsp : sC_notice (t, lm, nN, nM, ns, ms, rt) g_ f_ t_ = ((-1), (t, lm, nN, nM, ns, ms, rt)) := by simp [sC_notice, d_6, c_12, c_20, c_26, c_32, c_39]
              exact pc_reti hx hb hr hlocks hP hD hS dX3_notice_43 ⟨ad, pg, rfl, by rw [hsp], by rw [hsp]; exact h0⟩
      · have c_20 : ¬ g_ ≤ 1000000000 := fun h => c_20 ((lg_cmp_le _ _).mpr h)
        refine lv_iconst (v := (-1)) hx hb dX3_notice_23 (by decide) ?_
        refine W.widen (k := 4) (n := 25) (Nat.zero_le _) (Nat.zero_le _) ?_
        have hsp : sC_notice (t, lm, nN, nM, ns, ms, rt) g_ f_ t_ = ((-1), (t, lm, nN, nM, ns, ms, rt)) := by simp [sC_notice, d_6, c_12, c_20]
        exact pc_reti hx hb hr hlocks hP hD hS dX3_notice_24 ⟨ad, pg, rfl, by rw [hsp], by rw [hsp]; exact h0⟩

set_option maxHeartbeats 4000000 in
set_option maxRecDepth 100000 in
theorem k_C_move (l : Launch) (G : va_G) (cs : Nat → ClassId) (L : List Nat) (f : Nat → va_E) (sz : Nat) (ad : Nat → Nat) (t lm : Int32) (nN nM : Nat) (ns : Nat → NS) (ms : Nat → MS) (rt : Nat → Int32) (pg : sp_P) (n_ : Int32) (g_ : Int64) (d_ : Int32) (h0 : PS cs L f ad t lm nN nM ns ms rt pg) : Met l yX3_move (Cond.code yX3_move cX3_move 7 (some FieldType.int) :: wg) ({ frames := 2, cells := 2, slots := 14, locals := 46 }) (pc_P [.ref (ad 0), .int n_, .long g_, .int d_] G vwCl (tyl cs) L f sz (fun _ => True)) (va_Qi (fun r u => ∃ ad' pg', ad' 0 = ad 0 ∧ r = (sC_move (t, lm, nN, nM, ns, ms, rt) n_ g_ d_).1 ∧ PSx cs u.1 u.2 ad' (sC_move (t, lm, nN, nM, ns, ms, rt) n_ g_ d_).2 pg') (pc_B G vwCl L sz) (pw_A L sz)) 2 14 (pw_A L sz) := by
  refine Met.ofW (cc := cX3_move) (maxL := 7) (ret := (some FieldType.int)) (by decide) rfl ?_
  intro p e s m args below meth c s₁ B hml hv
  obtain ⟨rfl, hsz, hP, hK, hD0, hX⟩ := hv
  have hx := B.exec
  have hb := B.bytes
  have hr := B.returns
  have hts0 := atoms_spec (ws := (Cond.code yX3_move cX3_move 7 (some FieldType.int) :: wg)) B.pre
  have hts := fun (w : Cond) (h : w ∈ wg) => hts0 w (List.mem_cons_of_mem _ h)
  have hown : s.vm.findClass RX3 = some m.cls := findClass_of_methodNamed B.named
  have hlocks := B.notSynchronized
  subst hsz
  have hD := pw_selfD (sz := s.heap.size) hD0
  have hA : ∀ q : Nat, s.heap.size ≤ q → pw_A L s.heap.size q := fun q h => Or.inr h
  have hS : va_S (pw_A L s.heap.size) s.heap s.heap [] := va_S.rf
  have hl := lv_entry ([.ref (ad 0), .int n_, .long g_, .int d_]) (n := 7) (Nat.le_of_ble_eq_true rfl)
  rw [lg_entry_eq]
  generalize (lg_sl ([.ref (ad 0), .int n_, .long g_, .int d_]) ++ List.replicate (7 - (lg_sl ([.ref (ad 0), .int n_, .long g_, .int d_])).length) Slot.unset).toArray = ls at hl ⊢
  have hl : lv_has ls 7 [(0, .ref (ad 0)), (1, .int n_), (2, .long g_), (4, .int d_)] := hl
  have hN6 := h0.nN6
  have hM12 := h0.nM12
  have m0 := h0.mem (pu_lo (r := 0) (by decide))
  have e0 := h0.e0
  have m1 := h0.mem (pu_lo (r := 1) (by decide))
  have e1 := h0.e1
  have m2 := h0.mem (pu_lo (r := 2) (by decide))
  have e2 := h0.e2
  have m3 := h0.mem (pu_lo (r := 3) (by decide))
  have e3 := h0.e3
  refine lv_aload_n hx hb dX3_move_0 rfl (lv_at hl 0 rfl) ?_
  refine lv_iload_n hx hb dX3_move_1 rfl (lv_at hl 1 rfl) ?_
  refine pr_callVq (As := [.int n_]) (rest := []) ⟨hx, hb, hml, hown, hts⟩ (k_C_nAt l G cs L f ad t lm nN nM ns ms rt pg n_ h0) (cwV 1 hts (wg_V mw_63 mw_65 ms_0 mw_1 mw_66) rfl rfl rfl (by decide +kernel) ⟨Nat.le_of_ble_eq_true rfl, Nat.le_of_ble_eq_true rfl⟩) hK hP m0 e0 rfl px_T (fun _ _ _ => trivial) rfl hl.1 rfl (lv_room (Nat.le_of_ble_eq_true rfl)) dX3_move_2 ⟨Nat.le_of_ble_eq_true rfl, Nat.le_of_ble_eq_true rfl⟩ (fun r_1 hr_1 => ?_)
  rcases ix_cases (m := nN) (by omega) n_ with ⟨hxi, hnoi⟩ | ⟨i, hi, eni, hxi, hci, hdi⟩
  · obtain rfl : r_1 = none := by rw [hr_1, hxi]; rfl
    refine W.eq (g2 := F0 m 5 ls [.null]) rfl ?_
    refine lv_astoreN (lv' := [(5, .null), (0, .ref (ad 0)), (1, .int n_), (2, .long g_), (4, .int d_)]) hx hb dX3_move_5 hl (by decide) rfl (fun ls hl => ?_)
    refine lv_aloadN hx hb dX3_move_7 (lv_at hl 0 rfl) ?_
    refine lv_ifnullN (tgt := 27) hx hb dX3_move_9 (by decide) ?_
    refine lv_iconst (v := (-1)) hx hb dX3_move_27 (by decide) ?_
    refine W.widen (k := 2) (n := 14) (Nat.zero_le _) (Nat.zero_le _) ?_
    have hsp : sC_move (t, lm, nN, nM, ns, ms, rt) n_ g_ d_ = ((-1), (t, lm, nN, nM, ns, ms, rt)) := by simp [sC_move, hxi]
    exact pc_reti hx hb hr hlocks hP hD hS dX3_move_28 ⟨ad, pg, rfl, by rw [hsp], by rw [hsp]; exact h0⟩
  · obtain rfl : r_1 = some (ad (8 + 4 * i)) := by rw [hr_1, hxi]; rfl
    refine W.eq (g2 := F0 m 5 ls [.ref (ad (8 + 4 * i))]) rfl ?_
    refine lv_astore (lv' := [(5, .ref (ad (8 + 4 * i))), (0, .ref (ad 0)), (1, .int n_), (2, .long g_), (4, .int d_)]) hx hb dX3_move_5 hl (by decide) rfl (fun ls hl => ?_)
    refine lv_aload hx hb dX3_move_7 (lv_at hl 0 rfl) ?_
    refine lv_ifnull hx hb dX3_move_9 ?_
    refine lv_aload_n hx hb dX3_move_12 rfl (lv_at hl 1 rfl) ?_
    refine pw_get (ci := 3) (C := RX3) (T := TX3) (N := 8) hx hb hts inX3 hown hK hP m0 e0 rfl 5 (by decide) (hts _ mw_38) (fun _ h9 => h9) rfl dX3_move_13 ?_
    refine lv_bipush (v := 12) hx hb dX3_move_16 (by decide) ?_
    refine lv_icmp_ge (tgt := 27) hx hb dX3_move_18 (by decide) (fun c_18 => ?_) (fun c_18 => ?_)
    · have d_18 : 12 ≤ nM := (nI_leI (a := 12) (b := nM) (by decide) (by omega)).mp c_18
      refine lv_iconst (v := (-1)) hx hb dX3_move_27 (by decide) ?_
      refine W.widen (k := 2) (n := 14) (Nat.zero_le _) (Nat.zero_le _) ?_
      have hsp : sC_move (t, lm, nN, nM, ns, ms, rt) n_ g_ d_ = ((-1), (t, lm, nN, nM, ns, ms, rt)) := by simp [sC_move, hxi, d_18]
      exact pc_reti hx hb hr hlocks hP hD hS dX3_move_28 ⟨ad, pg, rfl, by rw [hsp], by rw [hsp]; exact h0⟩
    · have d_18 : ¬ 12 ≤ nM := fun z => c_18 ((nI_leI (a := 12) (b := nM) (by decide) (by omega)).mpr z)
      refine lv_lload_n hx hb dX3_move_21 rfl (lv_at hl 3 rfl) ?_
      refine lv_lconst (v := 1) hx hb dX3_move_22 (by decide) ?_
      refine W.lcmp hx hb dX3_move_23 ?_
      refine lv_if_ge (tgt := 29) hx hb dX3_move_24 (by decide) (fun c_24 => ?_) (fun c_24 => ?_)
      · have c_24 := (lg_cmp_ge _ _).mp c_24
        refine lv_aload hx hb dX3_move_29 (lv_at hl 0 rfl) ?_
        refine lv_iload hx hb dX3_move_31 (lv_at hl 4 rfl) ?_
        refine pr_callVi (As := [.int d_]) (rest := []) ⟨hx, hb, hml, hown, hts⟩ (k_N_covers l G cs L f (ad (8 + 4 * i)) (ad (9 + 4 * i)) (ad (10 + 4 * i)) (ad (11 + 4 * i)) (ns i).1 (ns i).2.1 (ns i).2.2.1 (ns i).2.2.2.1 (ns i).2.2.2.2.1 (ns i).2.2.2.2.2.1 (ns i).2.2.2.2.2.2 d_ (h0.nt hi)) (cwV 1 hts (wg_V mw_139 mw_140 mw_141 mw_4 mw_142) rfl rfl rfl (by decide +kernel) ⟨Nat.le_of_ble_eq_true rfl, Nat.le_of_ble_eq_true rfl⟩) hK hP (h0.nt hi).1.1 (h0.nt hi).2.1.1 rfl px_T (fun _ _ _ => trivial) rfl hl.1 rfl (lv_room (Nat.le_of_ble_eq_true rfl)) dX3_move_33 ⟨Nat.le_of_ble_eq_true rfl, Nat.le_of_ble_eq_true rfl⟩ (fun r_2 hr_2 => ?_)
        subst hr_2
        refine lv_if_eq (tgt := 50) hx hb dX3_move_36 (by decide) (fun c_36 => ?_) (fun c_36 => ?_)
        · refine lv_iconst (v := (-1)) hx hb dX3_move_50 (by decide) ?_
          refine W.widen (k := 2) (n := 14) (Nat.zero_le _) (Nat.zero_le _) ?_
          have hsp : sC_move (t, lm, nN, nM, ns, ms, rt) n_ g_ d_ = ((-1), (t, lm, nN, nM, ns, ms, rt)) := by simp [sC_move, hxi, d_18, c_24, c_36]
          exact pc_reti hx hb hr hlocks hP hD hS dX3_move_51 ⟨ad, pg, rfl, by rw [hsp], by rw [hsp]; exact h0⟩
        · refine lv_iload hx hb dX3_move_39 (lv_at hl 4 rfl) ?_
          refine lv_aload_n hx hb dX3_move_41 rfl (lv_at hl 1 rfl) ?_
          refine pw_get (ci := 3) (C := RX3) (T := TX3) (N := 8) hx hb hts inX3 hown hK hP m0 e0 rfl 6 (by decide) (hts _ mw_39) (fun _ h9 => h9) rfl dX3_move_42 ?_
          refine lv_iconst (v := 3) hx hb dX3_move_45 (by decide) ?_
          refine lv_iadd hx hb dX3_move_46 ?_
          refine lv_icmp_ge (tgt := 52) hx hb dX3_move_47 (by decide) (fun c_47 => ?_) (fun c_47 => ?_)
          · refine lv_aload hx hb dX3_move_52 (lv_at hl 0 rfl) ?_
            refine lv_aload_n hx hb dX3_move_54 rfl (lv_at hl 1 rfl) ?_
            refine pw_get (ci := 3) (C := RX3) (T := TX3) (N := 8) hx hb hts inX3 hown hK hP m0 e0 rfl 6 (by decide) (hts _ mw_39) (fun _ h9 => h9) rfl dX3_move_55 ?_
            refine pr_callVi (As := [.int t]) (rest := []) ⟨hx, hb, hml, hown, hts⟩ (k_N_stateOn l G cs L f (ad (8 + 4 * i)) (ad (9 + 4 * i)) (ad (10 + 4 * i)) (ad (11 + 4 * i)) (ns i).1 (ns i).2.1 (ns i).2.2.1 (ns i).2.2.2.1 (ns i).2.2.2.2.1 (ns i).2.2.2.2.2.1 (ns i).2.2.2.2.2.2 t (h0.nt hi)) (cwV 1 hts (wg_V mw_127 mw_128 mw_129 mw_4 mw_130) rfl rfl rfl (by decide +kernel) ⟨Nat.le_of_ble_eq_true rfl, Nat.le_of_ble_eq_true rfl⟩) hK hP (h0.nt hi).1.1 (h0.nt hi).2.1.1 rfl px_T (fun _ _ _ => trivial) rfl hl.1 rfl (lv_room (Nat.le_of_ble_eq_true rfl)) dX3_move_58 ⟨Nat.le_of_ble_eq_true rfl, Nat.le_of_ble_eq_true rfl⟩ (fun r_3 hr_3 => ?_)
            subst hr_3
            refine lv_iconst (v := 1) hx hb dX3_move_61 (by decide) ?_
            refine lv_icmp_eq (tgt := 68) hx hb dX3_move_62 (by decide) (fun c_62 => ?_) (fun c_62 => ?_)
            · refine lv_lload_n hx hb dX3_move_68 rfl (lv_at hl 3 rfl) ?_
              refine lv_aload hx hb dX3_move_69 (lv_at hl 0 rfl) ?_
              refine pw_get (ci := 1) (C := RX1) (T := TX1) (N := 7) hx hb hts inX1 hown hK hP (h0.nt hi).1.1 (h0.nt hi).2.1.1 rfl 0 (by decide) (hts _ mw_82) (fun _ h9 => h9) rfl dX3_move_71 ?_
              refine lv_aload_n hx hb dX3_move_74 rfl (lv_at hl 1 rfl) ?_
              refine lv_iload_n hx hb dX3_move_75 rfl (lv_at hl 2 rfl) ?_
              refine pr_callVl (As := [.int n_]) (rest := [.long ((ns i).1), .long g_]) ⟨hx, hb, hml, hown, hts⟩ (k_C_gim l G cs L f ad t lm nN nM ns ms rt pg n_ h0) (cwV 1 hts (wg_V mw_143 mw_145 ms_2 mw_1 mw_146) rfl rfl rfl (by decide +kernel) ⟨Nat.le_of_ble_eq_true rfl, Nat.le_of_ble_eq_true rfl⟩) hK hP m0 e0 rfl px_T (fun _ _ _ => trivial) rfl hl.1 rfl (lv_room (Nat.le_of_ble_eq_true rfl)) dX3_move_76 ⟨Nat.le_of_ble_eq_true rfl, Nat.le_of_ble_eq_true rfl⟩ (fun r_4 hr_4 => ?_)
              subst hr_4
              refine lv_lsub hx hb dX3_move_79 ?_
              refine W.lcmp hx hb dX3_move_80 ?_
              refine lv_if_le (tgt := 87) hx hb dX3_move_81 (by decide) (fun c_81 => ?_) (fun c_81 => ?_)
              · have c_81 := (lg_cmp_le _ _).mp c_81
                refine lv_aload_n hx hb dX3_move_87 rfl (lv_at hl 1 rfl) ?_
                refine pw_get (ci := 3) (C := RX3) (T := TX3) (N := 8) hx hb hts inX3 hown hK hP m0 e0 rfl 5 (by decide) (hts _ mw_38) (fun _ h9 => h9) rfl dX3_move_88 ?_
                refine lv_istore (lv' := [(6, .int (nI nM)), (5, .ref (ad (8 + 4 * i))), (0, .ref (ad 0)), (1, .int n_), (2, .long g_), (4, .int d_)]) hx hb dX3_move_91 hl (by decide) rfl (fun ls hl => ?_)
                refine lv_aload_n hx hb dX3_move_93 rfl (lv_at hl 2 rfl) ?_
                refine pw_get (ci := 3) (C := RX3) (T := TX3) (N := 8) hx hb hts inX3 hown hK hP m0 e0 rfl 1 (by decide) (hts _ mw_34) (fun _ h9 => h9) rfl dX3_move_94 ?_
                refine lv_iload hx hb dX3_move_97 (lv_at hl 0 rfl) ?_
                refine pw_new (ci := 0) (C := RX0) (T := TX0) (N := 8) (fs := [.int 0, .long 0, .int 0, .null, .int 0, .int 0, .int 0, .int 0]) hx hb hts inX0 tyX0 tyX0_ok hown (hts _ mw_16) (hts _ mw_155) (hts _ mw_5) hK hP hD hS hA rfl (by decide) (Nat.le_of_ble_eq_true rfl) (Nat.le_of_ble_eq_true rfl) dX3_move_99 (fun q H hq hP hD hS => ?_)
                obtain ⟨f_5, ef_5⟩ : ∃ zz : Nat → va_E, zz = va_up f q (.inr (0, [.int 0, .long 0, .int 0, .null, .int 0, .int 0, .int 0, .int 0])) := ⟨_, rfl⟩
                have hP : va_P G vwCl (va_pl (L ++ [q]) f_5) H := by rw [ef_5]; exact hP
                have hD : va_D (pw_A L s.heap.size) (va_pl (L ++ [q]) f_5) := by rw [ef_5]; exact hD
                have mf_5_ad_0 : ad 0 ∈ (L ++ [q]) := List.mem_append_left _ m0
                have hf_5_ad_0 := (show f_5 (ad 0) = f (ad 0) by rw [ef_5]; exact va_up_ne _ _ (fun h => hq (h ▸ m0))).trans e0
                have mf_5_ad_2 : ad 2 ∈ (L ++ [q]) := List.mem_append_left _ m2
                have hf_5_ad_2 := (show f_5 (ad 2) = f (ad 2) by rw [ef_5]; exact va_up_ne _ _ (fun h => hq (h ▸ m2))).trans e2
                have mf_5_q : q ∈ (L ++ [q]) := List.mem_append_right _ (List.mem_singleton.mpr rfl)
                have hf_5_q : f_5 q = .inr (0, [.int 0, .long 0, .int 0, .null, .int 0, .int 0, .int 0, .int 0]) := by rw [ef_5]; exact va_up_self _ _ _
                refine lv_dup hx hb dX3_move_102 rfl ?_
                refine lv_iload_n hx hb dX3_move_103 rfl (lv_at hl 3 rfl) ?_
                refine lv_lload_n hx hb dX3_move_104 rfl (lv_at hl 4 rfl) ?_
                refine lv_iload hx hb dX3_move_105 (lv_at hl 5 rfl) ?_
                refine lv_aload_n hx hb dX3_move_107 rfl (lv_at hl 2 rfl) ?_
                refine pw_get (ci := 3) (C := RX3) (T := TX3) (N := 8) hx hb hts inX3 hown hK hP mf_5_ad_0 hf_5_ad_0 rfl 6 (by decide) (hts _ mw_39) (fun _ h9 => h9) rfl dX3_move_108 ?_
                refine pc_callI (As := [.int n_, .long g_, .int d_, .int t]) (rest := [.ref q, .int (nI nM), .ref (ad 2)]) ⟨hx, hb, hml, hown, hts⟩ (k_M_init l G cs (L ++ [q]) f_5 _ q n_ g_ d_ t mf_5_q hf_5_q) (cwI 4 hts (wg_I mw_158) rfl rfl rfl (hts _ mw_5) (hts _ mw_156) (hts _ mw_157) rfl (by decide +kernel) ⟨Nat.le_of_ble_eq_true rfl, Nat.le_of_ble_eq_true rfl⟩) hK hP hD hS hA px_T (fun _ _ _ => trivial) rfl hl.1 rfl (lv_room (Nat.le_of_ble_eq_true rfl)) dX3_move_111 ⟨Nat.le_of_ble_eq_true rfl, Nat.le_of_ble_eq_true rfl⟩ (fun L1 f1 H locs hr_6 hP hD hS => ?_)
                obtain ⟨q1, hn1, hsub, hkeep, hN⟩ := hr_6
                have hkeep : ∀ a, a ∈ (L ++ [q]) → a ≠ q → f1 a = f_5 a := hkeep
                have mmad_0 : ad 0 ∈ L1 := hsub _ mf_5_ad_0
                have eead_0 := (hkeep (ad 0) mf_5_ad_0 (fun z => hq (z ▸ m0))).trans hf_5_ad_0
                have mmad_2 : ad 2 ∈ L1 := hsub _ mf_5_ad_2
                have eead_2 := (hkeep (ad 2) mf_5_ad_2 (fun z => hq (z ▸ m2))).trans hf_5_ad_2
                refine pw_astqN (k := nM) (r := (RX0, TX0, 8)) hx hb hK hP hD hS mmad_2 5 0 eead_2 rfl hN.1.1 hN.2.1 rfl (by omega) (by decide) dX3_move_114 (fun H locs hP hD hS => ?_)
                obtain ⟨fA, efA⟩ : ∃ zz : Nat → va_E, zz = va_up f1 (ad 2) (.inl (cs 5, 12, .inr (.inr (.inr (.inr (va_up (ps_g ad 32 2 nM) nM (some q))))))) := ⟨_, rfl⟩
                have hP : va_P G vwCl (va_pl L1 fA) H := by rw [efA]; exact hP
                have hD : va_D (pw_A L s.heap.size) (va_pl L1 fA) := by rw [efA]; exact hD
                have e00 := (show fA (ad 0) = f1 (ad 0) by rw [efA]; exact va_up_ne _ _ (h0.ne (pu_lo (by decide)) (pu_lo (by decide)) (by decide))).trans eead_0
                refine lv_aload_n hx hb dX3_move_115 rfl (lv_at hl 2 rfl) ?_
                refine lv_dup hx hb dX3_move_116 rfl ?_
                refine pw_get (ci := 3) (C := RX3) (T := TX3) (N := 8) hx hb hts inX3 hown hK hP mmad_0 e00 rfl 5 (by decide) (hts _ mw_38) (fun _ h9 => h9) rfl dX3_move_117 ?_
                refine lv_iconst (v := 1) hx hb dX3_move_120 (by decide) ?_
                refine lv_iadd hx hb dX3_move_121 ?_
                have eix122 : nI nM + 1 = nI (nM + 1) := nI_1 nM
                rw [eix122]
                refine pw_put (ty := .int) (ci := 3) (v := .int (nI (nM + 1))) (C := RX3) (T := TX3) (N := 8) hx hb hts inX3 tyX3 tyX3_ok nmX3 hown hK hP hD hS mmad_0 e00 rfl 5 (by decide) (hts _ mw_38) (fun _ h9 => h9) rfl (by decide +kernel) rfl rfl (Nat.le_of_ble_eq_true rfl) dX3_move_122 (fun H locs hP hD hS => ?_)
                obtain ⟨f_7, ef_7⟩ : ∃ zz : Nat → va_E, zz = va_up fA (ad 0) (.inr (3, [.ref (ad 1), .ref (ad 2), .ref (ad 3), .ref (ad 4), .int (nI nN), .int (nI (nM + 1)), .int t, .int lm])) := ⟨_, rfl⟩
                have hP : va_P G vwCl (va_pl L1 f_7) H := by rw [ef_7]; exact hP
                have hD : va_D (pw_A L s.heap.size) (va_pl L1 f_7) := by rw [ef_7]; exact hD
                have hf_7_ad_0 : f_7 (ad 0) = .inr (3, [.ref (ad 1), .ref (ad 2), .ref (ad 3), .ref (ad 4), .int (nI nN), .int (nI (nM + 1)), .int t, .int lm]) := by rw [ef_7]; exact va_up_self _ _ _
                refine lv_iload hx hb dX3_move_125 (lv_at hl 0 rfl) ?_
                have a0 : ∀ x, x ∉ L → x ≠ ad 0 ∧ x ≠ ad 2 := fun x hx0 => ⟨fun z => hx0 (z ▸ m0), fun z => hx0 (z ▸ m2)⟩
                have hq1 : q1 ∉ L := fun z => hn1 (List.mem_append_left _ z)
                have kp : ∀ x, x ≠ ad 0 → x ≠ ad 2 → f_7 x = f1 x := fun x z0 z1 => by rw [ef_7, va_up_ne _ _ z0, efA, va_up_ne _ _ z1]
                have hsubL : ∀ a ∈ L, a ∈ L1 := fun a ha => hsub a (List.mem_append_left _ ha)
                have hNz : MV cs L1 f_7 q q1 n_ g_ d_ (fun _ => 0) 0 0 t 0 := by
                  obtain ⟨w1, w2, w3⟩ := hN
                  exact ⟨w1, (kp _ (a0 _ hq).1 (a0 _ hq).2).trans w2, (kp _ (a0 _ hq1).1 (a0 _ hq1).2).trans w3⟩
                obtain ⟨ad', had, hps⟩ := h0.moreM (m' := (n_, g_, d_, fun _ => 0, 0, 0, t, 0)) (by omega) hsubL ⟨hq, hq1, fun z => hn1 (z ▸ List.mem_append_right _ (List.mem_singleton.mpr rfl))⟩ (Nat.zero_le 6) hNz
                  (fun r hr h1 h2 => by
                    rw [kp _ (h0.ne hr (pu_lo (by decide)) (by omega)) (h0.ne hr (pu_lo (by decide)) (by omega)), hkeep _ (List.mem_append_left _ (h0.mem hr)) (fun z => hq (z ▸ h0.mem hr)), ef_5]
                    exact va_up_ne _ _ (fun z => hq (z ▸ h0.mem hr)))
                  (by rw [ef_7]; exact va_up_self _ _ _)
                  (by rw [ef_7, va_up_ne _ _ (h0.ne (pu_lo (by decide)) (pu_lo (by decide)) (by decide)), efA]; exact va_up_self _ _ _)
                have hsp : sC_move (t, lm, nN, nM, ns, ms, rt) n_ g_ d_ = (nI nM, (t, lm, nN, nM + 1, ns, va_up ms nM (n_, g_, d_, fun _ => 0, 0, 0, t, 0), rt)) := by simp [sC_move, hxi, d_18, c_24, c_36, c_47, c_62, c_81]
                exact pc_reti hx hb hr hlocks hP hD hS dX3_move_127 ⟨ad', pg, had, by rw [hsp], by rw [hsp]; exact hps⟩
              · have c_81 : ¬ g_ ≤ (((ns i).1) - (sC_gim ms n_ nM)) := fun h => c_81 ((lg_cmp_le _ _).mpr h)
                refine lv_bipush (v := (-3)) hx hb dX3_move_84 (by decide) ?_
                refine W.widen (k := 2) (n := 14) (Nat.zero_le _) (Nat.zero_le _) ?_
                have hsp : sC_move (t, lm, nN, nM, ns, ms, rt) n_ g_ d_ = ((-3), (t, lm, nN, nM, ns, ms, rt)) := by simp [sC_move, hxi, d_18, c_24, c_36, c_47, c_62, c_81]
                exact pc_reti hx hb hr hlocks hP hD hS dX3_move_86 ⟨ad, pg, rfl, by rw [hsp], by rw [hsp]; exact h0⟩
            · refine lv_bipush (v := (-2)) hx hb dX3_move_65 (by decide) ?_
              refine W.widen (k := 2) (n := 14) (Nat.zero_le _) (Nat.zero_le _) ?_
              have hsp : sC_move (t, lm, nN, nM, ns, ms, rt) n_ g_ d_ = ((-2), (t, lm, nN, nM, ns, ms, rt)) := by simp [sC_move, hxi, d_18, c_24, c_36, c_47, c_62]
              exact pc_reti hx hb hr hlocks hP hD hS dX3_move_67 ⟨ad, pg, rfl, by rw [hsp], by rw [hsp]; exact h0⟩
          · refine lv_iconst (v := (-1)) hx hb dX3_move_50 (by decide) ?_
            refine W.widen (k := 2) (n := 14) (Nat.zero_le _) (Nat.zero_le _) ?_
            have hsp : sC_move (t, lm, nN, nM, ns, ms, rt) n_ g_ d_ = ((-1), (t, lm, nN, nM, ns, ms, rt)) := by simp [sC_move, hxi, d_18, c_24, c_36, c_47]
            exact pc_reti hx hb hr hlocks hP hD hS dX3_move_51 ⟨ad, pg, rfl, by rw [hsp], by rw [hsp]; exact h0⟩
      · have c_24 : ¬ 1 ≤ g_ := fun h => c_24 ((lg_cmp_ge _ _).mpr h)
        refine lv_iconst (v := (-1)) hx hb dX3_move_27 (by decide) ?_
        refine W.widen (k := 2) (n := 14) (Nat.zero_le _) (Nat.zero_le _) ?_
        have hsp : sC_move (t, lm, nN, nM, ns, ms, rt) n_ g_ d_ = ((-1), (t, lm, nN, nM, ns, ms, rt)) := by simp [sC_move, hxi, d_18, c_24]
        exact pc_reti hx hb hr hlocks hP hD hS dX3_move_28 ⟨ad, pg, rfl, by rw [hsp], by rw [hsp]; exact h0⟩
end
section
/-! The class: its constructor. Laid by wip/gen/inits.py. -/
theorem pc_callIN {p : Program} {l : Launch} {e : Env} {R : Room} {s : State} {m : MethodId} {args : Array Value} {below : List Frame} {meth : Method} {c : Code} {H : Heap} {locs : List Loc} {cells slots : Nat} {Q : State → Prop} {cc : ByteArray} {pc : Nat} {ls : Array Slot} {rest st0 : List Value} {D : va_G} {cl : List vw_C} {A : Nat → Prop} {tys : List (ClassId × FieldType)} {H0 : Heap} {L : List Nat} {f : Nat → va_E} {X : State → Prop} {y : MethodName} {bytes : ByteArray} {maxL nL mc ms n index : Nat} {ws : List Cond} {rm : Room} {Ts : List Cond} {own host : String} {b : Nat} {As : List Value} {post : pw_M → Prop} (S : CallFix p m c cc nL s args Ts own) (hM : Met l y ws rm (pc_P (.ref b :: As) D cl tys L f H.size X) (va_Qv post (pc_B D cl L H.size) (pw_A L H.size)) mc ms (pw_A L H.size)) (cw : va_CN R s args own index y host bytes maxL none ws rm mc ms n ∧ y.name = "<init>" ∧ (Cond.instanceMethod y).before args s = true) (hK : va_K D cl tys s) (hP : va_P D cl (va_pl L f) H) (hD : va_D A (va_pl L f)) (hS : va_S A H0 H locs) (hA : ∀ q, H0.size ≤ q → A q) (hX : px_b X) (hXc : ∀ U : State, U.heap = H → s.WarmedH U.vm → X U)
    (hn : As.length = n) (hsize : ls.size = nL) (hst : st0 = As.reverse ++ .ref b :: rest) (hW : 2 * (F0 m pc ls st0).monitorRoom + (rest.map fun v => v.category).sum ≤ 8) (hdg : decode cc pc = .ok (.invokespecial index, 3)) (hf : cells + mc ≤ R.cells ∧ slots + ms ≤ R.slots)
    (kk : ∀ (L1 : List Nat) (f1 : Nat → va_E) (H1 : Heap) (locs1 : List Loc), post (L1, f1) → va_P D cl (va_pl L1 f1) H1 → va_D A (va_pl L1 f1) → va_S A H0 H1 locs1 → W p l e R s m args below meth c H1 locs1 (cells + mc) (slots + ms) Q (F0 m (pc + 3) ls rest)) : W p l e R s m args below meth c H locs cells slots Q (F0 m pc ls st0) := by
  have hF := pw_free hD hS hA
  refine va_callv (va_runIN S hM cw (pc_preS hK hP hD hX hXc) rfl hn hsize hst hW hdg hf) hS (fun q _ h => hF q h) hF (fun u t H1 locs1 ht hvm hp hB hz hk hS1 => ?_)
  obtain ⟨L1, f1⟩ := u
  exact kk L1 f1 H1 locs1 hp (by rw [← ht]; exact hB.1) (hB.2.weaken (fun k q _ h => hF q.1 h)) hS1
def CX (U : State) : Prop := va_AO "PaperStates$Notice" U ∧ va_AO "PaperStates$Move" U ∧ va_Nw (.methodLinkNest "PaperStates" 27 yX2_init "PaperStates") U
theorem CX.px : px_b CX := fun a U g mk h => ⟨va_AO.moved (u := U) (U := U.calling g mk a) (Vm.Alike.refl U.vm) h.1, va_AO.moved (u := U) (U := U.calling g mk a) (Vm.Alike.refl U.vm) h.2.1, va_Nw.same rfl rfl h.2.2⟩
theorem ps_g0 (ad : Nat → Nat) (b w : Nat) : ps_g ad b w 0 = fun _ => none := by
  funext k
  unfold ps_g
  exact if_neg (Nat.not_lt_zero _)

set_option maxHeartbeats 4000000 in
set_option maxRecDepth 100000 in
theorem k_C_init (l : Launch) (G : va_G) (cs : Nat → ClassId) (L : List Nat) (f : Nat → va_E) (sz : Nat) (q : Nat) (ns : Nat → NS) (ms : Nat → MS) (hq0 : q ∈ L) (he0 : f q = .inr (3, [.null, .null, .null, .null, .int 0, .int 0, .int 0, .int 0])) : Met l yX3_init (Cond.code yX3_init cX3_init 1 none :: wg) ({ frames := 2, cells := 5, slots := 268, locals := 32 }) (pc_P [.ref q] G vwCl (tyl cs) L f sz CX) (va_Qv (fun u => ∃ ad : Nat → Nat, ad 0 = q ∧ PS cs u.1 u.2 ad 0 365 0 0 ns ms (fun _ => 0) (0, fun _ => 0)) (pc_B G vwCl L sz) (pw_A L sz)) 5 268 (pw_A L sz) := by
  refine Met.ofW (cc := cX3_init) (maxL := 1) (ret := none) (by decide) rfl ?_
  intro p e s m args below meth c s₁ B hml hv
  obtain ⟨rfl, hsz, hP, hK, hD0, hX⟩ := hv
  have hx := B.exec
  have hb := B.bytes
  have hr := B.returns
  have hts0 := atoms_spec (ws := (Cond.code yX3_init cX3_init 1 none :: wg)) B.pre
  have hts := fun (w : Cond) (h : w ∈ wg) => hts0 w (List.mem_cons_of_mem _ h)
  have hown : s.vm.findClass RX3 = some m.cls := findClass_of_methodNamed B.named
  have hlocks := B.notSynchronized
  have hin : meth.name = "<init>" := (name_of_methodNamed B.named B.method).1
  subst hsz
  have hD := pw_selfD (sz := s.heap.size) hD0
  have hA : ∀ q : Nat, s.heap.size ≤ q → pw_A L s.heap.size q := fun q h => Or.inr h
  have hS : va_S (pw_A L s.heap.size) s.heap s.heap [] := va_S.rf
  have hl := lv_entry ([.ref q]) (n := 1) (Nat.le_of_ble_eq_true rfl)
  rw [lg_entry_eq]
  generalize (lg_sl ([.ref q]) ++ List.replicate (1 - (lg_sl ([.ref q])).length) Slot.unset).toArray = ls at hl ⊢
  have hl : lv_has ls 1 [(0, .ref q)] := hl
  refine lv_aload_n hx hb dX3_init_0 rfl (lv_at hl 0 rfl) ?_
  refine W.objInit hx hb hown (hts _ mw_11) (hts _ mw_12) (hts _ mw_obj) rfl (by rw [hml]; exact hl.1) rfl dX3_init_1 (Nat.le_of_ble_eq_true rfl) (Nat.le_of_ble_eq_true rfl) ?_
  refine W.eq (g2 := F0 m 4 ls []) rfl ?_
  refine lv_aload_n hx hb dX3_init_4 rfl (lv_at hl 0 rfl) ?_
  refine lv_bipush (v := 6) hx hb dX3_init_5 (by decide) ?_
  refine pw_newq (n := 6) (N' := 6) hx hb hown (hts _ mw_14) hX.1 hK hP hD hS hA 4 rfl (by decide) (by decide) (by decide) (Nat.le_of_ble_eq_true rfl) (Nat.le_of_ble_eq_true rfl) dX3_init_7 (fun qn H hqn hP hD hS => ?_)
  refine W.widen (k := 1) (n := 6) (Nat.le_refl _) (Nat.le_of_ble_eq_true rfl) ?_
  obtain ⟨f_1, ef_1⟩ : ∃ zz : Nat → va_E, zz = va_up f qn (.inl (cs 4, 6, .inr (.inr (.inr (.inr (fun _ => none)))))) := ⟨_, rfl⟩
  have hP : va_P G vwCl (va_pl (L ++ [qn]) f_1) H := by rw [ef_1]; exact hP
  have hD : va_D (pw_A L s.heap.size) (va_pl (L ++ [qn]) f_1) := by rw [ef_1]; exact hD
  have mf_1_q : q ∈ (L ++ [qn]) := List.mem_append_left _ hq0
  have hf_1_q := (show f_1 q = f q by rw [ef_1]; exact va_up_ne _ _ (fun h => hqn (h ▸ hq0))).trans he0
  have mf_1_qn : qn ∈ (L ++ [qn]) := List.mem_append_right _ (List.mem_singleton.mpr rfl)
  have hf_1_qn : f_1 qn = .inl (cs 4, 6, .inr (.inr (.inr (.inr (fun _ => none))))) := by rw [ef_1]; exact va_up_self _ _ _
  have n_qn : qn ∉ L := fun z => hqn (z)
  refine pw_putF (ty := .array (.object "PaperStates$Notice")) (ci := 3) (v := .ref qn) (C := RX3) (T := TX3) (N := 8) hx hb hts inX3 tyX3 tyX3_ok nmX3 hown hK hP hD hS mf_1_q hf_1_q rfl 0 (by decide) (hts _ mw_33) (fun _ h9 => h9) rfl hin rfl (by decide +kernel) rfl rfl (Nat.le_of_ble_eq_true rfl) dX3_init_10 (fun H locs hP hD hS => ?_)
  obtain ⟨f_2, ef_2⟩ : ∃ zz : Nat → va_E, zz = va_up f_1 q (.inr (3, [.ref qn, .null, .null, .null, .int 0, .int 0, .int 0, .int 0])) := ⟨_, rfl⟩
  have hP : va_P G vwCl (va_pl (L ++ [qn]) f_2) H := by rw [ef_2]; exact hP
  have hD : va_D (pw_A L s.heap.size) (va_pl (L ++ [qn]) f_2) := by rw [ef_2]; exact hD
  have hf_2_q : f_2 q = .inr (3, [.ref qn, .null, .null, .null, .int 0, .int 0, .int 0, .int 0]) := by rw [ef_2]; exact va_up_self _ _ _
  have hf_2_qn := (show f_2 qn = f_1 qn by rw [ef_2]; exact va_up_ne _ _ (fun z => n_qn (z ▸ hq0))).trans hf_1_qn
  refine lv_aload_n hx hb dX3_init_13 rfl (lv_at hl 0 rfl) ?_
  refine lv_bipush (v := 12) hx hb dX3_init_14 (by decide) ?_
  refine pw_newq (n := 12) (N' := 12) hx hb hown (hts _ mw_16) hX.2.1 hK hP hD hS hA 5 rfl (by decide) (by decide) (by decide) (Nat.le_of_ble_eq_true rfl) (Nat.le_of_ble_eq_true rfl) dX3_init_16 (fun qm H hqm hP hD hS => ?_)
  refine W.widen (k := 2) (n := 18) (Nat.le_refl _) (Nat.le_of_ble_eq_true rfl) ?_
  obtain ⟨f_3, ef_3⟩ : ∃ zz : Nat → va_E, zz = va_up f_2 qm (.inl (cs 5, 12, .inr (.inr (.inr (.inr (fun _ => none)))))) := ⟨_, rfl⟩
  have hP : va_P G vwCl (va_pl ((L ++ [qn]) ++ [qm]) f_3) H := by rw [ef_3]; exact hP
  have hD : va_D (pw_A L s.heap.size) (va_pl ((L ++ [qn]) ++ [qm]) f_3) := by rw [ef_3]; exact hD
  have mf_3_q : q ∈ ((L ++ [qn]) ++ [qm]) := List.mem_append_left _ mf_1_q
  have hf_3_q := (show f_3 q = f_2 q by rw [ef_3]; exact va_up_ne _ _ (fun h => hqm (h ▸ mf_1_q))).trans hf_2_q
  have mf_3_qn : qn ∈ ((L ++ [qn]) ++ [qm]) := List.mem_append_left _ mf_1_qn
  have hf_3_qn := (show f_3 qn = f_2 qn by rw [ef_3]; exact va_up_ne _ _ (fun h => hqm (h ▸ mf_1_qn))).trans hf_2_qn
  have mf_3_qm : qm ∈ ((L ++ [qn]) ++ [qm]) := List.mem_append_right _ (List.mem_singleton.mpr rfl)
  have hf_3_qm : f_3 qm = .inl (cs 5, 12, .inr (.inr (.inr (.inr (fun _ => none))))) := by rw [ef_3]; exact va_up_self _ _ _
  have n_qm : qm ∉ L := fun z => hqm (List.mem_append_left _ (z))
  refine pw_putF (ty := .array (.object "PaperStates$Move")) (ci := 3) (v := .ref qm) (C := RX3) (T := TX3) (N := 8) hx hb hts inX3 tyX3 tyX3_ok nmX3 hown hK hP hD hS mf_3_q hf_3_q rfl 1 (by decide) (hts _ mw_34) (fun _ h9 => h9) rfl hin rfl (by decide +kernel) rfl rfl (Nat.le_of_ble_eq_true rfl) dX3_init_19 (fun H locs hP hD hS => ?_)
  obtain ⟨f_4, ef_4⟩ : ∃ zz : Nat → va_E, zz = va_up f_3 q (.inr (3, [.ref qn, .ref qm, .null, .null, .int 0, .int 0, .int 0, .int 0])) := ⟨_, rfl⟩
  have hP : va_P G vwCl (va_pl ((L ++ [qn]) ++ [qm]) f_4) H := by rw [ef_4]; exact hP
  have hD : va_D (pw_A L s.heap.size) (va_pl ((L ++ [qn]) ++ [qm]) f_4) := by rw [ef_4]; exact hD
  have hf_4_q : f_4 q = .inr (3, [.ref qn, .ref qm, .null, .null, .int 0, .int 0, .int 0, .int 0]) := by rw [ef_4]; exact va_up_self _ _ _
  have hf_4_qn := (show f_4 qn = f_3 qn by rw [ef_4]; exact va_up_ne _ _ (fun z => n_qn (z ▸ hq0))).trans hf_3_qn
  have hf_4_qm := (show f_4 qm = f_3 qm by rw [ef_4]; exact va_up_ne _ _ (fun z => n_qm (z ▸ hq0))).trans hf_3_qm
  refine lv_aload_n hx hb dX3_init_22 rfl (lv_at hl 0 rfl) ?_
  refine lv_bipush (v := 40) hx hb dX3_init_23 (by decide) ?_
  refine pw_newa (atype := .boolean) (ty := .boolean) (a0 := (40, .inl (fun _ => 0))) hx hb (hts _ mw_31) rfl hK hP hD hS hA 2 rfl (fun _ h => h) (fun _ => rfl) (by decide) (by decide) (by decide) (Nat.le_of_ble_eq_true rfl) (Nat.le_of_ble_eq_true rfl) dX3_init_25 (fun q_6 H hq_6 hP hD hS => ?_)
  refine W.widen (k := 3) (n := 58) (Nat.le_refl _) (Nat.le_of_ble_eq_true rfl) ?_
  obtain ⟨f_5, ef_5⟩ : ∃ zz : Nat → va_E, zz = va_up f_4 q_6 (.inl (cs 2, 40, .inl (fun _ => 0))) := ⟨_, rfl⟩
  have hP : va_P G vwCl (va_pl (((L ++ [qn]) ++ [qm]) ++ [q_6]) f_5) H := by rw [ef_5]; exact hP
  have hD : va_D (pw_A L s.heap.size) (va_pl (((L ++ [qn]) ++ [qm]) ++ [q_6]) f_5) := by rw [ef_5]; exact hD
  have mf_5_q : q ∈ (((L ++ [qn]) ++ [qm]) ++ [q_6]) := List.mem_append_left _ mf_3_q
  have hf_5_q := (show f_5 q = f_4 q by rw [ef_5]; exact va_up_ne _ _ (fun h => hq_6 (h ▸ mf_3_q))).trans hf_4_q
  have mf_5_qn : qn ∈ (((L ++ [qn]) ++ [qm]) ++ [q_6]) := List.mem_append_left _ mf_3_qn
  have hf_5_qn := (show f_5 qn = f_4 qn by rw [ef_5]; exact va_up_ne _ _ (fun h => hq_6 (h ▸ mf_3_qn))).trans hf_4_qn
  have mf_5_qm : qm ∈ (((L ++ [qn]) ++ [qm]) ++ [q_6]) := List.mem_append_left _ mf_3_qm
  have hf_5_qm := (show f_5 qm = f_4 qm by rw [ef_5]; exact va_up_ne _ _ (fun h => hq_6 (h ▸ mf_3_qm))).trans hf_4_qm
  have mf_5_q_6 : q_6 ∈ (((L ++ [qn]) ++ [qm]) ++ [q_6]) := List.mem_append_right _ (List.mem_singleton.mpr rfl)
  have hf_5_q_6 : f_5 q_6 = .inl (cs 2, 40, .inl (fun _ => 0)) := by rw [ef_5]; exact va_up_self _ _ _
  have n_q_6 : q_6 ∉ L := fun z => hq_6 (List.mem_append_left _ (List.mem_append_left _ (z)))
  refine pw_putF (ty := .array .boolean) (ci := 3) (v := .ref q_6) (C := RX3) (T := TX3) (N := 8) hx hb hts inX3 tyX3 tyX3_ok nmX3 hown hK hP hD hS mf_5_q hf_5_q rfl 2 (by decide) (hts _ mw_35) (fun _ h9 => h9) rfl hin rfl (by decide +kernel) rfl rfl (Nat.le_of_ble_eq_true rfl) dX3_init_27 (fun H locs hP hD hS => ?_)
  obtain ⟨f_7, ef_7⟩ : ∃ zz : Nat → va_E, zz = va_up f_5 q (.inr (3, [.ref qn, .ref qm, .ref q_6, .null, .int 0, .int 0, .int 0, .int 0])) := ⟨_, rfl⟩
  have hP : va_P G vwCl (va_pl (((L ++ [qn]) ++ [qm]) ++ [q_6]) f_7) H := by rw [ef_7]; exact hP
  have hD : va_D (pw_A L s.heap.size) (va_pl (((L ++ [qn]) ++ [qm]) ++ [q_6]) f_7) := by rw [ef_7]; exact hD
  have hf_7_q : f_7 q = .inr (3, [.ref qn, .ref qm, .ref q_6, .null, .int 0, .int 0, .int 0, .int 0]) := by rw [ef_7]; exact va_up_self _ _ _
  have hf_7_qn := (show f_7 qn = f_5 qn by rw [ef_7]; exact va_up_ne _ _ (fun z => n_qn (z ▸ hq0))).trans hf_5_qn
  have hf_7_qm := (show f_7 qm = f_5 qm by rw [ef_7]; exact va_up_ne _ _ (fun z => n_qm (z ▸ hq0))).trans hf_5_qm
  have hf_7_q_6 := (show f_7 q_6 = f_5 q_6 by rw [ef_7]; exact va_up_ne _ _ (fun z => n_q_6 (z ▸ hq0))).trans hf_5_q_6
  refine lv_aload_n hx hb dX3_init_30 rfl (lv_at hl 0 rfl) ?_
  refine pw_new (ci := 2) (C := RX2) (T := TX2) (N := 2) (fs := [.null, .int 0]) hx hb hts inX2 tyX2 tyX2_ok hown (hts _ mw_18) (hts _ mw_19) (hts _ mw_2) hK hP hD hS hA rfl (by decide) (Nat.le_of_ble_eq_true rfl) (Nat.le_of_ble_eq_true rfl) dX3_init_31 (fun qp H hqp hP hD hS => ?_)
  refine W.widen (k := 4) (n := 60) (Nat.le_refl _) (Nat.le_of_ble_eq_true rfl) ?_
  obtain ⟨f_8, ef_8⟩ : ∃ zz : Nat → va_E, zz = va_up f_7 qp (.inr (2, [.null, .int 0])) := ⟨_, rfl⟩
  have hP : va_P G vwCl (va_pl ((((L ++ [qn]) ++ [qm]) ++ [q_6]) ++ [qp]) f_8) H := by rw [ef_8]; exact hP
  have hD : va_D (pw_A L s.heap.size) (va_pl ((((L ++ [qn]) ++ [qm]) ++ [q_6]) ++ [qp]) f_8) := by rw [ef_8]; exact hD
  have mf_8_q : q ∈ ((((L ++ [qn]) ++ [qm]) ++ [q_6]) ++ [qp]) := List.mem_append_left _ mf_5_q
  have hf_8_q := (show f_8 q = f_7 q by rw [ef_8]; exact va_up_ne _ _ (fun h => hqp (h ▸ mf_5_q))).trans hf_7_q
  have mf_8_qn : qn ∈ ((((L ++ [qn]) ++ [qm]) ++ [q_6]) ++ [qp]) := List.mem_append_left _ mf_5_qn
  have hf_8_qn := (show f_8 qn = f_7 qn by rw [ef_8]; exact va_up_ne _ _ (fun h => hqp (h ▸ mf_5_qn))).trans hf_7_qn
  have mf_8_qm : qm ∈ ((((L ++ [qn]) ++ [qm]) ++ [q_6]) ++ [qp]) := List.mem_append_left _ mf_5_qm
  have hf_8_qm := (show f_8 qm = f_7 qm by rw [ef_8]; exact va_up_ne _ _ (fun h => hqp (h ▸ mf_5_qm))).trans hf_7_qm
  have mf_8_q_6 : q_6 ∈ ((((L ++ [qn]) ++ [qm]) ++ [q_6]) ++ [qp]) := List.mem_append_left _ mf_5_q_6
  have hf_8_q_6 := (show f_8 q_6 = f_7 q_6 by rw [ef_8]; exact va_up_ne _ _ (fun h => hqp (h ▸ mf_5_q_6))).trans hf_7_q_6
  have mf_8_qp : qp ∈ ((((L ++ [qn]) ++ [qm]) ++ [q_6]) ++ [qp]) := List.mem_append_right _ (List.mem_singleton.mpr rfl)
  have hf_8_qp : f_8 qp = .inr (2, [.null, .int 0]) := by rw [ef_8]; exact va_up_self _ _ _
  have n_qp : qp ∉ L := fun z => hqp (List.mem_append_left _ (List.mem_append_left _ (List.mem_append_left _ (z))))
  refine lv_dup hx hb dX3_init_34 rfl ?_
  refine pc_callIN (As := []) (rest := [.ref qp, .ref q]) ⟨hx, hb, hml, hown, hts⟩ (k_P_init l G cs ((((L ++ [qn]) ++ [qm]) ++ [q_6]) ++ [qp]) f_8 _ qp mf_8_qp hf_8_qp) ⟨va_cnB 0 hts (wg_I mw_22) rfl rfl rfl hX.2.2 (hts _ mw_2) (by decide +kernel) ⟨Nat.le_of_ble_eq_true rfl, Nat.le_of_ble_eq_true rfl⟩, rfl, hts _ mw_21⟩ hK hP hD hS hA px_T (fun _ _ _ => trivial) rfl hl.1 rfl (lv_room (Nat.le_of_ble_eq_true rfl)) dX3_init_35 ⟨Nat.le_of_ble_eq_true rfl, Nat.le_of_ble_eq_true rfl⟩ (fun L1 f1 H locs hpp hP hD hS => ?_)
  obtain ⟨qw, hnw, hsub, hkeep, hPP⟩ := hpp
  have hkeep : ∀ a, a ∈ ((((L ++ [qn]) ++ [qm]) ++ [q_6]) ++ [qp]) → a ≠ qp → f1 a = f_8 a := hkeep
  have mm_q : q ∈ L1 := hsub _ mf_8_q
  have ee_q := (hkeep q mf_8_q (fun z => hqp (z ▸ mf_5_q))).trans hf_8_q
  have mm_qn : qn ∈ L1 := hsub _ mf_8_qn
  have ee_qn := (hkeep qn mf_8_qn (fun z => hqp (z ▸ mf_5_qn))).trans hf_8_qn
  have mm_qm : qm ∈ L1 := hsub _ mf_8_qm
  have ee_qm := (hkeep qm mf_8_qm (fun z => hqp (z ▸ mf_5_qm))).trans hf_8_qm
  have mm_q_6 : q_6 ∈ L1 := hsub _ mf_8_q_6
  have ee_q_6 := (hkeep q_6 mf_8_q_6 (fun z => hqp (z ▸ mf_5_q_6))).trans hf_8_q_6
  refine pw_putF (ty := .object "PaperStates$Paper") (ci := 3) (v := .ref qp) (C := RX3) (T := TX3) (N := 8) hx hb hts inX3 tyX3 tyX3_ok nmX3 hown hK hP hD hS mm_q ee_q rfl 3 (by decide) (hts _ mw_36) (fun _ h9 => h9) rfl hin rfl (by decide +kernel) rfl rfl (Nat.le_of_ble_eq_true rfl) dX3_init_38 (fun H locs hP hD hS => ?_)
  obtain ⟨f_9, ef_9⟩ : ∃ zz : Nat → va_E, zz = va_up f1 q (.inr (3, [.ref qn, .ref qm, .ref q_6, .ref qp, .int 0, .int 0, .int 0, .int 0])) := ⟨_, rfl⟩
  have hP : va_P G vwCl (va_pl L1 f_9) H := by rw [ef_9]; exact hP
  have hD : va_D (pw_A L s.heap.size) (va_pl L1 f_9) := by rw [ef_9]; exact hD
  have hf_9_q : f_9 q = .inr (3, [.ref qn, .ref qm, .ref q_6, .ref qp, .int 0, .int 0, .int 0, .int 0]) := by rw [ef_9]; exact va_up_self _ _ _
  have hf_9_qn := (show f_9 qn = f1 qn by rw [ef_9]; exact va_up_ne _ _ (fun z => n_qn (z ▸ hq0))).trans ee_qn
  have hf_9_qm := (show f_9 qm = f1 qm by rw [ef_9]; exact va_up_ne _ _ (fun z => n_qm (z ▸ hq0))).trans ee_qm
  have hf_9_q_6 := (show f_9 q_6 = f1 q_6 by rw [ef_9]; exact va_up_ne _ _ (fun z => n_q_6 (z ▸ hq0))).trans ee_q_6
  refine lv_aload_n hx hb dX3_init_41 rfl (lv_at hl 0 rfl) ?_
  refine lv_sipush (v := 365) hx hb dX3_init_42 (by decide) ?_
  refine pw_put (ty := .int) (ci := 3) (v := .int 365) (C := RX3) (T := TX3) (N := 8) hx hb hts inX3 tyX3 tyX3_ok nmX3 hown hK hP hD hS mm_q hf_9_q rfl 7 (by decide) (hts _ mw_40) (fun _ h9 => h9) rfl (by decide +kernel) rfl rfl (Nat.le_of_ble_eq_true rfl) dX3_init_45 (fun H locs hP hD hS => ?_)
  obtain ⟨f_10, ef_10⟩ : ∃ zz : Nat → va_E, zz = va_up f_9 q (.inr (3, [.ref qn, .ref qm, .ref q_6, .ref qp, .int 0, .int 0, .int 0, .int 365])) := ⟨_, rfl⟩
  have hP : va_P G vwCl (va_pl L1 f_10) H := by rw [ef_10]; exact hP
  have hD : va_D (pw_A L s.heap.size) (va_pl L1 f_10) := by rw [ef_10]; exact hD
  have hf_10_q : f_10 q = .inr (3, [.ref qn, .ref qm, .ref q_6, .ref qp, .int 0, .int 0, .int 0, .int 365]) := by rw [ef_10]; exact va_up_self _ _ _
  have hf_10_qn := (show f_10 qn = f_9 qn by rw [ef_10]; exact va_up_ne _ _ (fun z => n_qn (z ▸ hq0))).trans hf_9_qn
  have hf_10_qm := (show f_10 qm = f_9 qm by rw [ef_10]; exact va_up_ne _ _ (fun z => n_qm (z ▸ hq0))).trans hf_9_qm
  have hf_10_q_6 := (show f_10 q_6 = f_9 q_6 by rw [ef_10]; exact va_up_ne _ _ (fun z => n_q_6 (z ▸ hq0))).trans hf_9_q_6
  have hqw : qw ∉ L := fun z => hnw (List.mem_append_left _ (List.mem_append_left _ (List.mem_append_left _ (List.mem_append_left _ (z)))))
  have kq : ∀ x, x ≠ q → f_10 x = f1 x := fun x z => by rw [ef_10, va_up_ne _ _ z, ef_9, va_up_ne _ _ z]
  have n01 : q ≠ qn := fun z => n_qn (z ▸ hq0)
  have n02 : q ≠ qm := fun z => n_qm (z ▸ hq0)
  have n03 : q ≠ q_6 := fun z => n_q_6 (z ▸ hq0)
  have n04 : q ≠ qp := fun z => n_qp (z ▸ hq0)
  have n05 : q ≠ qw := fun z => hqw (z ▸ hq0)
  have n12 : qn ≠ qm := fun z => hqm (by rw [← z]; simp)
  have n13 : qn ≠ q_6 := fun z => hq_6 (by rw [← z]; simp)
  have n14 : qn ≠ qp := fun z => hqp (by rw [← z]; simp)
  have n15 : qn ≠ qw := fun z => hnw (by rw [← z]; simp)
  have n23 : qm ≠ q_6 := fun z => hq_6 (by rw [← z]; simp)
  have n24 : qm ≠ qp := fun z => hqp (by rw [← z]; simp)
  have n25 : qm ≠ qw := fun z => hnw (by rw [← z]; simp)
  have n34 : q_6 ≠ qp := fun z => hqp (by rw [← z]; simp)
  have n35 : q_6 ≠ qw := fun z => hnw (by rw [← z]; simp)
  have n45 : qp ≠ qw := fun z => hnw (by rw [← z]; simp)
  obtain ⟨⟨pm1, pm2⟩, pe1, pe2⟩ := hPP
  have c6 : ∀ r, ps_use 0 0 r → r = 0 ∨ r = 1 ∨ r = 2 ∨ r = 3 ∨ r = 4 ∨ r = 5 := fun r hr => by unfold ps_use at hr; omega
  refine pc_retv hx hb hr hlocks hP hD hS dX3_init_48 ⟨fun r => if r = 0 then q else if r = 1 then qn else if r = 2 then qm else if r = 3 then q_6 else if r = 4 then qp else qw, rfl, ⟨⟨Nat.zero_le _, Nat.zero_le _⟩, fun r hr => ?_, fun r r' hr hr' e => ?_, ?_, ?_, ?_, ?_, ⟨⟨⟨pm1, pm2⟩, ?_, ?_⟩, Nat.zero_le _⟩, fun i hi => absurd hi (Nat.not_lt_zero _), fun j hj => absurd hj (Nat.not_lt_zero _)⟩⟩
  · rcases c6 r hr with rfl | rfl | rfl | rfl | rfl | rfl
    · exact mm_q
    · exact mm_qn
    · exact mm_qm
    · exact mm_q_6
    · exact pm1
    · exact pm2
  · rcases c6 r hr with rfl | rfl | rfl | rfl | rfl | rfl <;> rcases c6 r' hr' with rfl | rfl | rfl | rfl | rfl | rfl <;> first
      | rfl
      | exact absurd e n01
      | exact absurd e.symm n01
      | exact absurd e n02
      | exact absurd e.symm n02
      | exact absurd e n03
      | exact absurd e.symm n03
      | exact absurd e n04
      | exact absurd e.symm n04
      | exact absurd e n05
      | exact absurd e.symm n05
      | exact absurd e n12
      | exact absurd e.symm n12
      | exact absurd e n13
      | exact absurd e.symm n13
      | exact absurd e n14
      | exact absurd e.symm n14
      | exact absurd e n15
      | exact absurd e.symm n15
      | exact absurd e n23
      | exact absurd e.symm n23
      | exact absurd e n24
      | exact absurd e.symm n24
      | exact absurd e n25
      | exact absurd e.symm n25
      | exact absurd e n34
      | exact absurd e.symm n34
      | exact absurd e n35
      | exact absurd e.symm n35
      | exact absurd e n45
      | exact absurd e.symm n45
  · exact hf_10_q
  · rw [ps_g0]; exact (kq qn (Ne.symm n01)).trans ee_qn
  · rw [ps_g0]; exact (kq qm (Ne.symm n02)).trans ee_qm
  · exact (kq q_6 (Ne.symm n03)).trans ee_q_6
  · exact (kq qp (Ne.symm n04)).trans pe1
  · exact (kq qw (Ne.symm n05)).trans pe2
end
