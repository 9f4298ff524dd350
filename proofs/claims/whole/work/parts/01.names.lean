def RX0 : String := "SpokenClock$Big"
def TX0 : u_T := fun k => match k with
  | _ => ("SpokenClock$Big", "limbs", "[I", true)
def tyX0 : Nat → FieldType := fun k => match k with
  | _ => .array .int
abbrev wsX00 : List Cond := u_ws RX0 TX0 1
theorem nmX0 : ∀ a, a < 1 → ∀ b, b < 1 → a ≠ b → (TX0 a).2.1 ≠ (TX0 b).2.1 := by decide +kernel
theorem tyX0_ok : ∀ k, k < 1 → parseFieldDescriptor (TX0 k).2.2.1 = some (tyX0 k) := by decide +kernel
abbrev cX0_init : ByteArray := prog_2_method_1_code
def yX0_init : MethodName := ⟨RX0, "<init>", "(I)V"⟩
abbrev cX0_become : ByteArray := prog_2_method_2_code
def yX0_become : MethodName := ⟨RX0, "become", "(I)V"⟩
abbrev cX0_size : ByteArray := prog_2_method_3_code
def yX0_size : MethodName := ⟨RX0, "size", "()I"⟩
abbrev cX0_limbAt : ByteArray := prog_2_method_4_code
def yX0_limbAt : MethodName := ⟨RX0, "limbAt", "(I)I"⟩
abbrev cX0_times : ByteArray := prog_2_method_5_code
def yX0_times : MethodName := ⟨RX0, "times", "(I)V"⟩
abbrev cX0_plus : ByteArray := prog_2_method_6_code
def yX0_plus : MethodName := ⟨RX0, "plus", "(LSpokenClock$Big;)V"⟩
abbrev cX0_isDivided : ByteArray := prog_2_method_7_code
def yX0_isDivided : MethodName := ⟨RX0, "isDivided", "(I)Z"⟩
abbrev cX0_divide : ByteArray := prog_2_method_8_code
def yX0_divide : MethodName := ⟨RX0, "divide", "(I)V"⟩
abbrev cX0_mixed : ByteArray := prog_2_method_9_code
def yX0_mixed : MethodName := ⟨RX0, "mixed", "(J)J"⟩
def RX1 : String := "SpokenClock$Day"
def TX1 : u_T := fun k => match k with
  | 0 => ("SpokenClock$Day", "state", "LSpokenClock$State;", true)
  | 1 => ("SpokenClock$Day", "rule", "LSpokenClock$Rule;", true)
  | 2 => ("SpokenClock$Day", "talkers", "[I", true)
  | 3 => ("SpokenClock$Day", "clocks", "[[I", true)
  | _ => ("SpokenClock$Day", "isStale", "Z", false)
def tyX1 : Nat → FieldType := fun k => match k with
  | 0 => .object "SpokenClock$State"
  | 1 => .object "SpokenClock$Rule"
  | 2 => .array .int
  | 3 => .array (.array .int)
  | _ => .boolean
abbrev wsX10 : List Cond := u_ws RX1 TX1 5
theorem nmX1 : ∀ a, a < 5 → ∀ b, b < 5 → a ≠ b → (TX1 a).2.1 ≠ (TX1 b).2.1 := by decide +kernel
theorem tyX1_ok : ∀ k, k < 5 → parseFieldDescriptor (TX1 k).2.2.1 = some (tyX1 k) := by decide +kernel
abbrev cX1_init : ByteArray := prog_3_method_1_code
def yX1_init : MethodName := ⟨RX1, "<init>", "(LSpokenClock$State;LSpokenClock$Rule;)V"⟩
abbrev cX1_spoil : ByteArray := prog_3_method_2_code
def yX1_spoil : MethodName := ⟨RX1, "spoil", "()V"⟩
abbrev cX1_clockAt : ByteArray := prog_3_method_3_code
def yX1_clockAt : MethodName := ⟨RX1, "clockAt", "(II)I"⟩
abbrev cX1_countedOf : ByteArray := prog_3_method_4_code
def yX1_countedOf : MethodName := ⟨RX1, "countedOf", "(II)I"⟩
abbrev cX1_firstMinute : ByteArray := prog_3_method_5_code
def yX1_firstMinute : MethodName := ⟨RX1, "firstMinute", "(II)I"⟩
abbrev cX1_firstMissedTurn : ByteArray := prog_3_method_6_code
def yX1_firstMissedTurn : MethodName := ⟨RX1, "firstMissedTurn", "(I)I"⟩
abbrev cX1_refresh : ByteArray := prog_3_method_7_code
def yX1_refresh : MethodName := ⟨RX1, "refresh", "()V"⟩
abbrev cX1_fillTalkers : ByteArray := prog_3_method_8_code
def yX1_fillTalkers : MethodName := ⟨RX1, "fillTalkers", "()V"⟩
abbrev cX1_isTalking : ByteArray := prog_3_method_9_code
def yX1_isTalking : MethodName := ⟨RX1, "isTalking", "(II)Z"⟩
abbrev cX1_together : ByteArray := prog_3_method_10_code
def yX1_together : MethodName := ⟨RX1, "together", "(IIIII)I"⟩
abbrev cX1_voiceOf : ByteArray := prog_3_method_11_code
def yX1_voiceOf : MethodName := ⟨RX1, "voiceOf", "(IIII)I"⟩
def RX2 : String := "SpokenClock$Fraction"
def TX2 : u_T := fun k => match k with
  | 0 => ("SpokenClock$Fraction", "above", "LSpokenClock$Big;", true)
  | 1 => ("SpokenClock$Fraction", "below", "LSpokenClock$Big;", true)
  | _ => ("SpokenClock$Fraction", "term", "LSpokenClock$Big;", true)
def tyX2 : Nat → FieldType := fun k => match k with
  | 0 => .object "SpokenClock$Big"
  | 1 => .object "SpokenClock$Big"
  | _ => .object "SpokenClock$Big"
abbrev wsX20 : List Cond := u_ws RX2 TX2 3
theorem nmX2 : ∀ a, a < 3 → ∀ b, b < 3 → a ≠ b → (TX2 a).2.1 ≠ (TX2 b).2.1 := by decide +kernel
theorem tyX2_ok : ∀ k, k < 3 → parseFieldDescriptor (TX2 k).2.2.1 = some (tyX2 k) := by decide +kernel
abbrev cX2_init : ByteArray := prog_4_method_1_code
def yX2_init : MethodName := ⟨RX2, "<init>", "()V"⟩
abbrev cX2_shape : ByteArray := prog_4_method_2_code
def yX2_shape : MethodName := ⟨RX2, "shape", "(I)I"⟩
abbrev cX2_limbOf : ByteArray := prog_4_method_3_code
def yX2_limbOf : MethodName := ⟨RX2, "limbOf", "(II)I"⟩
abbrev cX2_mixed : ByteArray := prog_4_method_4_code
def yX2_mixed : MethodName := ⟨RX2, "mixed", "(J)J"⟩
abbrev cX2_toChance : ByteArray := prog_4_method_5_code
def yX2_toChance : MethodName := ⟨RX2, "toChance", "(III)V"⟩
abbrev cX2_reduce : ByteArray := prog_4_method_6_code
def yX2_reduce : MethodName := ⟨RX2, "reduce", "(II)V"⟩
def RX3 : String := "SpokenClock$Guess"
def TX3 : u_T := fun k => match k with
  | 0 => ("SpokenClock$Guess", "state", "LSpokenClock$State;", true)
  | 1 => ("SpokenClock$Guess", "day", "LSpokenClock$Day;", true)
  | 2 => ("SpokenClock$Guess", "seen", "[I", true)
  | 3 => ("SpokenClock$Guess", "sets", "I", false)
  | 4 => ("SpokenClock$Guess", "least", "I", false)
  | 5 => ("SpokenClock$Guess", "surely", "I", false)
  | _ => ("SpokenClock$Guess", "isStale", "Z", false)
def tyX3 : Nat → FieldType := fun k => match k with
  | 0 => .object "SpokenClock$State"
  | 1 => .object "SpokenClock$Day"
  | 2 => .array .int
  | 3 => .int
  | 4 => .int
  | 5 => .int
  | _ => .boolean
abbrev wsX30 : List Cond := u_ws RX3 TX3 7
theorem nmX3 : ∀ a, a < 7 → ∀ b, b < 7 → a ≠ b → (TX3 a).2.1 ≠ (TX3 b).2.1 := by decide +kernel
theorem tyX3_ok : ∀ k, k < 7 → parseFieldDescriptor (TX3 k).2.2.1 = some (tyX3 k) := by decide +kernel
abbrev cX3_init : ByteArray := prog_5_method_1_code
def yX3_init : MethodName := ⟨RX3, "<init>", "(LSpokenClock$State;LSpokenClock$Day;)V"⟩
abbrev cX3_spoil : ByteArray := prog_5_method_2_code
def yX3_spoil : MethodName := ⟨RX3, "spoil", "()V"⟩
abbrev cX3_told : ByteArray := prog_5_method_3_code
def yX3_told : MethodName := ⟨RX3, "told", "(I)I"⟩
abbrev cX3_refresh : ByteArray := prog_5_method_4_code
def yX3_refresh : MethodName := ⟨RX3, "refresh", "()V"⟩
abbrev cX3_noteSights : ByteArray := prog_5_method_5_code
def yX3_noteSights : MethodName := ⟨RX3, "noteSights", "()Z"⟩
abbrev cX3_peopleThere : ByteArray := prog_5_method_6_code
def yX3_peopleThere : MethodName := ⟨RX3, "peopleThere", "()I"⟩
abbrev cX3_fits : ByteArray := prog_5_method_7_code
def yX3_fits : MethodName := ⟨RX3, "fits", "(II)Z"⟩
def RX4 : String := "SpokenClock$Plan"
def TX4 : u_T := fun k => match k with
  | 0 => ("SpokenClock$Plan", "state", "LSpokenClock$State;", true)
  | 1 => ("SpokenClock$Plan", "most", "[I", true)
  | 2 => ("SpokenClock$Plan", "steps", "[J", true)
  | 3 => ("SpokenClock$Plan", "price", "I", false)
  | _ => ("SpokenClock$Plan", "isStale", "Z", false)
def tyX4 : Nat → FieldType := fun k => match k with
  | 0 => .object "SpokenClock$State"
  | 1 => .array .int
  | 2 => .array .long
  | 3 => .int
  | _ => .boolean
abbrev wsX40 : List Cond := u_ws RX4 TX4 5
theorem nmX4 : ∀ a, a < 5 → ∀ b, b < 5 → a ≠ b → (TX4 a).2.1 ≠ (TX4 b).2.1 := by decide +kernel
theorem tyX4_ok : ∀ k, k < 5 → parseFieldDescriptor (TX4 k).2.2.1 = some (tyX4 k) := by decide +kernel
abbrev cX4_init : ByteArray := prog_6_method_1_code
def yX4_init : MethodName := ⟨RX4, "<init>", "(LSpokenClock$State;)V"⟩
abbrev cX4_spoil : ByteArray := prog_6_method_2_code
def yX4_spoil : MethodName := ⟨RX4, "spoil", "()V"⟩
abbrev cX4_mostFrom : ByteArray := prog_6_method_3_code
def yX4_mostFrom : MethodName := ⟨RX4, "mostFrom", "(II)I"⟩
abbrev cX4_stepIn : ByteArray := prog_6_method_4_code
def yX4_stepIn : MethodName := ⟨RX4, "stepIn", "(II)I"⟩
abbrev cX4_refresh : ByteArray := prog_6_method_5_code
def yX4_refresh : MethodName := ⟨RX4, "refresh", "(I)V"⟩
abbrev cX4_payDues : ByteArray := prog_6_method_6_code
def yX4_payDues : MethodName := ⟨RX4, "payDues", "(I)V"⟩
abbrev cX4_chooseSteps : ByteArray := prog_6_method_7_code
def yX4_chooseSteps : MethodName := ⟨RX4, "chooseSteps", "(II)V"⟩
abbrev cX4_keepStep : ByteArray := prog_6_method_8_code
def yX4_keepStep : MethodName := ⟨RX4, "keepStep", "(III)V"⟩
abbrev cX4_stepAt : ByteArray := prog_6_method_9_code
def yX4_stepAt : MethodName := ⟨RX4, "stepAt", "(II)I"⟩
def RX5 : String := "SpokenClock$Quarrel"
def TX5 : u_T := fun k => match k with
  | 0 => ("SpokenClock$Quarrel", "hers", "[I", true)
  | 1 => ("SpokenClock$Quarrel", "his", "[I", true)
  | 2 => ("SpokenClock$Quarrel", "talks", "[I", true)
  | 3 => ("SpokenClock$Quarrel", "firstTalk", "I", false)
  | _ => ("SpokenClock$Quarrel", "gone", "I", false)
def tyX5 : Nat → FieldType := fun k => match k with
  | 0 => .array .int
  | 1 => .array .int
  | 2 => .array .int
  | 3 => .int
  | _ => .int
abbrev wsX50 : List Cond := u_ws RX5 TX5 5
theorem nmX5 : ∀ a, a < 5 → ∀ b, b < 5 → a ≠ b → (TX5 a).2.1 ≠ (TX5 b).2.1 := by decide +kernel
theorem tyX5_ok : ∀ k, k < 5 → parseFieldDescriptor (TX5 k).2.2.1 = some (tyX5 k) := by decide +kernel
abbrev cX5_init : ByteArray := prog_7_method_1_code
def yX5_init : MethodName := ⟨RX5, "<init>", "()V"⟩
abbrev cX5_play : ByteArray := prog_7_method_2_code
def yX5_play : MethodName := ⟨RX5, "play", "([III)V"⟩
abbrev cX5_end : ByteArray := prog_7_method_3_code
def yX5_end : MethodName := ⟨RX5, "end", "(I)I"⟩
abbrev cX5_weigh : ByteArray := prog_7_method_4_code
def yX5_weigh : MethodName := ⟨RX5, "weigh", "([III)V"⟩
def RX6 : String := "SpokenClock$Reader"
def TX6 : u_T := fun k => match k with
  | 0 => ("SpokenClock$Reader", "text", "LSpokenClock$Rows;", true)
  | 1 => ("SpokenClock$Reader", "state", "LSpokenClock$State;", true)
  | 2 => ("SpokenClock$Reader", "numbers", "[I", true)
  | 3 => ("SpokenClock$Reader", "place", "I", false)
  | 4 => ("SpokenClock$Reader", "token", "I", false)
  | 5 => ("SpokenClock$Reader", "first", "I", false)
  | _ => ("SpokenClock$Reader", "number", "I", false)
def tyX6 : Nat → FieldType := fun k => match k with
  | 0 => .object "SpokenClock$Rows"
  | 1 => .object "SpokenClock$State"
  | 2 => .array .int
  | 3 => .int
  | 4 => .int
  | 5 => .int
  | _ => .int
abbrev wsX60 : List Cond := u_ws RX6 TX6 7
theorem nmX6 : ∀ a, a < 7 → ∀ b, b < 7 → a ≠ b → (TX6 a).2.1 ≠ (TX6 b).2.1 := by decide +kernel
theorem tyX6_ok : ∀ k, k < 7 → parseFieldDescriptor (TX6 k).2.2.1 = some (tyX6 k) := by decide +kernel
abbrev cX6_init : ByteArray := prog_8_method_1_code
def yX6_init : MethodName := ⟨RX6, "<init>", "(LSpokenClock$Rows;LSpokenClock$State;)V"⟩
abbrev cX6_readItems : ByteArray := prog_8_method_2_code
def yX6_readItems : MethodName := ⟨RX6, "readItems", "()I"⟩
abbrev cX6_isItem : ByteArray := prog_8_method_3_code
def yX6_isItem : MethodName := ⟨RX6, "isItem", "()Z"⟩
abbrev cX6_keep : ByteArray := prog_8_method_4_code
def yX6_keep : MethodName := ⟨RX6, "keep", "(I)V"⟩
abbrev cX6_advance : ByteArray := prog_8_method_5_code
def yX6_advance : MethodName := ⟨RX6, "advance", "()V"⟩
abbrev cX6_passWord : ByteArray := prog_8_method_6_code
def yX6_passWord : MethodName := ⟨RX6, "passWord", "()V"⟩
abbrev cX6_passFigures : ByteArray := prog_8_method_7_code
def yX6_passFigures : MethodName := ⟨RX6, "passFigures", "()V"⟩
abbrev cX6_itemAtHand : ByteArray := prog_8_method_8_code
def yX6_itemAtHand : MethodName := ⟨RX6, "itemAtHand", "()I"⟩
abbrev cX6_isAtHand : ByteArray := prog_8_method_9_code
def yX6_isAtHand : MethodName := ⟨RX6, "isAtHand", "(Ljava/lang/String;)Z"⟩
abbrev cX6_wordOf : ByteArray := prog_8_method_10_code
def yX6_wordOf : MethodName := ⟨RX6, "wordOf", "(I)Ljava/lang/String;"⟩
abbrev cX6_isLetter : ByteArray := prog_8_method_11_code
def yX6_isLetter : MethodName := ⟨RX6, "isLetter", "(I)Z"⟩
abbrev cX6_isFigure : ByteArray := prog_8_method_12_code
def yX6_isFigure : MethodName := ⟨RX6, "isFigure", "(I)Z"⟩
def RX7 : String := "SpokenClock$Rows"
def TX7 : u_T := fun k => match k with
  | 0 => ("SpokenClock$Rows", "width", "I", true)
  | 1 => ("SpokenClock$Rows", "limit", "I", true)
  | 2 => ("SpokenClock$Rows", "cells", "[I", true)
  | _ => ("SpokenClock$Rows", "size", "I", false)
def tyX7 : Nat → FieldType := fun k => match k with
  | 0 => .int
  | 1 => .int
  | 2 => .array .int
  | _ => .int
abbrev wsX70 : List Cond := u_ws RX7 TX7 4
theorem nmX7 : ∀ a, a < 4 → ∀ b, b < 4 → a ≠ b → (TX7 a).2.1 ≠ (TX7 b).2.1 := by decide +kernel
theorem tyX7_ok : ∀ k, k < 4 → parseFieldDescriptor (TX7 k).2.2.1 = some (tyX7 k) := by decide +kernel
abbrev cX7_init : ByteArray := prog_9_method_1_code
def yX7_init : MethodName := ⟨RX7, "<init>", "(II)V"⟩
abbrev cX7_size : ByteArray := prog_9_method_2_code
def yX7_size : MethodName := ⟨RX7, "size", "()I"⟩
abbrev cX7_limit : ByteArray := prog_9_method_3_code
def yX7_limit : MethodName := ⟨RX7, "limit", "()I"⟩
abbrev cX7_isFull : ByteArray := prog_9_method_4_code
def yX7_isFull : MethodName := ⟨RX7, "isFull", "()Z"⟩
abbrev cX7_at : ByteArray := prog_9_method_5_code
def yX7_at : MethodName := ⟨RX7, "at", "(II)I"⟩
abbrev cX7_add : ByteArray := prog_9_method_6_code
def yX7_add : MethodName := ⟨RX7, "add", "(III)I"⟩
abbrev cX7_clear : ByteArray := prog_9_method_7_code
def yX7_clear : MethodName := ⟨RX7, "clear", "()I"⟩
abbrev cX7_copy : ByteArray := prog_9_method_8_code
def yX7_copy : MethodName := ⟨RX7, "copy", "(LSpokenClock$Rows;)V"⟩
abbrev cX7_greatest : ByteArray := prog_9_method_9_code
def yX7_greatest : MethodName := ⟨RX7, "greatest", "(I)I"⟩
abbrev cX7_mixed : ByteArray := prog_9_method_10_code
def yX7_mixed : MethodName := ⟨RX7, "mixed", "(J)J"⟩
def RX8 : String := "SpokenClock$Rule"
def TX8 : u_T := fun k => match k with
  | 0 => ("SpokenClock$Rule", "state", "LSpokenClock$State;", true)
  | 1 => ("SpokenClock$Rule", "row", "[I", true)
  | 2 => ("SpokenClock$Rule", "stack", "[J", true)
  | 3 => ("SpokenClock$Rule", "known", "[I", true)
  | 4 => ("SpokenClock$Rule", "size", "I", false)
  | 5 => ("SpokenClock$Rule", "place", "I", false)
  | 6 => ("SpokenClock$Rule", "fault", "I", false)
  | _ => ("SpokenClock$Rule", "isStale", "Z", false)
def tyX8 : Nat → FieldType := fun k => match k with
  | 0 => .object "SpokenClock$State"
  | 1 => .array .int
  | 2 => .array .long
  | 3 => .array .int
  | 4 => .int
  | 5 => .int
  | 6 => .int
  | _ => .boolean
abbrev wsX80 : List Cond := u_ws RX8 TX8 8
theorem nmX8 : ∀ a, a < 8 → ∀ b, b < 8 → a ≠ b → (TX8 a).2.1 ≠ (TX8 b).2.1 := by decide +kernel
theorem tyX8_ok : ∀ k, k < 8 → parseFieldDescriptor (TX8 k).2.2.1 = some (tyX8 k) := by decide +kernel
abbrev cX8_init : ByteArray := prog_10_method_1_code
def yX8_init : MethodName := ⟨RX8, "<init>", "(LSpokenClock$State;)V"⟩
abbrev cX8_spoil : ByteArray := prog_10_method_2_code
def yX8_spoil : MethodName := ⟨RX8, "spoil", "()V"⟩
abbrev cX8_refresh : ByteArray := prog_10_method_3_code
def yX8_refresh : MethodName := ⟨RX8, "refresh", "()V"⟩
abbrev cX8_firstFault : ByteArray := prog_10_method_4_code
def yX8_firstFault : MethodName := ⟨RX8, "firstFault", "()I"⟩
abbrev cX8_holds : ByteArray := prog_10_method_5_code
def yX8_holds : MethodName := ⟨RX8, "holds", "(IIII)Z"⟩
abbrev cX8_parseLevel : ByteArray := prog_10_method_6_code
def yX8_parseLevel : MethodName := ⟨RX8, "parseLevel", "(II)V"⟩
abbrev cX8_parseUnit : ByteArray := prog_10_method_7_code
def yX8_parseUnit : MethodName := ⟨RX8, "parseUnit", "(I)V"⟩
abbrev cX8_parseOperand : ByteArray := prog_10_method_8_code
def yX8_parseOperand : MethodName := ⟨RX8, "parseOperand", "(I)V"⟩
abbrev cX8_parseNumber : ByteArray := prog_10_method_9_code
def yX8_parseNumber : MethodName := ⟨RX8, "parseNumber", "()V"⟩
abbrev cX8_ahead : ByteArray := prog_10_method_10_code
def yX8_ahead : MethodName := ⟨RX8, "ahead", "()I"⟩
abbrev cX8_stop : ByteArray := prog_10_method_11_code
def yX8_stop : MethodName := ⟨RX8, "stop", "(II)V"⟩
abbrev cX8_emit : ByteArray := prog_10_method_12_code
def yX8_emit : MethodName := ⟨RX8, "emit", "(I)V"⟩
abbrev cX8_worked : ByteArray := prog_10_method_13_code
def yX8_worked : MethodName := ⟨RX8, "worked", "()J"⟩
abbrev cX8_joined : ByteArray := prog_10_method_14_code
def yX8_joined : MethodName := ⟨RX8, "joined", "(IJJ)J"⟩
abbrev cX8_rankOf : ByteArray := prog_10_method_15_code
def yX8_rankOf : MethodName := ⟨RX8, "rankOf", "(I)I"⟩
abbrev cX8_nameOf : ByteArray := prog_10_method_16_code
def yX8_nameOf : MethodName := ⟨RX8, "nameOf", "(I)I"⟩
abbrev cX8_isPrefix : ByteArray := prog_10_method_17_code
def yX8_isPrefix : MethodName := ⟨RX8, "isPrefix", "(I)Z"⟩
abbrev cX8_isDigit : ByteArray := prog_10_method_18_code
def yX8_isDigit : MethodName := ⟨RX8, "isDigit", "(I)Z"⟩
def RX9 : String := "SpokenClock$State"
def TX9 : u_T := fun k => match k with
  | 0 => ("SpokenClock$State", "people", "LSpokenClock$Rows;", true)
  | 1 => ("SpokenClock$State", "talks", "LSpokenClock$Rows;", true)
  | 2 => ("SpokenClock$State", "dues", "LSpokenClock$Rows;", true)
  | 3 => ("SpokenClock$State", "sights", "LSpokenClock$Rows;", true)
  | 4 => ("SpokenClock$State", "rule", "LSpokenClock$Rows;", true)
  | 5 => ("SpokenClock$State", "settings", "[I", true)
  | _ => ("SpokenClock$State", "stake", "[I", true)
def tyX9 : Nat → FieldType := fun k => match k with
  | 0 => .object "SpokenClock$Rows"
  | 1 => .object "SpokenClock$Rows"
  | 2 => .object "SpokenClock$Rows"
  | 3 => .object "SpokenClock$Rows"
  | 4 => .object "SpokenClock$Rows"
  | 5 => .array .int
  | _ => .array .int
abbrev wsX90 : List Cond := u_ws RX9 TX9 7
theorem nmX9 : ∀ a, a < 7 → ∀ b, b < 7 → a ≠ b → (TX9 a).2.1 ≠ (TX9 b).2.1 := by decide +kernel
theorem tyX9_ok : ∀ k, k < 7 → parseFieldDescriptor (TX9 k).2.2.1 = some (tyX9 k) := by decide +kernel
abbrev cX9_init : ByteArray := prog_11_method_1_code
def yX9_init : MethodName := ⟨RX9, "<init>", "()V"⟩
abbrev cX9_rowsOf : ByteArray := prog_11_method_2_code
def yX9_rowsOf : MethodName := ⟨RX9, "rowsOf", "(I)LSpokenClock$Rows;"⟩
abbrev cX9_isAsTold : ByteArray := prog_11_method_3_code
def yX9_isAsTold : MethodName := ⟨RX9, "isAsTold", "(IIII)Z"⟩
abbrev cX9_forget : ByteArray := prog_11_method_4_code
def yX9_forget : MethodName := ⟨RX9, "forget", "()V"⟩
abbrev cX9_copy : ByteArray := prog_11_method_5_code
def yX9_copy : MethodName := ⟨RX9, "copy", "(LSpokenClock$State;)V"⟩
abbrev cX9_mixed : ByteArray := prog_11_method_6_code
def yX9_mixed : MethodName := ⟨RX9, "mixed", "(J)J"⟩
abbrev cX9_mixedWith : ByteArray := prog_11_method_7_code
def yX9_mixedWith : MethodName := ⟨RX9, "mixedWith", "(J[I)J"⟩
def RX10 : String := "SpokenClock"
def TX10 : u_T := fun k => match k with
  | 0 => ("SpokenClock", "now", "LSpokenClock$State;", true)
  | 1 => ("SpokenClock", "draft", "LSpokenClock$State;", true)
  | 2 => ("SpokenClock", "text", "LSpokenClock$Rows;", true)
  | 3 => ("SpokenClock", "reader", "LSpokenClock$Reader;", true)
  | 4 => ("SpokenClock", "rule", "LSpokenClock$Rule;", true)
  | 5 => ("SpokenClock", "day", "LSpokenClock$Day;", true)
  | 6 => ("SpokenClock", "plan", "LSpokenClock$Plan;", true)
  | 7 => ("SpokenClock", "guess", "LSpokenClock$Guess;", true)
  | 8 => ("SpokenClock", "quarrel", "LSpokenClock$Quarrel;", true)
  | 9 => ("SpokenClock", "fraction", "LSpokenClock$Fraction;", true)
  | 10 => ("SpokenClock", "firstImage", "LSpokenClock$State;", true)
  | 11 => ("SpokenClock", "secondImage", "LSpokenClock$State;", true)
  | 12 => ("SpokenClock", "kept", "[Z", true)
  | _ => ("SpokenClock", "refusals", "[I", true)
def tyX10 : Nat → FieldType := fun k => match k with
  | 0 => .object "SpokenClock$State"
  | 1 => .object "SpokenClock$State"
  | 2 => .object "SpokenClock$Rows"
  | 3 => .object "SpokenClock$Reader"
  | 4 => .object "SpokenClock$Rule"
  | 5 => .object "SpokenClock$Day"
  | 6 => .object "SpokenClock$Plan"
  | 7 => .object "SpokenClock$Guess"
  | 8 => .object "SpokenClock$Quarrel"
  | 9 => .object "SpokenClock$Fraction"
  | 10 => .object "SpokenClock$State"
  | 11 => .object "SpokenClock$State"
  | 12 => .array .boolean
  | _ => .array .int
abbrev wsX100 : List Cond := u_ws RX10 TX10 14
theorem nmX10 : ∀ a, a < 14 → ∀ b, b < 14 → a ≠ b → (TX10 a).2.1 ≠ (TX10 b).2.1 := by decide +kernel
theorem tyX10_ok : ∀ k, k < 14 → parseFieldDescriptor (TX10 k).2.2.1 = some (tyX10 k) := by decide +kernel
abbrev cX10_init : ByteArray := prog_1_method_1_code
def yX10_init : MethodName := ⟨RX10, "<init>", "()V"⟩
abbrev cX10_put : ByteArray := prog_1_method_2_code
def yX10_put : MethodName := ⟨RX10, "put", "(II)I"⟩
abbrev cX10_person : ByteArray := prog_1_method_3_code
def yX10_person : MethodName := ⟨RX10, "person", "(II)I"⟩
abbrev cX10_talk : ByteArray := prog_1_method_4_code
def yX10_talk : MethodName := ⟨RX10, "talk", "(III)I"⟩
abbrev cX10_due : ByteArray := prog_1_method_5_code
def yX10_due : MethodName := ⟨RX10, "due", "(III)I"⟩
abbrev cX10_sight : ByteArray := prog_1_method_6_code
def yX10_sight : MethodName := ⟨RX10, "sight", "(II)I"⟩
abbrev cX10_clears : ByteArray := prog_1_method_7_code
def yX10_clears : MethodName := ⟨RX10, "clears", "(I)I"⟩
abbrev cX10_type : ByteArray := prog_1_method_8_code
def yX10_type : MethodName := ⟨RX10, "type", "(JI)I"⟩
abbrev cX10_wipe : ByteArray := prog_1_method_9_code
def yX10_wipe : MethodName := ⟨RX10, "wipe", "()I"⟩
abbrev cX10_read : ByteArray := prog_1_method_10_code
def yX10_read : MethodName := ⟨RX10, "read", "()I"⟩
abbrev cX10_write : ByteArray := prog_1_method_11_code
def yX10_write : MethodName := ⟨RX10, "write", "(I)I"⟩
abbrev cX10_erase : ByteArray := prog_1_method_12_code
def yX10_erase : MethodName := ⟨RX10, "erase", "()I"⟩
abbrev cX10_fault : ByteArray := prog_1_method_13_code
def yX10_fault : MethodName := ⟨RX10, "fault", "()I"⟩
abbrev cX10_clock : ByteArray := prog_1_method_14_code
def yX10_clock : MethodName := ⟨RX10, "clock", "(II)I"⟩
abbrev cX10_counts : ByteArray := prog_1_method_15_code
def yX10_counts : MethodName := ⟨RX10, "counts", "(II)I"⟩
abbrev cX10_sun : ByteArray := prog_1_method_16_code
def yX10_sun : MethodName := ⟨RX10, "sun", "(II)I"⟩
abbrev cX10_letter : ByteArray := prog_1_method_17_code
def yX10_letter : MethodName := ⟨RX10, "letter", "(III)I"⟩
abbrev cX10_turns : ByteArray := prog_1_method_18_code
def yX10_turns : MethodName := ⟨RX10, "turns", "(I)I"⟩
abbrev cX10_paid : ByteArray := prog_1_method_19_code
def yX10_paid : MethodName := ⟨RX10, "paid", "(I)I"⟩
abbrev cX10_best : ByteArray := prog_1_method_20_code
def yX10_best : MethodName := ⟨RX10, "best", "(I)I"⟩
abbrev cX10_step : ByteArray := prog_1_method_21_code
def yX10_step : MethodName := ⟨RX10, "step", "(II)I"⟩
abbrev cX10_minute : ByteArray := prog_1_method_22_code
def yX10_minute : MethodName := ⟨RX10, "minute", "(I)I"⟩
abbrev cX10_stake : ByteArray := prog_1_method_23_code
def yX10_stake : MethodName := ⟨RX10, "stake", "(IIIII)I"⟩
abbrev cX10_silence : ByteArray := prog_1_method_24_code
def yX10_silence : MethodName := ⟨RX10, "silence", "(III)I"⟩
abbrev cX10_night : ByteArray := prog_1_method_25_code
def yX10_night : MethodName := ⟨RX10, "night", "(III)I"⟩
abbrev cX10_who : ByteArray := prog_1_method_26_code
def yX10_who : MethodName := ⟨RX10, "who", "(I)I"⟩
abbrev cX10_sign : ByteArray := prog_1_method_27_code
def yX10_sign : MethodName := ⟨RX10, "sign", "(I)I"⟩
abbrev cX10_limb : ByteArray := prog_1_method_28_code
def yX10_limb : MethodName := ⟨RX10, "limb", "(II)I"⟩
abbrev cX10_image : ByteArray := prog_1_method_29_code
def yX10_image : MethodName := ⟨RX10, "image", "(I)I"⟩
abbrev cX10_from : ByteArray := prog_1_method_30_code
def yX10_from : MethodName := ⟨RX10, "from", "(I)I"⟩
abbrev cX10_status : ByteArray := prog_1_method_31_code
def yX10_status : MethodName := ⟨RX10, "status", "(I)I"⟩
abbrev cX10_count : ByteArray := prog_1_method_32_code
def yX10_count : MethodName := ⟨RX10, "count", "(I)I"⟩
abbrev cX10_digest : ByteArray := prog_1_method_33_code
def yX10_digest : MethodName := ⟨RX10, "digest", "()J"⟩
abbrev cX10_isIn : ByteArray := prog_1_method_34_code
def yX10_isIn : MethodName := ⟨RX10, "isIn", "(III)Z"⟩
abbrev cX10_isValley : ByteArray := prog_1_method_35_code
def yX10_isValley : MethodName := ⟨RX10, "isValley", "(I)Z"⟩
abbrev cX10_isPrice : ByteArray := prog_1_method_36_code
def yX10_isPrice : MethodName := ⟨RX10, "isPrice", "(I)Z"⟩
abbrev cX10_refuse : ByteArray := prog_1_method_37_code
def yX10_refuse : MethodName := ⟨RX10, "refuse", "(I)I"⟩
abbrev cX10_refuseWorth : ByteArray := prog_1_method_38_code
def yX10_refuseWorth : MethodName := ⟨RX10, "refuseWorth", "()I"⟩
abbrev cX10_changed : ByteArray := prog_1_method_39_code
def yX10_changed : MethodName := ⟨RX10, "changed", "()V"⟩
abbrev cX10_prepare : ByteArray := prog_1_method_40_code
def yX10_prepare : MethodName := ⟨RX10, "prepare", "()V"⟩
abbrev cX10_enter : ByteArray := prog_1_method_41_code
def yX10_enter : MethodName := ⟨RX10, "enter", "(IIII)I"⟩
abbrev cX10_isPaid : ByteArray := prog_1_method_42_code
def yX10_isPaid : MethodName := ⟨RX10, "isPaid", "(I)Z"⟩
abbrev cX10_imageOf : ByteArray := prog_1_method_43_code
def yX10_imageOf : MethodName := ⟨RX10, "imageOf", "(I)LSpokenClock$State;"⟩
abbrev cX10_sizeOf : ByteArray := prog_1_method_44_code
def yX10_sizeOf : MethodName := ⟨RX10, "sizeOf", "(I)I"⟩
def RX11 : String := "SpokenClockModel"
def TX11 : u_T := fun k => match k with
  | 0 => ("SpokenClockModel", "now", "[I", true)
  | 1 => ("SpokenClockModel", "images", "[I", true)
  | 2 => ("SpokenClockModel", "kept", "[Z", true)
  | 3 => ("SpokenClockModel", "text", "[I", true)
  | 4 => ("SpokenClockModel", "size", "I", false)
  | 5 => ("SpokenClockModel", "sign", "I", false)
  | 6 => ("SpokenClockModel", "manyAbove", "I", false)
  | 7 => ("SpokenClockModel", "manyBelow", "I", false)
  | 8 => ("SpokenClockModel", "above", "[I", true)
  | 9 => ("SpokenClockModel", "below", "[I", true)
  | 10 => ("SpokenClockModel", "refused", "[I", true)
  | 11 => ("SpokenClockModel", "at", "I", false)
  | 12 => ("SpokenClockModel", "begin", "I", false)
  | 13 => ("SpokenClockModel", "kind", "I", false)
  | 14 => ("SpokenClockModel", "value", "J", false)
  | 15 => ("SpokenClockModel", "read", "[I", true)
  | 16 => ("SpokenClockModel", "acts", "I", false)
  | 17 => ("SpokenClockModel", "act", "[I", true)
  | 18 => ("SpokenClockModel", "waits", "I", false)
  | 19 => ("SpokenClockModel", "wait", "[I", true)
  | 20 => ("SpokenClockModel", "held", "[Z", true)
  | 21 => ("SpokenClockModel", "place", "I", false)
  | 22 => ("SpokenClockModel", "heap", "[J", true)
  | 23 => ("SpokenClockModel", "clocks", "[I", true)
  | 24 => ("SpokenClockModel", "counts", "[I", true)
  | 25 => ("SpokenClockModel", "talking", "[Z", true)
  | 26 => ("SpokenClockModel", "most", "[I", true)
  | 27 => ("SpokenClockModel", "hasA", "[I", true)
  | 28 => ("SpokenClockModel", "hasB", "[I", true)
  | 29 => ("SpokenClockModel", "talks", "[Z", true)
  | _ => ("SpokenClockModel", "big", "[J", true)
def tyX11 : Nat → FieldType := fun k => match k with
  | 0 => .array .int
  | 1 => .array .int
  | 2 => .array .boolean
  | 3 => .array .int
  | 4 => .int
  | 5 => .int
  | 6 => .int
  | 7 => .int
  | 8 => .array .int
  | 9 => .array .int
  | 10 => .array .int
  | 11 => .int
  | 12 => .int
  | 13 => .int
  | 14 => .long
  | 15 => .array .int
  | 16 => .int
  | 17 => .array .int
  | 18 => .int
  | 19 => .array .int
  | 20 => .array .boolean
  | 21 => .int
  | 22 => .array .long
  | 23 => .array .int
  | 24 => .array .int
  | 25 => .array .boolean
  | 26 => .array .int
  | 27 => .array .int
  | 28 => .array .int
  | 29 => .array .boolean
  | _ => .array .long
abbrev wsX110 : List Cond := u_ws RX11 TX11 31
theorem nmX11 : ∀ a, a < 31 → ∀ b, b < 31 → a ≠ b → (TX11 a).2.1 ≠ (TX11 b).2.1 := by decide +kernel
theorem tyX11_ok : ∀ k, k < 31 → parseFieldDescriptor (TX11 k).2.2.1 = some (tyX11 k) := by decide +kernel
abbrev cX11_init : ByteArray := prog_13_method_1_code
def yX11_init : MethodName := ⟨RX11, "<init>", "()V"⟩
abbrev cX11_in : ByteArray := prog_13_method_3_code
def yX11_in : MethodName := ⟨RX11, "in", "(JJJ)Z"⟩
abbrev cX11_refuse : ByteArray := prog_13_method_4_code
def yX11_refuse : MethodName := ⟨RX11, "refuse", "(I)I"⟩
abbrev cX11_worse : ByteArray := prog_13_method_5_code
def yX11_worse : MethodName := ⟨RX11, "worse", "()I"⟩
abbrev cX11_isPut : ByteArray := prog_13_method_6_code
def yX11_isPut : MethodName := ⟨RX11, "isPut", "(II)Z"⟩
abbrev cX11_put : ByteArray := prog_13_method_7_code
def yX11_put : MethodName := ⟨RX11, "put", "(II)I"⟩
abbrev cX11_person : ByteArray := prog_13_method_8_code
def yX11_person : MethodName := ⟨RX11, "person", "(II)I"⟩
abbrev cX11_talk : ByteArray := prog_13_method_9_code
def yX11_talk : MethodName := ⟨RX11, "talk", "(III)I"⟩
abbrev cX11_due : ByteArray := prog_13_method_10_code
def yX11_due : MethodName := ⟨RX11, "due", "(III)I"⟩
abbrev cX11_sight : ByteArray := prog_13_method_11_code
def yX11_sight : MethodName := ⟨RX11, "sight", "(II)I"⟩
abbrev cX11_clears : ByteArray := prog_13_method_12_code
def yX11_clears : MethodName := ⟨RX11, "clears", "(I)I"⟩
abbrev cX11_type : ByteArray := prog_13_method_13_code
def yX11_type : MethodName := ⟨RX11, "type", "(JI)I"⟩
abbrev cX11_wipe : ByteArray := prog_13_method_14_code
def yX11_wipe : MethodName := ⟨RX11, "wipe", "()I"⟩
abbrev cX11_isLetter : ByteArray := prog_13_method_15_code
def yX11_isLetter : MethodName := ⟨RX11, "isLetter", "(I)Z"⟩
abbrev cX11_isFigure : ByteArray := prog_13_method_16_code
def yX11_isFigure : MethodName := ⟨RX11, "isFigure", "(I)Z"⟩
abbrev cX11_next : ByteArray := prog_13_method_17_code
def yX11_next : MethodName := ⟨RX11, "next", "()V"⟩
abbrev cX11_takes : ByteArray := prog_13_method_18_code
def yX11_takes : MethodName := ⟨RX11, "takes", "(II)Z"⟩
abbrev cX11_stops : ByteArray := prog_13_method_19_code
def yX11_stops : MethodName := ⟨RX11, "stops", "()Z"⟩
abbrev cX11_takesPut : ByteArray := prog_13_method_20_code
def yX11_takesPut : MethodName := ⟨RX11, "takesPut", "(I)Z"⟩
abbrev cX11_takesPerson : ByteArray := prog_13_method_21_code
def yX11_takesPerson : MethodName := ⟨RX11, "takesPerson", "()Z"⟩
abbrev cX11_takesTalk : ByteArray := prog_13_method_22_code
def yX11_takesTalk : MethodName := ⟨RX11, "takesTalk", "()Z"⟩
abbrev cX11_takesDue : ByteArray := prog_13_method_23_code
def yX11_takesDue : MethodName := ⟨RX11, "takesDue", "()Z"⟩
abbrev cX11_takesSight : ByteArray := prog_13_method_24_code
def yX11_takesSight : MethodName := ⟨RX11, "takesSight", "()Z"⟩
abbrev cX11_takesAll : ByteArray := prog_13_method_25_code
def yX11_takesAll : MethodName := ⟨RX11, "takesAll", "()I"⟩
abbrev cX11_read : ByteArray := prog_13_method_26_code
def yX11_read : MethodName := ⟨RX11, "read", "()I"⟩
abbrev cX11_write : ByteArray := prog_13_method_27_code
def yX11_write : MethodName := ⟨RX11, "write", "(I)I"⟩
abbrev cX11_erase : ByteArray := prog_13_method_28_code
def yX11_erase : MethodName := ⟨RX11, "erase", "()I"⟩
abbrev cX11_holds : ByteArray := prog_13_method_29_code
def yX11_holds : MethodName := ⟨RX11, "holds", "(I)I"⟩
abbrev cX11_does : ByteArray := prog_13_method_30_code
def yX11_does : MethodName := ⟨RX11, "does", "(I)V"⟩
abbrev cX11_isName : ByteArray := prog_13_method_31_code
def yX11_isName : MethodName := ⟨RX11, "isName", "(I)Z"⟩
abbrev cX11_here : ByteArray := prog_13_method_32_code
def yX11_here : MethodName := ⟨RX11, "here", "()I"⟩
abbrev cX11_takesUnit : ByteArray := prog_13_method_33_code
def yX11_takesUnit : MethodName := ⟨RX11, "takesUnit", "(I)I"⟩
abbrev cX11_compile : ByteArray := prog_13_method_34_code
def yX11_compile : MethodName := ⟨RX11, "compile", "()I"⟩
abbrev cX11_fault : ByteArray := prog_13_method_35_code
def yX11_fault : MethodName := ⟨RX11, "fault", "()I"⟩
abbrev cX11_worked : ByteArray := prog_13_method_36_code
def yX11_worked : MethodName := ⟨RX11, "worked", "(IJJ)J"⟩
abbrev cX11_tells : ByteArray := prog_13_method_37_code
def yX11_tells : MethodName := ⟨RX11, "tells", "(IIII)J"⟩
abbrev cX11_worth : ByteArray := prog_13_method_38_code
def yX11_worth : MethodName := ⟨RX11, "worth", "(IIIIZ)I"⟩
abbrev cX11_winds : ByteArray := prog_13_method_39_code
def yX11_winds : MethodName := ⟨RX11, "winds", "(I)V"⟩
abbrev cX11_clock : ByteArray := prog_13_method_40_code
def yX11_clock : MethodName := ⟨RX11, "clock", "(II)I"⟩
abbrev cX11_counts : ByteArray := prog_13_method_41_code
def yX11_counts : MethodName := ⟨RX11, "counts", "(II)I"⟩
abbrev cX11_first : ByteArray := prog_13_method_42_code
def yX11_first : MethodName := ⟨RX11, "first", "(II)I"⟩
abbrev cX11_sun : ByteArray := prog_13_method_43_code
def yX11_sun : MethodName := ⟨RX11, "sun", "(II)I"⟩
abbrev cX11_letter : ByteArray := prog_13_method_44_code
def yX11_letter : MethodName := ⟨RX11, "letter", "(III)I"⟩
abbrev cX11_turns : ByteArray := prog_13_method_45_code
def yX11_turns : MethodName := ⟨RX11, "turns", "(I)I"⟩
abbrev cX11_paid : ByteArray := prog_13_method_46_code
def yX11_paid : MethodName := ⟨RX11, "paid", "(I)I"⟩
abbrev cX11_plans : ByteArray := prog_13_method_47_code
def yX11_plans : MethodName := ⟨RX11, "plans", "(I)V"⟩
abbrev cX11_best : ByteArray := prog_13_method_48_code
def yX11_best : MethodName := ⟨RX11, "best", "(I)I"⟩
abbrev cX11_step : ByteArray := prog_13_method_49_code
def yX11_step : MethodName := ⟨RX11, "step", "(II)I"⟩
abbrev cX11_minute : ByteArray := prog_13_method_50_code
def yX11_minute : MethodName := ⟨RX11, "minute", "(I)I"⟩
abbrev cX11_stake : ByteArray := prog_13_method_51_code
def yX11_stake : MethodName := ⟨RX11, "stake", "(IIIII)I"⟩
abbrev cX11_silence : ByteArray := prog_13_method_52_code
def yX11_silence : MethodName := ⟨RX11, "silence", "(III)I"⟩
abbrev cX11_mixes : ByteArray := prog_13_method_53_code
def yX11_mixes : MethodName := ⟨RX11, "mixes", "(IJIJ)V"⟩
abbrev cX11_restOf : ByteArray := prog_13_method_54_code
def yX11_restOf : MethodName := ⟨RX11, "restOf", "(IJ)J"⟩
abbrev cX11_shares : ByteArray := prog_13_method_55_code
def yX11_shares : MethodName := ⟨RX11, "shares", "(IJ)V"⟩
abbrev cX11_limbs : ByteArray := prog_13_method_56_code
def yX11_limbs : MethodName := ⟨RX11, "limbs", "(I)I"⟩
abbrev cX11_night : ByteArray := prog_13_method_57_code
def yX11_night : MethodName := ⟨RX11, "night", "(III)I"⟩
abbrev cX11_who : ByteArray := prog_13_method_58_code
def yX11_who : MethodName := ⟨RX11, "who", "(I)I"⟩
abbrev cX11_sign : ByteArray := prog_13_method_59_code
def yX11_sign : MethodName := ⟨RX11, "sign", "(I)I"⟩
abbrev cX11_limb : ByteArray := prog_13_method_60_code
def yX11_limb : MethodName := ⟨RX11, "limb", "(II)I"⟩
abbrev cX11_image : ByteArray := prog_13_method_61_code
def yX11_image : MethodName := ⟨RX11, "image", "(I)I"⟩
abbrev cX11_from : ByteArray := prog_13_method_62_code
def yX11_from : MethodName := ⟨RX11, "from", "(I)I"⟩
abbrev cX11_status : ByteArray := prog_13_method_63_code
def yX11_status : MethodName := ⟨RX11, "status", "(I)I"⟩
abbrev cX11_counted : ByteArray := prog_13_method_64_code
def yX11_counted : MethodName := ⟨RX11, "counted", "(I)I"⟩
abbrev cX11_count : ByteArray := prog_13_method_65_code
def yX11_count : MethodName := ⟨RX11, "count", "(I)I"⟩
abbrev cX11_mixed : ByteArray := prog_13_method_66_code
def yX11_mixed : MethodName := ⟨RX11, "mixed", "(JJ)J"⟩
abbrev cX11_digest : ByteArray := prog_13_method_67_code
def yX11_digest : MethodName := ⟨RX11, "digest", "()J"⟩
def RJx145de : String := "java/io/Serializable"
def TJx145de : u_T := fun k => match k with
  | _ => ("", "", "", false)
def tyJx145de : Nat → FieldType := fun k => match k with
  | _ => .int
abbrev wsJx145de0 : List Cond := u_ws RJx145de TJx145de 0
theorem nmJx145de : ∀ a, a < 0 → ∀ b, b < 0 → a ≠ b → (TJx145de a).2.1 ≠ (TJx145de b).2.1 := by decide +kernel
theorem tyJx145de_ok : ∀ k, k < 0 → parseFieldDescriptor (TJx145de k).2.2.1 = some (tyJx145de k) := by decide +kernel
def RJx9f9b0 : String := "java/lang/CharSequence"
def TJx9f9b0 : u_T := fun k => match k with
  | _ => ("", "", "", false)
def tyJx9f9b0 : Nat → FieldType := fun k => match k with
  | _ => .int
abbrev wsJx9f9b00 : List Cond := u_ws RJx9f9b0 TJx9f9b0 0
theorem nmJx9f9b0 : ∀ a, a < 0 → ∀ b, b < 0 → a ≠ b → (TJx9f9b0 a).2.1 ≠ (TJx9f9b0 b).2.1 := by decide +kernel
theorem tyJx9f9b0_ok : ∀ k, k < 0 → parseFieldDescriptor (TJx9f9b0 k).2.2.1 = some (tyJx9f9b0 k) := by decide +kernel
def RJxb160c : String := "java/lang/Comparable"
def TJxb160c : u_T := fun k => match k with
  | _ => ("", "", "", false)
def tyJxb160c : Nat → FieldType := fun k => match k with
  | _ => .int
abbrev wsJxb160c0 : List Cond := u_ws RJxb160c TJxb160c 0
theorem nmJxb160c : ∀ a, a < 0 → ∀ b, b < 0 → a ≠ b → (TJxb160c a).2.1 ≠ (TJxb160c b).2.1 := by decide +kernel
theorem tyJxb160c_ok : ∀ k, k < 0 → parseFieldDescriptor (TJxb160c k).2.2.1 = some (tyJxb160c k) := by decide +kernel
def RJ9 : String := "java/lang/Math"
def TJ9 : u_T := fun k => match k with
  | _ => ("", "", "", false)
def tyJ9 : Nat → FieldType := fun k => match k with
  | _ => .int
abbrev wsJ90 : List Cond := u_ws RJ9 TJ9 0
theorem nmJ9 : ∀ a, a < 0 → ∀ b, b < 0 → a ≠ b → (TJ9 a).2.1 ≠ (TJ9 b).2.1 := by decide +kernel
theorem tyJ9_ok : ∀ k, k < 0 → parseFieldDescriptor (TJ9 k).2.2.1 = some (tyJ9 k) := by decide +kernel
abbrev cJ9_max_7cf53 : ByteArray := prog_14_method_65_code
def yJ9_max_7cf53 : MethodName := ⟨RJ9, "max", "(II)I"⟩
abbrev cJ9_min_7cf53 : ByteArray := prog_14_method_69_code
def yJ9_min_7cf53 : MethodName := ⟨RJ9, "min", "(II)I"⟩
def RJ0 : String := "java/lang/String"
def TJ0 : u_T := fun k => match k with
  | _ => ("", "", "", false)
def tyJ0 : Nat → FieldType := fun k => match k with
  | _ => .int
abbrev wsJ00 : List Cond := u_ws RJ0 TJ0 0
theorem nmJ0 : ∀ a, a < 0 → ∀ b, b < 0 → a ≠ b → (TJ0 a).2.1 ≠ (TJ0 b).2.1 := by decide +kernel
theorem tyJ0_ok : ∀ k, k < 0 → parseFieldDescriptor (TJ0 k).2.2.1 = some (tyJ0 k) := by decide +kernel
abbrev cJ0_length_8abf5 : ByteArray := prog_15_method_54_code
def yJ0_length_8abf5 : MethodName := ⟨RJ0, "length", "()I"⟩
abbrev cJ0_charAt_5068e : ByteArray := prog_15_method_56_code
def yJ0_charAt_5068e : MethodName := ⟨RJ0, "charAt", "(I)C"⟩
abbrev cJ0_coder_7d493 : ByteArray := prog_15_method_152_code
def yJ0_coder_7d493 : MethodName := ⟨RJ0, "coder", "()B"⟩
abbrev cJ0_isLatin1_aae02 : ByteArray := prog_15_method_154_code
def yJ0_isLatin1_aae02 : MethodName := ⟨RJ0, "isLatin1", "()Z"⟩
abbrev cJ0_checkIndex_df160 : ByteArray := prog_15_method_155_code
def yJ0_checkIndex_df160 : MethodName := ⟨RJ0, "checkIndex", "(II)V"⟩
def RJ1 : String := "java/lang/StringLatin1"
def TJ1 : u_T := fun k => match k with
  | _ => ("", "", "", false)
def tyJ1 : Nat → FieldType := fun k => match k with
  | _ => .int
abbrev wsJ10 : List Cond := u_ws RJ1 TJ1 0
theorem nmJ1 : ∀ a, a < 0 → ∀ b, b < 0 → a ≠ b → (TJ1 a).2.1 ≠ (TJ1 b).2.1 := by decide +kernel
theorem tyJ1_ok : ∀ k, k < 0 → parseFieldDescriptor (TJ1 k).2.2.1 = some (tyJ1 k) := by decide +kernel
abbrev cJ1_charAt_3b067 : ByteArray := prog_16_method_2_code
def yJ1_charAt_3b067 : MethodName := ⟨RJ1, "charAt", "([BI)C"⟩
def RJ2 : String := "java/lang/StringUTF16"
def TJ2 : u_T := fun k => match k with
  | _ => ("", "", "", false)
def tyJ2 : Nat → FieldType := fun k => match k with
  | _ => .int
abbrev wsJ20 : List Cond := u_ws RJ2 TJ2 0
theorem nmJ2 : ∀ a, a < 0 → ∀ b, b < 0 → a ≠ b → (TJ2 a).2.1 ≠ (TJ2 b).2.1 := by decide +kernel
theorem tyJ2_ok : ∀ k, k < 0 → parseFieldDescriptor (TJ2 k).2.2.1 = some (tyJ2 k) := by decide +kernel
abbrev cJ2_getChar_3b067 : ByteArray := prog_17_method_5_code
def yJ2_getChar_3b067 : MethodName := ⟨RJ2, "getChar", "([BI)C"⟩
abbrev cJ2_length_9d52b : ByteArray := prog_17_method_6_code
def yJ2_length_9d52b : MethodName := ⟨RJ2, "length", "([B)I"⟩
abbrev cJ2_charAt_3b067 : ByteArray := prog_17_method_83_code
def yJ2_charAt_3b067 : MethodName := ⟨RJ2, "charAt", "([BI)C"⟩
abbrev cJ2_checkIndex_2214a : ByteArray := prog_17_method_91_code
def yJ2_checkIndex_2214a : MethodName := ⟨RJ2, "checkIndex", "(I[B)V"⟩
def RJ10 : String := "java/lang/System"
def TJ10 : u_T := fun k => match k with
  | _ => ("", "", "", false)
def tyJ10 : Nat → FieldType := fun k => match k with
  | _ => .int
abbrev wsJ100 : List Cond := u_ws RJ10 TJ10 0
theorem nmJ10 : ∀ a, a < 0 → ∀ b, b < 0 → a ≠ b → (TJ10 a).2.1 ≠ (TJ10 b).2.1 := by decide +kernel
theorem tyJ10_ok : ∀ k, k < 0 → parseFieldDescriptor (TJ10 k).2.2.1 = some (tyJ10 k) := by decide +kernel
def RJxfd54e : String := "java/lang/constant/Constable"
def TJxfd54e : u_T := fun k => match k with
  | _ => ("", "", "", false)
def tyJxfd54e : Nat → FieldType := fun k => match k with
  | _ => .int
abbrev wsJxfd54e0 : List Cond := u_ws RJxfd54e TJxfd54e 0
theorem nmJxfd54e : ∀ a, a < 0 → ∀ b, b < 0 → a ≠ b → (TJxfd54e a).2.1 ≠ (TJxfd54e b).2.1 := by decide +kernel
theorem tyJxfd54e_ok : ∀ k, k < 0 → parseFieldDescriptor (TJxfd54e k).2.2.1 = some (tyJxfd54e k) := by decide +kernel
def RJx3cf43 : String := "java/lang/constant/ConstantDesc"
def TJx3cf43 : u_T := fun k => match k with
  | _ => ("", "", "", false)
def tyJx3cf43 : Nat → FieldType := fun k => match k with
  | _ => .int
abbrev wsJx3cf430 : List Cond := u_ws RJx3cf43 TJx3cf43 0
theorem nmJx3cf43 : ∀ a, a < 0 → ∀ b, b < 0 → a ≠ b → (TJx3cf43 a).2.1 ≠ (TJx3cf43 b).2.1 := by decide +kernel
theorem tyJx3cf43_ok : ∀ k, k < 0 → parseFieldDescriptor (TJx3cf43 k).2.2.1 = some (tyJx3cf43 k) := by decide +kernel
def RJ7 : String := "java/util/Arrays"
def TJ7 : u_T := fun k => match k with
  | _ => ("", "", "", false)
def tyJ7 : Nat → FieldType := fun k => match k with
  | _ => .int
abbrev wsJ70 : List Cond := u_ws RJ7 TJ7 0
theorem nmJ7 : ∀ a, a < 0 → ∀ b, b < 0 → a ≠ b → (TJ7 a).2.1 ≠ (TJ7 b).2.1 := by decide +kernel
theorem tyJ7_ok : ∀ k, k < 0 → parseFieldDescriptor (TJ7 k).2.2.1 = some (tyJ7 k) := by decide +kernel
abbrev cJ7_fill_d0a16 : ByteArray := prog_19_method_101_code
def yJ7_fill_d0a16 : MethodName := ⟨RJ7, "fill", "([JJ)V"⟩
abbrev cJ7_fill_53178 : ByteArray := prog_19_method_103_code
def yJ7_fill_53178 : MethodName := ⟨RJ7, "fill", "([II)V"⟩
def RJ3 : String := "jdk/internal/util/Preconditions"
def TJ3 : u_T := fun k => match k with
  | _ => ("", "", "", false)
def tyJ3 : Nat → FieldType := fun k => match k with
  | _ => .int
abbrev wsJ30 : List Cond := u_ws RJ3 TJ3 0
theorem nmJ3 : ∀ a, a < 0 → ∀ b, b < 0 → a ≠ b → (TJ3 a).2.1 ≠ (TJ3 b).2.1 := by decide +kernel
theorem tyJ3_ok : ∀ k, k < 0 → parseFieldDescriptor (TJ3 k).2.2.1 = some (tyJ3 k) := by decide +kernel
abbrev cJ3_checkIndex_8e157 : ByteArray := prog_20_method_11_code
def yJ3_checkIndex_8e157 : MethodName := ⟨RJ3, "checkIndex", "(IILjava/util/function/BiFunction;)I"⟩
def RL : String := "SpokenClockLaw"
abbrev cL_law : ByteArray := code
def yL_law : MethodName := ⟨RL, "law", "([I)Z"⟩
def wsL_law_r1 : List Cond := [Cond.classLink RL 7 RX10, Cond.instantiable RX10 14, Cond.initialized RX10, Cond.classLink RL 10 RX11, Cond.instantiable RX11 31, Cond.initialized RX11, Cond.constantLong RL 40 (4294967295), Cond.methodLink RL 9 yX10_init, Cond.instanceMethod yX10_init, Cond.code yX10_init cX10_init 6 none, Cond.methodLink RX10 1 objectInit, Cond.instanceMethod objectInit, Cond.code objectInit ⟨#[0xb1]⟩ 1 none, Cond.classLink RX10 7 RX5, Cond.instantiable RX5 5, Cond.initialized RX5, Cond.fieldLink RX10 10 "SpokenClock" "quarrel" "LSpokenClock$Quarrel;", Cond.classLink RX10 16 RX2, Cond.instantiable RX2 3, Cond.initialized RX2, Cond.fieldLink RX10 19 "SpokenClock" "fraction" "LSpokenClock$Fraction;", Cond.classLink RX10 23 RX9, Cond.instantiable RX9 7, Cond.initialized RX9]
def wsL_law_r2 : List Cond := [Cond.fieldLink RX10 26 "SpokenClock" "firstImage" "LSpokenClock$State;", Cond.fieldLink RX10 30 "SpokenClock" "secondImage" "LSpokenClock$State;", Cond.arrayClass .boolean, Cond.fieldLink RX10 33 "SpokenClock" "kept" "[Z", Cond.arrayClass .int, Cond.fieldLink RX10 37 "SpokenClock" "refusals" "[I", Cond.classLink RX10 41 RX7, Cond.instantiable RX7 4, Cond.initialized RX7, Cond.classLink RX10 46 RX8, Cond.instantiable RX8 8, Cond.initialized RX8, Cond.classLink RX10 51 RX1, Cond.instantiable RX1 5, Cond.initialized RX1, Cond.classLink RX10 56 RX6, Cond.instantiable RX6 7, Cond.initialized RX6, Cond.fieldLink RX10 61 "SpokenClock" "reader" "LSpokenClock$Reader;", Cond.classLink RX10 65 RX4, Cond.instantiable RX4 5, Cond.initialized RX4, Cond.fieldLink RX10 68 "SpokenClock" "plan" "LSpokenClock$Plan;", Cond.classLink RX10 72 RX3]
def wsL_law_r3 : List Cond := [Cond.instantiable RX3 7, Cond.initialized RX3, Cond.fieldLink RX10 77 "SpokenClock" "guess" "LSpokenClock$Guess;", Cond.fieldLink RX10 81 "SpokenClock" "now" "LSpokenClock$State;", Cond.fieldLink RX10 84 "SpokenClock" "draft" "LSpokenClock$State;", Cond.fieldLink RX10 87 "SpokenClock" "text" "LSpokenClock$Rows;", Cond.fieldLink RX10 91 "SpokenClock" "rule" "LSpokenClock$Rule;", Cond.fieldLink RX10 95 "SpokenClock" "day" "LSpokenClock$Day;", Cond.instanceMethod yX5_init, Cond.code yX5_init cX5_init 1 none, Cond.methodLink RX5 3 objectInit, Cond.fieldLink RX5 11 "SpokenClock$Quarrel" "hers" "[I", Cond.fieldLink RX5 15 "SpokenClock$Quarrel" "his" "[I", Cond.fieldLink RX5 18 "SpokenClock$Quarrel" "talks" "[I", Cond.instanceMethod yX2_init, Cond.code yX2_init cX2_init 1 none, Cond.methodLink RX2 1 objectInit, Cond.classLink RX2 7 RX0, Cond.instantiable RX0 1, Cond.initialized RX0, Cond.fieldLink RX2 12 "SpokenClock$Fraction" "above" "LSpokenClock$Big;", Cond.fieldLink RX2 18 "SpokenClock$Fraction" "below" "LSpokenClock$Big;", Cond.fieldLink RX2 21 "SpokenClock$Fraction" "term" "LSpokenClock$Big;", Cond.methodLink RX2 9 yX0_init]
def wsL_law_r4 : List Cond := [Cond.instanceMethod yX0_init, Cond.code yX0_init cX0_init 2 none, Cond.methodLink RX0 5 objectInit, Cond.fieldLink RX0 11 "SpokenClock$Big" "limbs" "[I", Cond.instanceMethod yX9_init, Cond.code yX9_init cX9_init 1 none, Cond.methodLink RX9 3 objectInit, Cond.classLink RX9 9 RX7, Cond.fieldLink RX9 18 "SpokenClock$State" "people" "LSpokenClock$Rows;", Cond.fieldLink RX9 24 "SpokenClock$State" "talks" "LSpokenClock$Rows;", Cond.fieldLink RX9 27 "SpokenClock$State" "dues" "LSpokenClock$Rows;", Cond.fieldLink RX9 30 "SpokenClock$State" "sights" "LSpokenClock$Rows;", Cond.fieldLink RX9 33 "SpokenClock$State" "rule" "LSpokenClock$Rows;", Cond.fieldLink RX9 36 "SpokenClock$State" "settings" "[I", Cond.fieldLink RX9 39 "SpokenClock$State" "stake" "[I", Cond.methodLink RX9 15 yX7_init, Cond.instanceMethod yX7_init, Cond.code yX7_init cX7_init 3 none, Cond.methodLink RX7 3 objectInit, Cond.methodLink RX7 9 Lib.Math.max.name, Cond.static Lib.Math.max.name, Cond.initialized "java/lang/Math", Cond.code Lib.Math.max.name Lib.Math.max.code 2 (some .int), Cond.methodLink RX7 15 Lib.Math.min.name]
def wsL_law_r5 : List Cond := [Cond.static Lib.Math.min.name, Cond.code Lib.Math.min.name Lib.Math.min.code 2 (some .int), Cond.fieldLink RX7 18 "SpokenClock$Rows" "width" "I", Cond.fieldLink RX7 24 "SpokenClock$Rows" "limit" "I", Cond.fieldLink RX7 27 "SpokenClock$Rows" "cells" "[I", Cond.methodLink RX10 43 yX7_init, Cond.methodLink RX10 48 yX8_init, Cond.instanceMethod yX8_init, Cond.code yX8_init cX8_init 2 none, Cond.methodLink RX8 3 objectInit, Cond.fieldLink RX8 11 "SpokenClock$Rule" "row" "[I", Cond.arrayClass .long, Cond.fieldLink RX8 15 "SpokenClock$Rule" "stack" "[J", Cond.fieldLink RX8 19 "SpokenClock$Rule" "known" "[I", Cond.fieldLink RX8 22 "SpokenClock$Rule" "isStale" "Z", Cond.fieldLink RX8 26 "SpokenClock$Rule" "state" "LSpokenClock$State;", Cond.methodLink RX10 53 yX1_init, Cond.instanceMethod yX1_init, Cond.code yX1_init cX1_init 3 none, Cond.methodLink RX1 3 objectInit, Cond.fieldLink RX1 9 "SpokenClock$Day" "talkers" "[I", Cond.classLink RX1 15 "[[I", Cond.fieldLink RX1 17 "SpokenClock$Day" "clocks" "[[I", Cond.fieldLink RX1 20 "SpokenClock$Day" "isStale" "Z"]
def wsL_law_r6 : List Cond := [Cond.fieldLink RX1 24 "SpokenClock$Day" "state" "LSpokenClock$State;", Cond.fieldLink RX1 28 "SpokenClock$Day" "rule" "LSpokenClock$Rule;", Cond.methodLink RX10 58 yX6_init, Cond.instanceMethod yX6_init, Cond.code yX6_init cX6_init 3 none, Cond.methodLink RX6 3 objectInit, Cond.fieldLink RX6 9 "SpokenClock$Reader" "numbers" "[I", Cond.fieldLink RX6 15 "SpokenClock$Reader" "text" "LSpokenClock$Rows;", Cond.fieldLink RX6 19 "SpokenClock$Reader" "state" "LSpokenClock$State;", Cond.methodLink RX10 67 yX4_init, Cond.instanceMethod yX4_init, Cond.code yX4_init cX4_init 2 none, Cond.methodLink RX4 3 objectInit, Cond.fieldLink RX4 11 "SpokenClock$Plan" "most" "[I", Cond.fieldLink RX4 15 "SpokenClock$Plan" "steps" "[J", Cond.fieldLink RX4 19 "SpokenClock$Plan" "isStale" "Z", Cond.fieldLink RX4 23 "SpokenClock$Plan" "state" "LSpokenClock$State;", Cond.methodLink RX10 74 yX3_init, Cond.instanceMethod yX3_init, Cond.code yX3_init cX3_init 3 none, Cond.methodLink RX3 3 objectInit, Cond.fieldLink RX3 9 "SpokenClock$Guess" "seen" "[I", Cond.fieldLink RX3 15 "SpokenClock$Guess" "isStale" "Z", Cond.fieldLink RX3 19 "SpokenClock$Guess" "state" "LSpokenClock$State;"]
def wsL_law_r7 : List Cond := [Cond.fieldLink RX3 23 "SpokenClock$Guess" "day" "LSpokenClock$Day;", Cond.methodLink RL 12 yX11_init, Cond.instanceMethod yX11_init, Cond.code yX11_init cX11_init 1 none, Cond.methodLink RX11 1 objectInit, Cond.fieldLink RX11 7 "SpokenClockModel" "now" "[I", Cond.fieldLink RX11 13 "SpokenClockModel" "images" "[I", Cond.fieldLink RX11 16 "SpokenClockModel" "kept" "[Z", Cond.fieldLink RX11 20 "SpokenClockModel" "text" "[I", Cond.fieldLink RX11 23 "SpokenClockModel" "manyBelow" "I", Cond.fieldLink RX11 27 "SpokenClockModel" "above" "[I", Cond.fieldLink RX11 30 "SpokenClockModel" "below" "[I", Cond.fieldLink RX11 33 "SpokenClockModel" "refused" "[I", Cond.fieldLink RX11 36 "SpokenClockModel" "read" "[I", Cond.fieldLink RX11 39 "SpokenClockModel" "act" "[I", Cond.fieldLink RX11 42 "SpokenClockModel" "wait" "[I", Cond.fieldLink RX11 45 "SpokenClockModel" "held" "[Z", Cond.fieldLink RX11 48 "SpokenClockModel" "heap" "[J", Cond.fieldLink RX11 52 "SpokenClockModel" "clocks" "[I", Cond.fieldLink RX11 55 "SpokenClockModel" "counts" "[I", Cond.fieldLink RX11 58 "SpokenClockModel" "talking" "[Z", Cond.fieldLink RX11 61 "SpokenClockModel" "most" "[I", Cond.fieldLink RX11 64 "SpokenClockModel" "hasA" "[I", Cond.fieldLink RX11 67 "SpokenClockModel" "hasB" "[I"]
def wsL_law_r8 : List Cond := [Cond.fieldLink RX11 70 "SpokenClockModel" "talks" "[Z", Cond.fieldLink RX11 73 "SpokenClockModel" "big" "[J", Cond.methodLink RL 13 yX10_put, Cond.instanceMethod yX10_put, Cond.selects RX10 yX10_put yX10_put, Cond.code yX10_put cX10_put 4 (some .int), Cond.fieldLink RX10 107 "SpokenClock$State" "settings" "[I", Cond.methodLink RX10 99 yX9_isAsTold, Cond.instanceMethod yX9_isAsTold, Cond.selects RX9 yX9_isAsTold yX9_isAsTold, Cond.code yX9_isAsTold cX9_isAsTold 6 (some .boolean), Cond.methodLink RX9 48 yX7_size, Cond.instanceMethod yX7_size, Cond.selects RX7 yX7_size yX7_size, Cond.code yX7_size cX7_size 1 (some .int), Cond.fieldLink RX7 31 "SpokenClock$Rows" "size" "I", Cond.methodLink RX10 103 yX10_refuse, Cond.instanceMethod yX10_refuse, Cond.selects RX10 yX10_refuse yX10_refuse, Cond.code yX10_refuse cX10_refuse 3 (some .int), Cond.methodLink RX10 160 yX10_isIn, Cond.static yX10_isIn, Cond.code yX10_isIn cX10_isIn 3 (some .boolean), Cond.methodLink RX10 110 yX10_changed]
def wsL_law_r9 : List Cond := [Cond.instanceMethod yX10_changed, Cond.selects RX10 yX10_changed yX10_changed, Cond.code yX10_changed cX10_changed 1 none, Cond.methodLink RX10 244 yX8_spoil, Cond.instanceMethod yX8_spoil, Cond.selects RX8 yX8_spoil yX8_spoil, Cond.code yX8_spoil cX8_spoil 1 none, Cond.methodLink RX10 247 yX1_spoil, Cond.instanceMethod yX1_spoil, Cond.selects RX1 yX1_spoil yX1_spoil, Cond.code yX1_spoil cX1_spoil 1 none, Cond.methodLink RX10 248 yX4_spoil, Cond.instanceMethod yX4_spoil, Cond.selects RX4 yX4_spoil yX4_spoil, Cond.code yX4_spoil cX4_spoil 1 none, Cond.methodLink RX10 249 yX3_spoil, Cond.instanceMethod yX3_spoil, Cond.selects RX3 yX3_spoil yX3_spoil, Cond.code yX3_spoil cX3_spoil 1 none, Cond.methodLink RL 17 yX11_put, Cond.instanceMethod yX11_put, Cond.selects RX11 yX11_put yX11_put, Cond.code yX11_put cX11_put 4 (some .int), Cond.methodLink RX11 84 yX11_isPut]
def wsL_law_r10 : List Cond := [Cond.static yX11_isPut, Cond.code yX11_isPut cX11_isPut 2 (some .boolean), Cond.constantLong RX11 76 (4), Cond.constantLong RX11 82 (240), Cond.methodLink RX11 78 yX11_in, Cond.static yX11_in, Cond.code yX11_in cX11_in 6 (some .boolean), Cond.methodLink RX11 88 yX11_refuse, Cond.instanceMethod yX11_refuse, Cond.selects RX11 yX11_refuse yX11_refuse, Cond.code yX11_refuse cX11_refuse 2 (some .int), Cond.methodLink RL 18 yX10_person, Cond.instanceMethod yX10_person, Cond.selects RX10 yX10_person yX10_person, Cond.code yX10_person cX10_person 3 (some .int), Cond.methodLink RX10 113 yX10_enter, Cond.instanceMethod yX10_enter, Cond.selects RX10 yX10_enter yX10_enter, Cond.code yX10_enter cX10_enter 6 (some .int), Cond.fieldLink RX10 251 "SpokenClock" "WIDTHS" "[I", Cond.methodLink RX10 117 yX9_rowsOf, Cond.instanceMethod yX9_rowsOf, Cond.selects RX9 yX9_rowsOf yX9_rowsOf, Cond.code yX9_rowsOf cX9_rowsOf 2 (some (.object "SpokenClock$Rows"))]
def wsL_law_r11 : List Cond := [Cond.methodLink RX10 146 yX7_isFull, Cond.instanceMethod yX7_isFull, Cond.selects RX7 yX7_isFull yX7_isFull, Cond.code yX7_isFull cX7_isFull 1 (some .boolean), Cond.methodLink RX10 131 yX7_add, Cond.instanceMethod yX7_add, Cond.selects RX7 yX7_add yX7_add, Cond.code yX7_add cX7_add 5 (some .int), Cond.methodLink RX7 34 yX7_isFull, Cond.methodLink RL 21 yX11_person, Cond.instanceMethod yX11_person, Cond.selects RX11 yX11_person yX11_person, Cond.code yX11_person cX11_person 4 (some .int), Cond.constantLong RX11 92 (5), Cond.methodLink RL 22 yX10_talk, Cond.instanceMethod yX10_talk, Cond.selects RX10 yX10_talk yX10_talk, Cond.code yX10_talk cX10_talk 4 (some .int), Cond.methodLink RL 26 yX11_talk, Cond.instanceMethod yX11_talk, Cond.selects RX11 yX11_talk yX11_talk, Cond.code yX11_talk cX11_talk 5 (some .int), Cond.methodLink RL 27 yX10_due, Cond.instanceMethod yX10_due]
def wsL_law_r12 : List Cond := [Cond.selects RX10 yX10_due yX10_due, Cond.code yX10_due cX10_due 4 (some .int), Cond.methodLink RL 30 yX11_due, Cond.instanceMethod yX11_due, Cond.selects RX11 yX11_due yX11_due, Cond.code yX11_due cX11_due 5 (some .int), Cond.constantLong RX11 94 (99), Cond.constantLong RX11 96 (-99), Cond.methodLink RL 31 yX10_sight, Cond.instanceMethod yX10_sight, Cond.selects RX10 yX10_sight yX10_sight, Cond.code yX10_sight cX10_sight 3 (some .int), Cond.methodLink RL 34 yX11_sight, Cond.instanceMethod yX11_sight, Cond.selects RX11 yX11_sight yX11_sight, Cond.code yX11_sight cX11_sight 4 (some .int), Cond.constantLong RX11 98 (999), Cond.methodLink RL 35 yX10_clears, Cond.instanceMethod yX10_clears, Cond.selects RX10 yX10_clears yX10_clears, Cond.code yX10_clears cX10_clears 2 (some .int), Cond.methodLink RX10 121 yX7_clear, Cond.instanceMethod yX7_clear, Cond.selects RX7 yX7_clear yX7_clear]
def wsL_law_r13 : List Cond := [Cond.code yX7_clear cX7_clear 2 (some .int), Cond.methodLink RL 39 yX11_clears, Cond.instanceMethod yX11_clears, Cond.selects RX11 yX11_clears yX11_clears, Cond.code yX11_clears cX11_clears 3 (some .int), Cond.constantLong RX11 100 (2), Cond.methodLink RL 42 yX10_type, Cond.instanceMethod yX10_type, Cond.selects RX10 yX10_type yX10_type, Cond.code yX10_type cX10_type 5 (some .int), Cond.methodLink RX10 125 yX7_size, Cond.methodLink RX10 128 yX7_limit, Cond.instanceMethod yX7_limit, Cond.selects RX7 yX7_limit yX7_limit, Cond.code yX7_limit cX7_limit 1 (some .int), Cond.methodLink RL 46 yX11_type, Cond.instanceMethod yX11_type, Cond.selects RX11 yX11_type yX11_type, Cond.code yX11_type cX11_type 5 (some .int), Cond.constantLong RX11 102 (8), Cond.fieldLink RX11 104 "SpokenClockModel" "size" "I", Cond.constantLong RX11 107 (255), Cond.methodLink RL 47 yX10_wipe, Cond.instanceMethod yX10_wipe]
def wsL_law_r14 : List Cond := [Cond.selects RX10 yX10_wipe yX10_wipe, Cond.code yX10_wipe cX10_wipe 1 (some .int), Cond.methodLink RL 51 yX11_wipe, Cond.instanceMethod yX11_wipe, Cond.selects RX11 yX11_wipe yX11_wipe, Cond.code yX11_wipe cX11_wipe 2 (some .int), Cond.methodLink RL 52 yX10_read, Cond.instanceMethod yX10_read, Cond.selects RX10 yX10_read yX10_read, Cond.code yX10_read cX10_read 2 (some .int), Cond.methodLink RX10 135 yX9_copy, Cond.instanceMethod yX9_copy, Cond.selects RX9 yX9_copy yX9_copy, Cond.code yX9_copy cX9_copy 2 none, Cond.methodLink RX9 59 arraycopyName, Cond.native arraycopyName, Cond.static arraycopyName, Cond.initialized "java/lang/System", Cond.methodLink RX9 55 yX7_copy, Cond.instanceMethod yX7_copy, Cond.selects RX7 yX7_copy yX7_copy, Cond.code yX7_copy cX7_copy 2 none, Cond.methodLink RX7 38 arraycopyName, Cond.methodLink RX10 138 yX9_forget]
def wsL_law_r15 : List Cond := [Cond.instanceMethod yX9_forget, Cond.selects RX9 yX9_forget yX9_forget, Cond.code yX9_forget cX9_forget 1 none, Cond.methodLink RX9 52 yX7_clear, Cond.methodLink RX10 141 yX6_readItems, Cond.instanceMethod yX6_readItems, Cond.selects RX6 yX6_readItems yX6_readItems, Cond.code yX6_readItems cX6_readItems 2 (some .int), Cond.fieldLink RX6 23 "SpokenClock$Reader" "place" "I", Cond.fieldLink RX6 30 "SpokenClock$Reader" "token" "I", Cond.fieldLink RX6 43 "SpokenClock$Reader" "first" "I", Cond.methodLink RX6 27 yX6_advance, Cond.instanceMethod yX6_advance, Cond.selects RX6 yX6_advance yX6_advance, Cond.code yX6_advance cX6_advance 2 none, Cond.methodLink RX6 79 yX7_size, Cond.methodLink RX6 82 yX7_at, Cond.instanceMethod yX7_at, Cond.selects RX7 yX7_at yX7_at, Cond.code yX7_at cX7_at 3 (some .int), Cond.methodLink RX6 86 yX6_isLetter, Cond.static yX6_isLetter, Cond.code yX6_isLetter cX6_isLetter 1 (some .boolean), Cond.methodLink RX6 90 yX6_passWord]
def wsL_law_r16 : List Cond := [Cond.instanceMethod yX6_passWord, Cond.selects RX6 yX6_passWord yX6_passWord, Cond.code yX6_passWord cX6_passWord 1 none, Cond.methodLink RX6 93 yX6_isFigure, Cond.static yX6_isFigure, Cond.code yX6_isFigure cX6_isFigure 1 (some .boolean), Cond.methodLink RX6 96 yX6_passFigures, Cond.instanceMethod yX6_passFigures, Cond.selects RX6 yX6_passFigures yX6_passFigures, Cond.code yX6_passFigures cX6_passFigures 1 none, Cond.fieldLink RX6 61 "SpokenClock$Reader" "number" "I", Cond.methodLink RX6 33 yX7_limit, Cond.methodLink RX6 39 yX6_isItem, Cond.instanceMethod yX6_isItem, Cond.selects RX6 yX6_isItem yX6_isItem, Cond.code yX6_isItem cX6_isItem 5 (some .boolean), Cond.methodLink RX6 46 yX6_itemAtHand, Cond.instanceMethod yX6_itemAtHand, Cond.selects RX6 yX6_itemAtHand yX6_itemAtHand, Cond.code yX6_itemAtHand cX6_itemAtHand 2 (some .int), Cond.methodLink RX6 99 yX6_wordOf, Cond.static yX6_wordOf, Cond.code yX6_wordOf cX6_wordOf 1 (some (.object "java/lang/String")), Cond.methodLink RX6 103 yX6_isAtHand]
def wsL_law_r17 : List Cond := [Cond.instanceMethod yX6_isAtHand, Cond.selects RX6 yX6_isAtHand yX6_isAtHand, Cond.code yX6_isAtHand cX6_isAtHand 3 (some .boolean), Cond.methodLink RX6 107 yJ0_length_8abf5, Cond.instanceMethod yJ0_length_8abf5, Cond.selects RJ0 yJ0_length_8abf5 yJ0_length_8abf5, Cond.initialized RJ0, Cond.code yJ0_length_8abf5 cJ0_length_8abf5 1 (some .int), Cond.fieldLink RJ0 9 "java/lang/String" "value" "[B", Cond.methodLink RJ0 335 yJ0_coder_7d493, Cond.instanceMethod yJ0_coder_7d493, Cond.selects RJ0 yJ0_coder_7d493 yJ0_coder_7d493, Cond.code yJ0_coder_7d493 cJ0_coder_7d493 1 (some .byte), Cond.fieldLink RJ0 38 "java/lang/String" "COMPACT_STRINGS" "Z", Cond.fieldLink RJ0 15 "java/lang/String" "coder" "B", Cond.methodLink RX6 112 yJ0_charAt_5068e, Cond.instanceMethod yJ0_charAt_5068e, Cond.selects RJ0 yJ0_charAt_5068e yJ0_charAt_5068e, Cond.code yJ0_charAt_5068e cJ0_charAt_5068e 2 (some .char), Cond.methodLink RJ0 492 yJ0_isLatin1_aae02, Cond.instanceMethod yJ0_isLatin1_aae02, Cond.selects RJ0 yJ0_isLatin1_aae02 yJ0_isLatin1_aae02, Cond.code yJ0_isLatin1_aae02 cJ0_isLatin1_aae02 1 (some .boolean), Cond.methodLink RJ0 495 yJ1_charAt_3b067]
def wsL_law_r18 : List Cond := [Cond.static yJ1_charAt_3b067, Cond.initialized RJ1, Cond.code yJ1_charAt_3b067 cJ1_charAt_3b067 2 (some .char), Cond.methodLink RJ1 9 yJ0_checkIndex_df160, Cond.static yJ0_checkIndex_df160, Cond.code yJ0_checkIndex_df160 cJ0_checkIndex_df160 2 none, Cond.fieldLink RJ0 1053 "jdk/internal/util/Preconditions" "SIOOBE_FORMATTER" "Ljava/util/function/BiFunction;", Cond.methodLink RJ0 1059 yJ3_checkIndex_8e157, Cond.static yJ3_checkIndex_8e157, Cond.initialized RJ3, Cond.code yJ3_checkIndex_8e157 cJ3_checkIndex_8e157 3 (some .int), Cond.methodLink RJ0 498 yJ2_charAt_3b067, Cond.static yJ2_charAt_3b067, Cond.initialized RJ2, Cond.code yJ2_charAt_3b067 cJ2_charAt_3b067 2 (some .char), Cond.methodLink RJ2 67 yJ2_checkIndex_2214a, Cond.static yJ2_checkIndex_2214a, Cond.code yJ2_checkIndex_2214a cJ2_checkIndex_2214a 2 none, Cond.methodLink RJ2 48 yJ2_length_9d52b, Cond.static yJ2_length_9d52b, Cond.code yJ2_length_9d52b cJ2_length_9d52b 1 (some .int), Cond.methodLink RJ2 414 yJ0_checkIndex_df160, Cond.methodLink RJ2 71 yJ2_getChar_3b067, Cond.static yJ2_getChar_3b067]
def wsL_law_r19 : List Cond := [Cond.code yJ2_getChar_3b067 cJ2_getChar_3b067 2 (some .char), Cond.fieldLink RJ2 44 "java/lang/StringUTF16" "$assertionsDisabled" "Z", Cond.fieldLink RJ2 59 "java/lang/StringUTF16" "HI_BYTE_SHIFT" "I", Cond.fieldLink RJ2 63 "java/lang/StringUTF16" "LO_BYTE_SHIFT" "I", Cond.methodLink RX6 49 yX9_rowsOf, Cond.methodLink RX6 55 yX7_isFull, Cond.methodLink RX6 64 yX9_isAsTold, Cond.methodLink RX6 68 yX6_keep, Cond.instanceMethod yX6_keep, Cond.selects RX6 yX6_keep yX6_keep, Cond.code yX6_keep cX6_keep 2 none, Cond.fieldLink RX6 72 "SpokenClock$State" "settings" "[I", Cond.methodLink RX6 75 yX7_add, Cond.methodLink RL 55 yX11_read, Cond.instanceMethod yX11_read, Cond.selects RX11 yX11_read yX11_read, Cond.code yX11_read cX11_read 3 (some .int), Cond.fieldLink RX11 120 "SpokenClockModel" "begin" "I", Cond.methodLink RX11 186 yX11_takesAll, Cond.instanceMethod yX11_takesAll, Cond.selects RX11 yX11_takesAll yX11_takesAll, Cond.code yX11_takesAll cX11_takesAll 3 (some .int), Cond.fieldLink RX11 117 "SpokenClockModel" "at" "I", Cond.fieldLink RX11 134 "SpokenClockModel" "kind" "I"]
def wsL_law_r20 : List Cond := [Cond.fieldLink RX11 123 "SpokenClockModel" "value" "J", Cond.constantLong RX11 157 (198260), Cond.constantLong RX11 162 (20429043), Cond.constantLong RX11 164 (2212), Cond.constantLong RX11 166 (542723566), Cond.constantLong RX11 171 (656779), Cond.constantLong RX11 176 (4773), Cond.constantLong RX11 181 (20225300), Cond.methodLink RX11 147 yX11_next, Cond.instanceMethod yX11_next, Cond.selects RX11 yX11_next yX11_next, Cond.code yX11_next cX11_next 2 none, Cond.constantLong RX11 137 (32), Cond.constantLong RX11 139 (96), Cond.constantLong RX11 141 (-1), Cond.constantLong RX11 143 (10), Cond.constantLong RX11 113 (48), Cond.constantLong RX11 145 (100000), Cond.methodLink RX11 127 yX11_isLetter, Cond.static yX11_isLetter, Cond.code yX11_isLetter cX11_isLetter 1 (some .boolean), Cond.constantLong RX11 109 (97), Cond.constantLong RX11 111 (122), Cond.methodLink RX11 131 yX11_isFigure]
def wsL_law_r21 : List Cond := [Cond.static yX11_isFigure, Cond.code yX11_isFigure cX11_isFigure 1 (some .boolean), Cond.constantLong RX11 115 (57), Cond.methodLink RX11 159 yX11_takesPut, Cond.instanceMethod yX11_takesPut, Cond.selects RX11 yX11_takesPut yX11_takesPut, Cond.code yX11_takesPut cX11_takesPut 2 (some .boolean), Cond.methodLink RX11 150 yX11_takes, Cond.instanceMethod yX11_takes, Cond.selects RX11 yX11_takes yX11_takes, Cond.code yX11_takes cX11_takes 3 (some .boolean), Cond.methodLink RX11 153 yX11_stops, Cond.instanceMethod yX11_stops, Cond.selects RX11 yX11_stops yX11_stops, Cond.code yX11_stops cX11_stops 1 (some .boolean), Cond.methodLink RX11 168 yX11_takesPerson, Cond.instanceMethod yX11_takesPerson, Cond.selects RX11 yX11_takesPerson yX11_takesPerson, Cond.code yX11_takesPerson cX11_takesPerson 2 (some .boolean), Cond.methodLink RX11 173 yX11_takesTalk, Cond.instanceMethod yX11_takesTalk, Cond.selects RX11 yX11_takesTalk yX11_takesTalk, Cond.code yX11_takesTalk cX11_takesTalk 2 (some .boolean), Cond.methodLink RX11 178 yX11_takesDue]
def wsL_law_r22 : List Cond := [Cond.instanceMethod yX11_takesDue, Cond.selects RX11 yX11_takesDue yX11_takesDue, Cond.code yX11_takesDue cX11_takesDue 3 (some .boolean), Cond.methodLink RX11 183 yX11_takesSight, Cond.instanceMethod yX11_takesSight, Cond.selects RX11 yX11_takesSight yX11_takesSight, Cond.code yX11_takesSight cX11_takesSight 2 (some .boolean), Cond.methodLink RL 56 yX10_write, Cond.instanceMethod yX10_write, Cond.selects RX10 yX10_write yX10_write, Cond.code yX10_write cX10_write 2 (some .int), Cond.fieldLink RX10 144 "SpokenClock$State" "rule" "LSpokenClock$Rows;", Cond.methodLink RL 59 yX11_write, Cond.instanceMethod yX11_write, Cond.selects RX11 yX11_write yX11_write, Cond.code yX11_write cX11_write 2 (some .int), Cond.constantLong RX11 190 (127), Cond.methodLink RL 60 yX10_erase, Cond.instanceMethod yX10_erase, Cond.selects RX10 yX10_erase yX10_erase, Cond.code yX10_erase cX10_erase 1 (some .int), Cond.methodLink RL 63 yX11_erase, Cond.instanceMethod yX11_erase, Cond.selects RX11 yX11_erase yX11_erase]
def wsL_law_r23 : List Cond := [Cond.code yX11_erase cX11_erase 2 (some .int), Cond.methodLink RL 64 yX10_fault, Cond.instanceMethod yX10_fault, Cond.selects RX10 yX10_fault yX10_fault, Cond.code yX10_fault cX10_fault 1 (some .int), Cond.methodLink RX10 150 yX8_refresh, Cond.instanceMethod yX8_refresh, Cond.selects RX8 yX8_refresh yX8_refresh, Cond.code yX8_refresh cX8_refresh 1 none, Cond.fieldLink RX8 30 "SpokenClock$Rule" "size" "I", Cond.fieldLink RX8 34 "SpokenClock$Rule" "place" "I", Cond.fieldLink RX8 37 "SpokenClock$Rule" "fault" "I", Cond.methodLink RX8 40 yX8_parseLevel, Cond.instanceMethod yX8_parseLevel, Cond.selects RX8 yX8_parseLevel yX8_parseLevel, Cond.code yX8_parseLevel cX8_parseLevel 6 none, Cond.methodLink RX8 60 yX8_parseUnit, Cond.instanceMethod yX8_parseUnit, Cond.selects RX8 yX8_parseUnit yX8_parseUnit, Cond.methodLink RX8 44 yX8_ahead, Cond.instanceMethod yX8_ahead, Cond.selects RX8 yX8_ahead yX8_ahead, Cond.code yX8_ahead cX8_ahead 1 (some .int), Cond.fieldLink RX8 71 "SpokenClock$State" "rule" "LSpokenClock$Rows;"]
def wsL_law_r24 : List Cond := [Cond.methodLink RX8 75 yX7_size, Cond.methodLink RX8 86 yX7_at, Cond.methodLink RX8 64 yX8_rankOf, Cond.static yX8_rankOf, Cond.code yX8_rankOf cX8_rankOf 1 (some .int), Cond.methodLink RX8 68 yX8_emit, Cond.instanceMethod yX8_emit, Cond.selects RX8 yX8_emit yX8_emit, Cond.code yX8_emit cX8_emit 2 none, Cond.code yX8_parseOperand cX8_parseOperand 3 none, Cond.methodLink RX8 90 yX8_isDigit, Cond.static yX8_isDigit, Cond.code yX8_isDigit cX8_isDigit 1 (some .boolean), Cond.methodLink RX8 93 yX8_parseNumber, Cond.instanceMethod yX8_parseNumber, Cond.selects RX8 yX8_parseNumber yX8_parseNumber, Cond.code yX8_parseNumber cX8_parseNumber 3 none, Cond.methodLink RX8 48 yX8_stop, Cond.instanceMethod yX8_stop, Cond.selects RX8 yX8_stop yX8_stop, Cond.code yX8_stop cX8_stop 3 none, Cond.methodLink RX8 96 yX8_nameOf, Cond.static yX8_nameOf, Cond.code yX8_nameOf cX8_nameOf 1 (some .int)]
def wsL_law_r25 : List Cond := [Cond.code yX8_parseUnit cX8_parseUnit 6 none, Cond.methodLink RX8 79 yX8_isPrefix, Cond.static yX8_isPrefix, Cond.code yX8_isPrefix cX8_isPrefix 1 (some .boolean), Cond.methodLink RX8 83 yX8_parseOperand, Cond.instanceMethod yX8_parseOperand, Cond.selects RX8 yX8_parseOperand yX8_parseOperand, Cond.methodLink RX10 153 yX8_firstFault, Cond.instanceMethod yX8_firstFault, Cond.selects RX8 yX8_firstFault yX8_firstFault, Cond.code yX8_firstFault cX8_firstFault 1 (some .int), Cond.methodLink RL 67 yX11_fault, Cond.instanceMethod yX11_fault, Cond.selects RX11 yX11_fault yX11_fault, Cond.code yX11_fault cX11_fault 1 (some .int), Cond.methodLink RX11 217 yX11_compile, Cond.instanceMethod yX11_compile, Cond.selects RX11 yX11_compile yX11_compile, Cond.code yX11_compile cX11_compile 5 (some .int), Cond.fieldLink RX11 198 "SpokenClockModel" "acts" "I", Cond.fieldLink RX11 192 "SpokenClockModel" "waits" "I", Cond.fieldLink RX11 201 "SpokenClockModel" "place" "I", Cond.methodLink RX11 210 yX11_takesUnit, Cond.instanceMethod yX11_takesUnit]
def wsL_law_r26 : List Cond := [Cond.selects RX11 yX11_takesUnit yX11_takesUnit, Cond.code yX11_takesUnit cX11_takesUnit 5 (some .int), Cond.methodLink RX11 204 yX11_here, Cond.instanceMethod yX11_here, Cond.selects RX11 yX11_here yX11_here, Cond.code yX11_here cX11_here 1 (some .int), Cond.methodLink RX11 207 yX11_isName, Cond.static yX11_isName, Cond.code yX11_isName cX11_isName 1 (some .boolean), Cond.methodLink RX11 213 yX11_does, Cond.instanceMethod yX11_does, Cond.selects RX11 yX11_does yX11_does, Cond.code yX11_does cX11_does 2 none, Cond.methodLink RX11 195 yX11_holds, Cond.static yX11_holds, Cond.code yX11_holds cX11_holds 1 (some .int), Cond.methodLink RL 68 yX10_clock, Cond.instanceMethod yX10_clock, Cond.selects RX10 yX10_clock yX10_clock, Cond.code yX10_clock cX10_clock 3 (some .int), Cond.methodLink RX10 156 yX10_isValley, Cond.static yX10_isValley, Cond.code yX10_isValley cX10_isValley 1 (some .boolean), Cond.methodLink RX10 164 yX10_prepare]
def wsL_law_r27 : List Cond := [Cond.instanceMethod yX10_prepare, Cond.selects RX10 yX10_prepare yX10_prepare, Cond.code yX10_prepare cX10_prepare 1 none, Cond.methodLink RX10 250 yX1_refresh, Cond.instanceMethod yX1_refresh, Cond.selects RX1 yX1_refresh yX1_refresh, Cond.code yX1_refresh cX1_refresh 6 none, Cond.fieldLink RX1 44 "SpokenClock$State" "people" "LSpokenClock$Rows;", Cond.fieldLink RX1 84 "SpokenClock$State" "settings" "[I", Cond.methodLink RX1 87 Lib.Math.min.name, Cond.methodLink RX1 81 yX1_fillTalkers, Cond.instanceMethod yX1_fillTalkers, Cond.selects RX1 yX1_fillTalkers yX1_fillTalkers, Cond.code yX1_fillTalkers cX1_fillTalkers 5 none, Cond.fieldLink RX1 71 "SpokenClock$State" "talks" "LSpokenClock$Rows;", Cond.methodLink RX1 98 Lib.Math.max.name, Cond.methodLink RX1 92 yJ7_fill_53178, Cond.static yJ7_fill_53178, Cond.initialized RJ7, Cond.code yJ7_fill_53178 cJ7_fill_53178 4 none, Cond.methodLink RX1 67 yX7_size, Cond.methodLink RX1 50 yX7_at, Cond.methodLink RX1 59 yX1_together, Cond.instanceMethod yX1_together]
def wsL_law_r28 : List Cond := [Cond.selects RX1 yX1_together yX1_together, Cond.code yX1_together cX1_together 8 (some .int), Cond.methodLink RX1 40 yX1_isTalking, Cond.instanceMethod yX1_isTalking, Cond.selects RX1 yX1_isTalking yX1_isTalking, Cond.code yX1_isTalking cX1_isTalking 3 (some .boolean), Cond.methodLink RX1 63 yX1_voiceOf, Cond.instanceMethod yX1_voiceOf, Cond.selects RX1 yX1_voiceOf yX1_voiceOf, Cond.code yX1_voiceOf cX1_voiceOf 6 (some .int), Cond.methodLink RX1 101 yX8_holds, Cond.instanceMethod yX8_holds, Cond.selects RX8 yX8_holds yX8_holds, Cond.code yX8_holds cX8_holds 5 (some .boolean), Cond.fieldLink RX8 51 "SpokenClock$State" "settings" "[I", Cond.methodLink RX8 56 yX8_worked, Cond.instanceMethod yX8_worked, Cond.selects RX8 yX8_worked yX8_worked, Cond.code yX8_worked cX8_worked 4 (some .long), Cond.methodLink RX8 99 yX8_joined, Cond.static yX8_joined, Cond.code yX8_joined cX8_joined 5 (some .long), Cond.methodLink RX10 167 yX1_clockAt, Cond.instanceMethod yX1_clockAt]
def wsL_law_r29 : List Cond := [Cond.selects RX1 yX1_clockAt yX1_clockAt, Cond.code yX1_clockAt cX1_clockAt 3 (some .int), Cond.methodLink RL 71 yX11_clock, Cond.instanceMethod yX11_clock, Cond.selects RX11 yX11_clock yX11_clock, Cond.code yX11_clock cX11_clock 3 (some .int), Cond.methodLink RX11 232 yX11_winds, Cond.instanceMethod yX11_winds, Cond.selects RX11 yX11_winds yX11_winds, Cond.code yX11_winds cX11_winds 8 none, Cond.methodLink RX11 228 yX11_worth, Cond.instanceMethod yX11_worth, Cond.selects RX11 yX11_worth yX11_worth, Cond.code yX11_worth cX11_worth 6 (some .int), Cond.methodLink RX11 224 yX11_tells, Cond.instanceMethod yX11_tells, Cond.selects RX11 yX11_tells yX11_tells, Cond.code yX11_tells cX11_tells 8 (some .long), Cond.methodLink RX11 220 yX11_worked, Cond.static yX11_worked, Cond.code yX11_worked cX11_worked 5 (some .long), Cond.methodLink RL 72 yX10_counts, Cond.instanceMethod yX10_counts, Cond.selects RX10 yX10_counts yX10_counts]
def wsL_law_r30 : List Cond := [Cond.code yX10_counts cX10_counts 3 (some .int), Cond.fieldLink RX10 171 "SpokenClock$State" "people" "LSpokenClock$Rows;", Cond.methodLink RX10 174 yX1_countedOf, Cond.instanceMethod yX1_countedOf, Cond.selects RX1 yX1_countedOf yX1_countedOf, Cond.code yX1_countedOf cX1_countedOf 6 (some .int), Cond.methodLink RX1 56 yX1_clockAt, Cond.methodLink RL 75 yX11_counts, Cond.instanceMethod yX11_counts, Cond.selects RX11 yX11_counts yX11_counts, Cond.code yX11_counts cX11_counts 3 (some .int), Cond.constantLong RX11 235 (239), Cond.methodLink RL 76 yX10_sun, Cond.instanceMethod yX10_sun, Cond.selects RX10 yX10_sun yX10_sun, Cond.code yX10_sun cX10_sun 3 (some .int), Cond.methodLink RX10 177 yX1_firstMinute, Cond.instanceMethod yX1_firstMinute, Cond.selects RX1 yX1_firstMinute yX1_firstMinute, Cond.code yX1_firstMinute cX1_firstMinute 4 (some .int), Cond.methodLink RL 79 yX11_sun, Cond.instanceMethod yX11_sun, Cond.selects RX11 yX11_sun yX11_sun, Cond.code yX11_sun cX11_sun 3 (some .int)]
def wsL_law_r31 : List Cond := [Cond.methodLink RX11 237 yX11_first, Cond.instanceMethod yX11_first, Cond.selects RX11 yX11_first yX11_first, Cond.code yX11_first cX11_first 4 (some .int), Cond.methodLink RL 80 yX10_letter, Cond.instanceMethod yX10_letter, Cond.selects RX10 yX10_letter yX10_letter, Cond.code yX10_letter cX10_letter 5 (some .int), Cond.methodLink RL 83 yX11_letter, Cond.instanceMethod yX11_letter, Cond.selects RX11 yX11_letter yX11_letter, Cond.code yX11_letter cX11_letter 5 (some .int), Cond.methodLink RL 84 yX10_turns, Cond.instanceMethod yX10_turns, Cond.selects RX10 yX10_turns yX10_turns, Cond.code yX10_turns cX10_turns 2 (some .int), Cond.methodLink RX10 180 yX1_firstMissedTurn, Cond.instanceMethod yX1_firstMissedTurn, Cond.selects RX1 yX1_firstMissedTurn yX1_firstMissedTurn, Cond.code yX1_firstMissedTurn cX1_firstMissedTurn 5 (some .int), Cond.methodLink RX1 74 yX7_greatest, Cond.instanceMethod yX7_greatest, Cond.selects RX7 yX7_greatest yX7_greatest, Cond.code yX7_greatest cX7_greatest 4 (some .int)]
def wsL_law_r32 : List Cond := [Cond.methodLink RX7 44 yX7_at, Cond.methodLink RX1 78 yX1_countedOf, Cond.methodLink RL 87 yX11_turns, Cond.instanceMethod yX11_turns, Cond.selects RX11 yX11_turns yX11_turns, Cond.code yX11_turns cX11_turns 4 (some .int), Cond.constantLong RX11 241 (60), Cond.methodLink RL 88 yX10_paid, Cond.instanceMethod yX10_paid, Cond.selects RX10 yX10_paid yX10_paid, Cond.code yX10_paid cX10_paid 4 (some .int), Cond.fieldLink RX10 183 "SpokenClock$State" "dues" "LSpokenClock$Rows;", Cond.methodLink RX10 186 yX10_refuseWorth, Cond.instanceMethod yX10_refuseWorth, Cond.selects RX10 yX10_refuseWorth yX10_refuseWorth, Cond.code yX10_refuseWorth cX10_refuseWorth 1 (some .int), Cond.methodLink RX10 189 yX10_isPaid, Cond.instanceMethod yX10_isPaid, Cond.selects RX10 yX10_isPaid yX10_isPaid, Cond.code yX10_isPaid cX10_isPaid 2 (some .boolean), Cond.methodLink RX10 192 yX7_at, Cond.methodLink RL 91 yX11_paid, Cond.instanceMethod yX11_paid, Cond.selects RX11 yX11_paid yX11_paid]
def wsL_law_r33 : List Cond := [Cond.code yX11_paid cX11_paid 5 (some .int), Cond.methodLink RX11 243 yX11_worse, Cond.instanceMethod yX11_worse, Cond.selects RX11 yX11_worse yX11_worse, Cond.code yX11_worse cX11_worse 1 (some .int), Cond.methodLink RL 92 yX10_best, Cond.instanceMethod yX10_best, Cond.selects RX10 yX10_best yX10_best, Cond.code yX10_best cX10_best 2 (some .int), Cond.methodLink RX10 195 yX10_isPrice, Cond.static yX10_isPrice, Cond.code yX10_isPrice cX10_isPrice 1 (some .boolean), Cond.methodLink RX10 198 yX4_mostFrom, Cond.instanceMethod yX4_mostFrom, Cond.selects RX4 yX4_mostFrom yX4_mostFrom, Cond.code yX4_mostFrom cX4_mostFrom 3 (some .int), Cond.methodLink RX4 27 yX4_refresh, Cond.instanceMethod yX4_refresh, Cond.selects RX4 yX4_refresh yX4_refresh, Cond.code yX4_refresh cX4_refresh 5 none, Cond.fieldLink RX4 44 "SpokenClock$Plan" "price" "I", Cond.fieldLink RX4 57 "SpokenClock$State" "dues" "LSpokenClock$Rows;", Cond.methodLink RX4 39 Lib.Math.min.name, Cond.methodLink RX4 48 yJ7_fill_53178]
def wsL_law_r34 : List Cond := [Cond.methodLink RX4 54 yJ7_fill_d0a16, Cond.static yJ7_fill_d0a16, Cond.code yJ7_fill_d0a16 cJ7_fill_d0a16 5 none, Cond.methodLink RX4 63 yX7_greatest, Cond.methodLink RX4 69 yX4_payDues, Cond.instanceMethod yX4_payDues, Cond.selects RX4 yX4_payDues yX4_payDues, Cond.code yX4_payDues cX4_payDues 5 none, Cond.methodLink RX4 83 Lib.Math.max.name, Cond.methodLink RX4 76 yX7_size, Cond.methodLink RX4 80 yX7_at, Cond.methodLink RX4 72 yX4_chooseSteps, Cond.instanceMethod yX4_chooseSteps, Cond.selects RX4 yX4_chooseSteps yX4_chooseSteps, Cond.code yX4_chooseSteps cX4_chooseSteps 10 none, Cond.fieldLink RX4 86 "SpokenClock$State" "settings" "[I", Cond.methodLink RX4 89 yX4_keepStep, Cond.instanceMethod yX4_keepStep, Cond.selects RX4 yX4_keepStep yX4_keepStep, Cond.code yX4_keepStep cX4_keepStep 5 none, Cond.methodLink RL 95 yX11_best, Cond.instanceMethod yX11_best, Cond.selects RX11 yX11_best yX11_best, Cond.code yX11_best cX11_best 2 (some .int)]
def wsL_law_r35 : List Cond := [Cond.constantLong RX11 246 (9), Cond.methodLink RX11 248 yX11_plans, Cond.instanceMethod yX11_plans, Cond.selects RX11 yX11_plans yX11_plans, Cond.code yX11_plans cX11_plans 7 none, Cond.methodLink RL 96 yX10_step, Cond.instanceMethod yX10_step, Cond.selects RX10 yX10_step yX10_step, Cond.code yX10_step cX10_step 3 (some .int), Cond.methodLink RX10 201 yX4_stepIn, Cond.instanceMethod yX4_stepIn, Cond.selects RX4 yX4_stepIn yX4_stepIn, Cond.code yX4_stepIn cX4_stepIn 5 (some .int), Cond.methodLink RX4 35 yX4_stepAt, Cond.instanceMethod yX4_stepAt, Cond.selects RX4 yX4_stepAt yX4_stepAt, Cond.code yX4_stepAt cX4_stepAt 4 (some .int), Cond.methodLink RL 99 yX11_step, Cond.instanceMethod yX11_step, Cond.selects RX11 yX11_step yX11_step, Cond.code yX11_step cX11_step 9 (some .int), Cond.constantLong RX11 251 (98), Cond.methodLink RL 100 yX10_minute, Cond.instanceMethod yX10_minute]
def wsL_law_r36 : List Cond := [Cond.selects RX10 yX10_minute yX10_minute, Cond.code yX10_minute cX10_minute 2 (some .int), Cond.methodLink RL 103 yX11_minute, Cond.instanceMethod yX11_minute, Cond.selects RX11 yX11_minute yX11_minute, Cond.code yX11_minute cX11_minute 2 (some .int), Cond.methodLink RL 104 yX10_stake, Cond.instanceMethod yX10_stake, Cond.selects RX10 yX10_stake yX10_stake, Cond.code yX10_stake cX10_stake 6 (some .int), Cond.fieldLink RX10 204 "SpokenClock$State" "stake" "[I", Cond.methodLink RL 108 yX11_stake, Cond.instanceMethod yX11_stake, Cond.selects RX11 yX11_stake yX11_stake, Cond.code yX11_stake cX11_stake 6 (some .int), Cond.constantLong RX11 253 (20), Cond.methodLink RL 109 yX10_silence, Cond.instanceMethod yX10_silence, Cond.selects RX10 yX10_silence yX10_silence, Cond.code yX10_silence cX10_silence 4 (some .int), Cond.methodLink RX10 207 yX5_play, Cond.instanceMethod yX5_play, Cond.selects RX5 yX5_play yX5_play, Cond.code yX5_play cX5_play 5 none]
def wsL_law_r37 : List Cond := [Cond.fieldLink RX5 35 "SpokenClock$Quarrel" "firstTalk" "I", Cond.fieldLink RX5 39 "SpokenClock$Quarrel" "gone" "I", Cond.methodLink RX5 25 yJ7_fill_53178, Cond.methodLink RX5 31 yX5_weigh, Cond.instanceMethod yX5_weigh, Cond.selects RX5 yX5_weigh yX5_weigh, Cond.code yX5_weigh cX5_weigh 11 none, Cond.methodLink RX10 211 yX5_end, Cond.instanceMethod yX5_end, Cond.selects RX5 yX5_end yX5_end, Cond.code yX5_end cX5_end 2 (some .int), Cond.methodLink RL 112 yX11_silence, Cond.instanceMethod yX11_silence, Cond.selects RX11 yX11_silence yX11_silence, Cond.code yX11_silence cX11_silence 12 (some .int), Cond.constantLong RX11 255 (40), Cond.constantLong RX11 257 (3), Cond.methodLink RL 113 yX10_night, Cond.instanceMethod yX10_night, Cond.selects RX10 yX10_night yX10_night, Cond.code yX10_night cX10_night 4 (some .int), Cond.methodLink RX10 214 yX2_toChance, Cond.instanceMethod yX2_toChance, Cond.selects RX2 yX2_toChance yX2_toChance]
def wsL_law_r38 : List Cond := [Cond.code yX2_toChance cX2_toChance 6 none, Cond.methodLink RX2 41 yX0_become, Cond.instanceMethod yX0_become, Cond.selects RX0 yX0_become yX0_become, Cond.code yX0_become cX0_become 2 none, Cond.methodLink RX0 15 yJ7_fill_53178, Cond.methodLink RX2 44 yX0_times, Cond.instanceMethod yX0_times, Cond.selects RX0 yX0_times yX0_times, Cond.code yX0_times cX0_times 5 none, Cond.constantLong RX0 25 (1073741823), Cond.methodLink RX2 47 yX0_plus, Cond.instanceMethod yX0_plus, Cond.selects RX0 yX0_plus yX0_plus, Cond.code yX0_plus cX0_plus 5 none, Cond.methodLink RX2 51 yX0_divide, Cond.instanceMethod yX0_divide, Cond.selects RX0 yX0_divide yX0_divide, Cond.code yX0_divide cX0_divide 7 none, Cond.methodLink RX2 54 yX2_reduce, Cond.instanceMethod yX2_reduce, Cond.selects RX2 yX2_reduce yX2_reduce, Cond.code yX2_reduce cX2_reduce 4 none, Cond.methodLink RX2 58 yX0_isDivided]
def wsL_law_r39 : List Cond := [Cond.instanceMethod yX0_isDivided, Cond.selects RX0 yX0_isDivided yX0_isDivided, Cond.code yX0_isDivided cX0_isDivided 5 (some .boolean), Cond.methodLink RL 116 yX11_night, Cond.instanceMethod yX11_night, Cond.selects RX11 yX11_night yX11_night, Cond.code yX11_night cX11_night 6 (some .int), Cond.constantLong RX11 268 (6), Cond.fieldLink RX11 278 "SpokenClockModel" "manyAbove" "I", Cond.fieldLink RX11 281 "SpokenClockModel" "sign" "I", Cond.methodLink RX11 261 yX11_mixes, Cond.instanceMethod yX11_mixes, Cond.selects RX11 yX11_mixes yX11_mixes, Cond.code yX11_mixes cX11_mixes 10 none, Cond.constantLong RX11 259 (1073741824), Cond.methodLink RX11 265 yX11_limbs, Cond.instanceMethod yX11_limbs, Cond.selects RX11 yX11_limbs yX11_limbs, Cond.code yX11_limbs cX11_limbs 3 (some .int), Cond.methodLink RX11 270 yX11_restOf, Cond.instanceMethod yX11_restOf, Cond.selects RX11 yX11_restOf yX11_restOf, Cond.code yX11_restOf cX11_restOf 7 (some .long), Cond.methodLink RX11 274 yX11_shares]
def wsL_law_r40 : List Cond := [Cond.instanceMethod yX11_shares, Cond.selects RX11 yX11_shares yX11_shares, Cond.code yX11_shares cX11_shares 9 none, Cond.methodLink RL 117 yX10_who, Cond.instanceMethod yX10_who, Cond.selects RX10 yX10_who yX10_who, Cond.code yX10_who cX10_who 2 (some .int), Cond.methodLink RX10 218 yX3_refresh, Cond.instanceMethod yX3_refresh, Cond.selects RX3 yX3_refresh yX3_refresh, Cond.code yX3_refresh cX3_refresh 4 none, Cond.fieldLink RX3 27 "SpokenClock$Guess" "sets" "I", Cond.fieldLink RX3 31 "SpokenClock$Guess" "least" "I", Cond.fieldLink RX3 34 "SpokenClock$Guess" "surely" "I", Cond.fieldLink RX3 41 "SpokenClock$State" "sights" "LSpokenClock$Rows;", Cond.methodLink RX3 37 yX3_noteSights, Cond.instanceMethod yX3_noteSights, Cond.selects RX3 yX3_noteSights yX3_noteSights, Cond.code yX3_noteSights cX3_noteSights 4 (some .boolean), Cond.methodLink RX3 61 yJ7_fill_53178, Cond.methodLink RX3 67 yX7_size, Cond.methodLink RX3 70 yX7_at, Cond.methodLink RX3 47 yX7_greatest, Cond.methodLink RX3 53 yX3_peopleThere]
def wsL_law_r41 : List Cond := [Cond.instanceMethod yX3_peopleThere, Cond.selects RX3 yX3_peopleThere yX3_peopleThere, Cond.code yX3_peopleThere cX3_peopleThere 3 (some .int), Cond.fieldLink RX3 78 "SpokenClock$State" "people" "LSpokenClock$Rows;", Cond.methodLink RX3 57 yX3_fits, Cond.instanceMethod yX3_fits, Cond.selects RX3 yX3_fits yX3_fits, Cond.code yX3_fits cX3_fits 6 (some .boolean), Cond.fieldLink RX3 87 "SpokenClock$State" "settings" "[I", Cond.methodLink RX3 90 Lib.Math.min.name, Cond.methodLink RX3 81 yX1_together, Cond.methodLink RX10 219 yX3_told, Cond.instanceMethod yX3_told, Cond.selects RX3 yX3_told yX3_told, Cond.code yX3_told cX3_told 2 (some .int), Cond.methodLink RL 120 yX11_who, Cond.instanceMethod yX11_who, Cond.selects RX11 yX11_who yX11_who, Cond.code yX11_who cX11_who 9 (some .int), Cond.methodLink RL 121 yX10_sign, Cond.instanceMethod yX10_sign, Cond.selects RX10 yX10_sign yX10_sign, Cond.code yX10_sign cX10_sign 2 (some .int), Cond.methodLink RX10 222 yX2_shape]
def wsL_law_r42 : List Cond := [Cond.instanceMethod yX2_shape, Cond.selects RX2 yX2_shape yX2_shape, Cond.code yX2_shape cX2_shape 2 (some .int), Cond.methodLink RX2 24 yX0_size, Cond.instanceMethod yX0_size, Cond.selects RX0 yX0_size yX0_size, Cond.code yX0_size cX0_size 2 (some .int), Cond.methodLink RL 124 yX11_sign, Cond.instanceMethod yX11_sign, Cond.selects RX11 yX11_sign yX11_sign, Cond.code yX11_sign cX11_sign 2 (some .int), Cond.methodLink RL 125 yX10_limb, Cond.instanceMethod yX10_limb, Cond.selects RX10 yX10_limb yX10_limb, Cond.code yX10_limb cX10_limb 3 (some .int), Cond.methodLink RX10 225 yX2_limbOf, Cond.instanceMethod yX2_limbOf, Cond.selects RX2 yX2_limbOf yX2_limbOf, Cond.code yX2_limbOf cX2_limbOf 3 (some .int), Cond.methodLink RX2 28 yX0_limbAt, Cond.instanceMethod yX0_limbAt, Cond.selects RX0 yX0_limbAt yX0_limbAt, Cond.code yX0_limbAt cX0_limbAt 2 (some .int), Cond.methodLink RX0 21 yX0_size]
def wsL_law_r43 : List Cond := [Cond.methodLink RL 128 yX11_limb, Cond.instanceMethod yX11_limb, Cond.selects RX11 yX11_limb yX11_limb, Cond.code yX11_limb cX11_limb 3 (some .int), Cond.methodLink RL 129 yX10_image, Cond.instanceMethod yX10_image, Cond.selects RX10 yX10_image yX10_image, Cond.code yX10_image cX10_image 2 (some .int), Cond.methodLink RX10 228 yX10_imageOf, Cond.instanceMethod yX10_imageOf, Cond.selects RX10 yX10_imageOf yX10_imageOf, Cond.code yX10_imageOf cX10_imageOf 2 (some (.object "SpokenClock$State")), Cond.methodLink RL 132 yX11_image, Cond.instanceMethod yX11_image, Cond.selects RX11 yX11_image yX11_image, Cond.code yX11_image cX11_image 3 (some .int), Cond.methodLink RL 133 yX10_from, Cond.instanceMethod yX10_from, Cond.selects RX10 yX10_from yX10_from, Cond.code yX10_from cX10_from 2 (some .int), Cond.methodLink RL 136 yX11_from, Cond.instanceMethod yX11_from, Cond.selects RX11 yX11_from yX11_from, Cond.code yX11_from cX11_from 3 (some .int)]
def wsL_law_r44 : List Cond := [Cond.methodLink RL 137 yX10_status, Cond.instanceMethod yX10_status, Cond.selects RX10 yX10_status yX10_status, Cond.code yX10_status cX10_status 2 (some .int), Cond.methodLink RL 140 yX11_status, Cond.instanceMethod yX11_status, Cond.selects RX11 yX11_status yX11_status, Cond.code yX11_status cX11_status 2 (some .int), Cond.methodLink RL 141 yX10_count, Cond.instanceMethod yX10_count, Cond.selects RX10 yX10_count yX10_count, Cond.code yX10_count cX10_count 2 (some .int), Cond.methodLink RX10 232 yX10_sizeOf, Cond.instanceMethod yX10_sizeOf, Cond.selects RX10 yX10_sizeOf yX10_sizeOf, Cond.code yX10_sizeOf cX10_sizeOf 2 (some .int), Cond.fieldLink RX10 254 "SpokenClock$State" "talks" "LSpokenClock$Rows;", Cond.fieldLink RX10 257 "SpokenClock$State" "sights" "LSpokenClock$Rows;", Cond.methodLink RL 144 yX11_count, Cond.instanceMethod yX11_count, Cond.selects RX11 yX11_count yX11_count, Cond.code yX11_count cX11_count 2 (some .int), Cond.methodLink RX11 284 yX11_counted, Cond.instanceMethod yX11_counted]
def wsL_law_r45 : List Cond := [Cond.selects RX11 yX11_counted yX11_counted, Cond.code yX11_counted cX11_counted 2 (some .int), Cond.methodLink RL 145 yX10_digest, Cond.instanceMethod yX10_digest, Cond.selects RX10 yX10_digest yX10_digest, Cond.code yX10_digest cX10_digest 4 (some .long), Cond.constantLong RX10 235 (701), Cond.constantLong RX10 237 (31), Cond.methodLink RX10 239 yX9_mixed, Cond.instanceMethod yX9_mixed, Cond.selects RX9 yX9_mixed yX9_mixed, Cond.code yX9_mixed cX9_mixed 5 (some .long), Cond.methodLink RX9 65 yX9_mixedWith, Cond.static yX9_mixedWith, Cond.code yX9_mixedWith cX9_mixedWith 9 (some .long), Cond.constantLong RX9 73 (31), Cond.methodLink RX9 69 yX7_mixed, Cond.instanceMethod yX7_mixed, Cond.selects RX7 yX7_mixed yX7_mixed, Cond.code yX7_mixed cX7_mixed 6 (some .long), Cond.constantLong RX7 47 (31), Cond.methodLink RX10 243 yX2_mixed, Cond.instanceMethod yX2_mixed, Cond.selects RX2 yX2_mixed yX2_mixed]
def wsL_law_r46 : List Cond := [Cond.code yX2_mixed cX2_mixed 6 (some .long), Cond.constantLong RX2 32 (31), Cond.methodLink RX2 34 yX2_shape, Cond.methodLink RX2 37 yX0_mixed, Cond.instanceMethod yX0_mixed, Cond.selects RX0 yX0_mixed yX0_mixed, Cond.code yX0_mixed cX0_mixed 6 (some .long), Cond.constantLong RX0 27 (31), Cond.methodLink RL 149 yX11_digest, Cond.instanceMethod yX11_digest, Cond.selects RX11 yX11_digest yX11_digest, Cond.code yX11_digest cX11_digest 4 (some .long), Cond.constantLong RX11 289 (701), Cond.methodLink RX11 291 yX11_mixed, Cond.static yX11_mixed, Cond.code yX11_mixed cX11_mixed 4 (some .long), Cond.constantLong RX11 287 (31)]
def wsL_law : List Cond := (wsL_law_r1 ++ (wsL_law_r2 ++ (wsL_law_r3 ++ (wsL_law_r4 ++ (wsL_law_r5 ++ (wsL_law_r6 ++ (wsL_law_r7 ++ (wsL_law_r8 ++ (wsL_law_r9 ++ (wsL_law_r10 ++ (wsL_law_r11 ++ (wsL_law_r12 ++ (wsL_law_r13 ++ (wsL_law_r14 ++ (wsL_law_r15 ++ (wsL_law_r16 ++ (wsL_law_r17 ++ (wsL_law_r18 ++ (wsL_law_r19 ++ (wsL_law_r20 ++ (wsL_law_r21 ++ (wsL_law_r22 ++ (wsL_law_r23 ++ (wsL_law_r24 ++ (wsL_law_r25 ++ (wsL_law_r26 ++ (wsL_law_r27 ++ (wsL_law_r28 ++ (wsL_law_r29 ++ (wsL_law_r30 ++ (wsL_law_r31 ++ (wsL_law_r32 ++ (wsL_law_r33 ++ (wsL_law_r34 ++ (wsL_law_r35 ++ (wsL_law_r36 ++ (wsL_law_r37 ++ (wsL_law_r38 ++ (wsL_law_r39 ++ (wsL_law_r40 ++ (wsL_law_r41 ++ (wsL_law_r42 ++ (wsL_law_r43 ++ (wsL_law_r44 ++ (wsL_law_r45 ++ wsL_law_r46))))))))))))))))))))))))))))))))))))))))))))) ++ wsX100 ++ wsX110 ++ wsX50 ++ wsX20 ++ wsX90 ++ wsX70 ++ wsX80 ++ wsX10 ++ wsX60 ++ wsX40 ++ wsX30 ++ wsX00 ++ ([] : List Cond)
abbrev vwCl : List vw_C := [(RX0, TX0, 1), (RX1, TX1, 5), (RX2, TX2, 3), (RX3, TX3, 7), (RX4, TX4, 5), (RX5, TX5, 5), (RX6, TX6, 7), (RX7, TX7, 4), (RX8, TX8, 8), (RX9, TX9, 7), (RX10, TX10, 14), (RX11, TX11, 31)]
theorem zr_1 : ∀ w ∈ wsL_law_r1, w ∈ wsL_law := fun w h => List.mem_append_left _ (List.mem_append_left _ (List.mem_append_left _ (List.mem_append_left _ (List.mem_append_left _ (List.mem_append_left _ (List.mem_append_left _ (List.mem_append_left _ (List.mem_append_left _ (List.mem_append_left _ (List.mem_append_left _ (List.mem_append_left _ (List.mem_append_left _ (List.mem_append_left _ h)))))))))))))
theorem zr_2 : ∀ w ∈ wsL_law_r2, w ∈ wsL_law := fun w h => List.mem_append_left _ (List.mem_append_left _ (List.mem_append_left _ (List.mem_append_left _ (List.mem_append_left _ (List.mem_append_left _ (List.mem_append_left _ (List.mem_append_left _ (List.mem_append_left _ (List.mem_append_left _ (List.mem_append_left _ (List.mem_append_left _ (List.mem_append_left _ (List.mem_append_right _ (List.mem_append_left _ h))))))))))))))
theorem zr_3 : ∀ w ∈ wsL_law_r3, w ∈ wsL_law := fun w h => List.mem_append_left _ (List.mem_append_left _ (List.mem_append_left _ (List.mem_append_left _ (List.mem_append_left _ (List.mem_append_left _ (List.mem_append_left _ (List.mem_append_left _ (List.mem_append_left _ (List.mem_append_left _ (List.mem_append_left _ (List.mem_append_left _ (List.mem_append_left _ (List.mem_append_right _ (List.mem_append_right _ (List.mem_append_left _ h)))))))))))))))
theorem zr_4 : ∀ w ∈ wsL_law_r4, w ∈ wsL_law := fun w h => List.mem_append_left _ (List.mem_append_left _ (List.mem_append_left _ (List.mem_append_left _ (List.mem_append_left _ (List.mem_append_left _ (List.mem_append_left _ (List.mem_append_left _ (List.mem_append_left _ (List.mem_append_left _ (List.mem_append_left _ (List.mem_append_left _ (List.mem_append_left _ (List.mem_append_right _ (List.mem_append_right _ (List.mem_append_right _ (List.mem_append_left _ h))))))))))))))))
theorem zr_5 : ∀ w ∈ wsL_law_r5, w ∈ wsL_law := fun w h => List.mem_append_left _ (List.mem_append_left _ (List.mem_append_left _ (List.mem_append_left _ (List.mem_append_left _ (List.mem_append_left _ (List.mem_append_left _ (List.mem_append_left _ (List.mem_append_left _ (List.mem_append_left _ (List.mem_append_left _ (List.mem_append_left _ (List.mem_append_left _ (List.mem_append_right _ (List.mem_append_right _ (List.mem_append_right _ (List.mem_append_right _ (List.mem_append_left _ h)))))))))))))))))
theorem zr_6 : ∀ w ∈ wsL_law_r6, w ∈ wsL_law := fun w h => List.mem_append_left _ (List.mem_append_left _ (List.mem_append_left _ (List.mem_append_left _ (List.mem_append_left _ (List.mem_append_left _ (List.mem_append_left _ (List.mem_append_left _ (List.mem_append_left _ (List.mem_append_left _ (List.mem_append_left _ (List.mem_append_left _ (List.mem_append_left _ (List.mem_append_right _ (List.mem_append_right _ (List.mem_append_right _ (List.mem_append_right _ (List.mem_append_right _ (List.mem_append_left _ h))))))))))))))))))
theorem zr_7 : ∀ w ∈ wsL_law_r7, w ∈ wsL_law := fun w h => List.mem_append_left _ (List.mem_append_left _ (List.mem_append_left _ (List.mem_append_left _ (List.mem_append_left _ (List.mem_append_left _ (List.mem_append_left _ (List.mem_append_left _ (List.mem_append_left _ (List.mem_append_left _ (List.mem_append_left _ (List.mem_append_left _ (List.mem_append_left _ (List.mem_append_right _ (List.mem_append_right _ (List.mem_append_right _ (List.mem_append_right _ (List.mem_append_right _ (List.mem_append_right _ (List.mem_append_left _ h)))))))))))))))))))
theorem zr_8 : ∀ w ∈ wsL_law_r8, w ∈ wsL_law := fun w h => List.mem_append_left _ (List.mem_append_left _ (List.mem_append_left _ (List.mem_append_left _ (List.mem_append_left _ (List.mem_append_left _ (List.mem_append_left _ (List.mem_append_left _ (List.mem_append_left _ (List.mem_append_left _ (List.mem_append_left _ (List.mem_append_left _ (List.mem_append_left _ (List.mem_append_right _ (List.mem_append_right _ (List.mem_append_right _ (List.mem_append_right _ (List.mem_append_right _ (List.mem_append_right _ (List.mem_append_right _ (List.mem_append_left _ h))))))))))))))))))))
theorem zr_9 : ∀ w ∈ wsL_law_r9, w ∈ wsL_law := fun w h => List.mem_append_left _ (List.mem_append_left _ (List.mem_append_left _ (List.mem_append_left _ (List.mem_append_left _ (List.mem_append_left _ (List.mem_append_left _ (List.mem_append_left _ (List.mem_append_left _ (List.mem_append_left _ (List.mem_append_left _ (List.mem_append_left _ (List.mem_append_left _ (List.mem_append_right _ (List.mem_append_right _ (List.mem_append_right _ (List.mem_append_right _ (List.mem_append_right _ (List.mem_append_right _ (List.mem_append_right _ (List.mem_append_right _ (List.mem_append_left _ h)))))))))))))))))))))
theorem zr_10 : ∀ w ∈ wsL_law_r10, w ∈ wsL_law := fun w h => List.mem_append_left _ (List.mem_append_left _ (List.mem_append_left _ (List.mem_append_left _ (List.mem_append_left _ (List.mem_append_left _ (List.mem_append_left _ (List.mem_append_left _ (List.mem_append_left _ (List.mem_append_left _ (List.mem_append_left _ (List.mem_append_left _ (List.mem_append_left _ (List.mem_append_right _ (List.mem_append_right _ (List.mem_append_right _ (List.mem_append_right _ (List.mem_append_right _ (List.mem_append_right _ (List.mem_append_right _ (List.mem_append_right _ (List.mem_append_right _ (List.mem_append_left _ h))))))))))))))))))))))
theorem zr_11 : ∀ w ∈ wsL_law_r11, w ∈ wsL_law := fun w h => List.mem_append_left _ (List.mem_append_left _ (List.mem_append_left _ (List.mem_append_left _ (List.mem_append_left _ (List.mem_append_left _ (List.mem_append_left _ (List.mem_append_left _ (List.mem_append_left _ (List.mem_append_left _ (List.mem_append_left _ (List.mem_append_left _ (List.mem_append_left _ (List.mem_append_right _ (List.mem_append_right _ (List.mem_append_right _ (List.mem_append_right _ (List.mem_append_right _ (List.mem_append_right _ (List.mem_append_right _ (List.mem_append_right _ (List.mem_append_right _ (List.mem_append_right _ (List.mem_append_left _ h)))))))))))))))))))))))
theorem zr_12 : ∀ w ∈ wsL_law_r12, w ∈ wsL_law := fun w h => List.mem_append_left _ (List.mem_append_left _ (List.mem_append_left _ (List.mem_append_left _ (List.mem_append_left _ (List.mem_append_left _ (List.mem_append_left _ (List.mem_append_left _ (List.mem_append_left _ (List.mem_append_left _ (List.mem_append_left _ (List.mem_append_left _ (List.mem_append_left _ (List.mem_append_right _ (List.mem_append_right _ (List.mem_append_right _ (List.mem_append_right _ (List.mem_append_right _ (List.mem_append_right _ (List.mem_append_right _ (List.mem_append_right _ (List.mem_append_right _ (List.mem_append_right _ (List.mem_append_right _ (List.mem_append_left _ h))))))))))))))))))))))))
theorem zr_13 : ∀ w ∈ wsL_law_r13, w ∈ wsL_law := fun w h => List.mem_append_left _ (List.mem_append_left _ (List.mem_append_left _ (List.mem_append_left _ (List.mem_append_left _ (List.mem_append_left _ (List.mem_append_left _ (List.mem_append_left _ (List.mem_append_left _ (List.mem_append_left _ (List.mem_append_left _ (List.mem_append_left _ (List.mem_append_left _ (List.mem_append_right _ (List.mem_append_right _ (List.mem_append_right _ (List.mem_append_right _ (List.mem_append_right _ (List.mem_append_right _ (List.mem_append_right _ (List.mem_append_right _ (List.mem_append_right _ (List.mem_append_right _ (List.mem_append_right _ (List.mem_append_right _ (List.mem_append_left _ h)))))))))))))))))))))))))
theorem zr_14 : ∀ w ∈ wsL_law_r14, w ∈ wsL_law := fun w h => List.mem_append_left _ (List.mem_append_left _ (List.mem_append_left _ (List.mem_append_left _ (List.mem_append_left _ (List.mem_append_left _ (List.mem_append_left _ (List.mem_append_left _ (List.mem_append_left _ (List.mem_append_left _ (List.mem_append_left _ (List.mem_append_left _ (List.mem_append_left _ (List.mem_append_right _ (List.mem_append_right _ (List.mem_append_right _ (List.mem_append_right _ (List.mem_append_right _ (List.mem_append_right _ (List.mem_append_right _ (List.mem_append_right _ (List.mem_append_right _ (List.mem_append_right _ (List.mem_append_right _ (List.mem_append_right _ (List.mem_append_right _ (List.mem_append_left _ h))))))))))))))))))))))))))
theorem zr_15 : ∀ w ∈ wsL_law_r15, w ∈ wsL_law := fun w h => List.mem_append_left _ (List.mem_append_left _ (List.mem_append_left _ (List.mem_append_left _ (List.mem_append_left _ (List.mem_append_left _ (List.mem_append_left _ (List.mem_append_left _ (List.mem_append_left _ (List.mem_append_left _ (List.mem_append_left _ (List.mem_append_left _ (List.mem_append_left _ (List.mem_append_right _ (List.mem_append_right _ (List.mem_append_right _ (List.mem_append_right _ (List.mem_append_right _ (List.mem_append_right _ (List.mem_append_right _ (List.mem_append_right _ (List.mem_append_right _ (List.mem_append_right _ (List.mem_append_right _ (List.mem_append_right _ (List.mem_append_right _ (List.mem_append_right _ (List.mem_append_left _ h)))))))))))))))))))))))))))
theorem zr_16 : ∀ w ∈ wsL_law_r16, w ∈ wsL_law := fun w h => List.mem_append_left _ (List.mem_append_left _ (List.mem_append_left _ (List.mem_append_left _ (List.mem_append_left _ (List.mem_append_left _ (List.mem_append_left _ (List.mem_append_left _ (List.mem_append_left _ (List.mem_append_left _ (List.mem_append_left _ (List.mem_append_left _ (List.mem_append_left _ (List.mem_append_right _ (List.mem_append_right _ (List.mem_append_right _ (List.mem_append_right _ (List.mem_append_right _ (List.mem_append_right _ (List.mem_append_right _ (List.mem_append_right _ (List.mem_append_right _ (List.mem_append_right _ (List.mem_append_right _ (List.mem_append_right _ (List.mem_append_right _ (List.mem_append_right _ (List.mem_append_right _ (List.mem_append_left _ h))))))))))))))))))))))))))))
theorem zr_17 : ∀ w ∈ wsL_law_r17, w ∈ wsL_law := fun w h => List.mem_append_left _ (List.mem_append_left _ (List.mem_append_left _ (List.mem_append_left _ (List.mem_append_left _ (List.mem_append_left _ (List.mem_append_left _ (List.mem_append_left _ (List.mem_append_left _ (List.mem_append_left _ (List.mem_append_left _ (List.mem_append_left _ (List.mem_append_left _ (List.mem_append_right _ (List.mem_append_right _ (List.mem_append_right _ (List.mem_append_right _ (List.mem_append_right _ (List.mem_append_right _ (List.mem_append_right _ (List.mem_append_right _ (List.mem_append_right _ (List.mem_append_right _ (List.mem_append_right _ (List.mem_append_right _ (List.mem_append_right _ (List.mem_append_right _ (List.mem_append_right _ (List.mem_append_right _ (List.mem_append_left _ h)))))))))))))))))))))))))))))
theorem zr_18 : ∀ w ∈ wsL_law_r18, w ∈ wsL_law := fun w h => List.mem_append_left _ (List.mem_append_left _ (List.mem_append_left _ (List.mem_append_left _ (List.mem_append_left _ (List.mem_append_left _ (List.mem_append_left _ (List.mem_append_left _ (List.mem_append_left _ (List.mem_append_left _ (List.mem_append_left _ (List.mem_append_left _ (List.mem_append_left _ (List.mem_append_right _ (List.mem_append_right _ (List.mem_append_right _ (List.mem_append_right _ (List.mem_append_right _ (List.mem_append_right _ (List.mem_append_right _ (List.mem_append_right _ (List.mem_append_right _ (List.mem_append_right _ (List.mem_append_right _ (List.mem_append_right _ (List.mem_append_right _ (List.mem_append_right _ (List.mem_append_right _ (List.mem_append_right _ (List.mem_append_right _ (List.mem_append_left _ h))))))))))))))))))))))))))))))
theorem zr_19 : ∀ w ∈ wsL_law_r19, w ∈ wsL_law := fun w h => List.mem_append_left _ (List.mem_append_left _ (List.mem_append_left _ (List.mem_append_left _ (List.mem_append_left _ (List.mem_append_left _ (List.mem_append_left _ (List.mem_append_left _ (List.mem_append_left _ (List.mem_append_left _ (List.mem_append_left _ (List.mem_append_left _ (List.mem_append_left _ (List.mem_append_right _ (List.mem_append_right _ (List.mem_append_right _ (List.mem_append_right _ (List.mem_append_right _ (List.mem_append_right _ (List.mem_append_right _ (List.mem_append_right _ (List.mem_append_right _ (List.mem_append_right _ (List.mem_append_right _ (List.mem_append_right _ (List.mem_append_right _ (List.mem_append_right _ (List.mem_append_right _ (List.mem_append_right _ (List.mem_append_right _ (List.mem_append_right _ (List.mem_append_left _ h)))))))))))))))))))))))))))))))
theorem zr_20 : ∀ w ∈ wsL_law_r20, w ∈ wsL_law := fun w h => List.mem_append_left _ (List.mem_append_left _ (List.mem_append_left _ (List.mem_append_left _ (List.mem_append_left _ (List.mem_append_left _ (List.mem_append_left _ (List.mem_append_left _ (List.mem_append_left _ (List.mem_append_left _ (List.mem_append_left _ (List.mem_append_left _ (List.mem_append_left _ (List.mem_append_right _ (List.mem_append_right _ (List.mem_append_right _ (List.mem_append_right _ (List.mem_append_right _ (List.mem_append_right _ (List.mem_append_right _ (List.mem_append_right _ (List.mem_append_right _ (List.mem_append_right _ (List.mem_append_right _ (List.mem_append_right _ (List.mem_append_right _ (List.mem_append_right _ (List.mem_append_right _ (List.mem_append_right _ (List.mem_append_right _ (List.mem_append_right _ (List.mem_append_right _ (List.mem_append_left _ h))))))))))))))))))))))))))))))))
theorem zr_21 : ∀ w ∈ wsL_law_r21, w ∈ wsL_law := fun w h => List.mem_append_left _ (List.mem_append_left _ (List.mem_append_left _ (List.mem_append_left _ (List.mem_append_left _ (List.mem_append_left _ (List.mem_append_left _ (List.mem_append_left _ (List.mem_append_left _ (List.mem_append_left _ (List.mem_append_left _ (List.mem_append_left _ (List.mem_append_left _ (List.mem_append_right _ (List.mem_append_right _ (List.mem_append_right _ (List.mem_append_right _ (List.mem_append_right _ (List.mem_append_right _ (List.mem_append_right _ (List.mem_append_right _ (List.mem_append_right _ (List.mem_append_right _ (List.mem_append_right _ (List.mem_append_right _ (List.mem_append_right _ (List.mem_append_right _ (List.mem_append_right _ (List.mem_append_right _ (List.mem_append_right _ (List.mem_append_right _ (List.mem_append_right _ (List.mem_append_right _ (List.mem_append_left _ h)))))))))))))))))))))))))))))))))
theorem zr_22 : ∀ w ∈ wsL_law_r22, w ∈ wsL_law := fun w h => List.mem_append_left _ (List.mem_append_left _ (List.mem_append_left _ (List.mem_append_left _ (List.mem_append_left _ (List.mem_append_left _ (List.mem_append_left _ (List.mem_append_left _ (List.mem_append_left _ (List.mem_append_left _ (List.mem_append_left _ (List.mem_append_left _ (List.mem_append_left _ (List.mem_append_right _ (List.mem_append_right _ (List.mem_append_right _ (List.mem_append_right _ (List.mem_append_right _ (List.mem_append_right _ (List.mem_append_right _ (List.mem_append_right _ (List.mem_append_right _ (List.mem_append_right _ (List.mem_append_right _ (List.mem_append_right _ (List.mem_append_right _ (List.mem_append_right _ (List.mem_append_right _ (List.mem_append_right _ (List.mem_append_right _ (List.mem_append_right _ (List.mem_append_right _ (List.mem_append_right _ (List.mem_append_right _ (List.mem_append_left _ h))))))))))))))))))))))))))))))))))
theorem zr_23 : ∀ w ∈ wsL_law_r23, w ∈ wsL_law := fun w h => List.mem_append_left _ (List.mem_append_left _ (List.mem_append_left _ (List.mem_append_left _ (List.mem_append_left _ (List.mem_append_left _ (List.mem_append_left _ (List.mem_append_left _ (List.mem_append_left _ (List.mem_append_left _ (List.mem_append_left _ (List.mem_append_left _ (List.mem_append_left _ (List.mem_append_right _ (List.mem_append_right _ (List.mem_append_right _ (List.mem_append_right _ (List.mem_append_right _ (List.mem_append_right _ (List.mem_append_right _ (List.mem_append_right _ (List.mem_append_right _ (List.mem_append_right _ (List.mem_append_right _ (List.mem_append_right _ (List.mem_append_right _ (List.mem_append_right _ (List.mem_append_right _ (List.mem_append_right _ (List.mem_append_right _ (List.mem_append_right _ (List.mem_append_right _ (List.mem_append_right _ (List.mem_append_right _ (List.mem_append_right _ (List.mem_append_left _ h)))))))))))))))))))))))))))))))))))
theorem zr_24 : ∀ w ∈ wsL_law_r24, w ∈ wsL_law := fun w h => List.mem_append_left _ (List.mem_append_left _ (List.mem_append_left _ (List.mem_append_left _ (List.mem_append_left _ (List.mem_append_left _ (List.mem_append_left _ (List.mem_append_left _ (List.mem_append_left _ (List.mem_append_left _ (List.mem_append_left _ (List.mem_append_left _ (List.mem_append_left _ (List.mem_append_right _ (List.mem_append_right _ (List.mem_append_right _ (List.mem_append_right _ (List.mem_append_right _ (List.mem_append_right _ (List.mem_append_right _ (List.mem_append_right _ (List.mem_append_right _ (List.mem_append_right _ (List.mem_append_right _ (List.mem_append_right _ (List.mem_append_right _ (List.mem_append_right _ (List.mem_append_right _ (List.mem_append_right _ (List.mem_append_right _ (List.mem_append_right _ (List.mem_append_right _ (List.mem_append_right _ (List.mem_append_right _ (List.mem_append_right _ (List.mem_append_right _ (List.mem_append_left _ h))))))))))))))))))))))))))))))))))))
theorem zr_25 : ∀ w ∈ wsL_law_r25, w ∈ wsL_law := fun w h => List.mem_append_left _ (List.mem_append_left _ (List.mem_append_left _ (List.mem_append_left _ (List.mem_append_left _ (List.mem_append_left _ (List.mem_append_left _ (List.mem_append_left _ (List.mem_append_left _ (List.mem_append_left _ (List.mem_append_left _ (List.mem_append_left _ (List.mem_append_left _ (List.mem_append_right _ (List.mem_append_right _ (List.mem_append_right _ (List.mem_append_right _ (List.mem_append_right _ (List.mem_append_right _ (List.mem_append_right _ (List.mem_append_right _ (List.mem_append_right _ (List.mem_append_right _ (List.mem_append_right _ (List.mem_append_right _ (List.mem_append_right _ (List.mem_append_right _ (List.mem_append_right _ (List.mem_append_right _ (List.mem_append_right _ (List.mem_append_right _ (List.mem_append_right _ (List.mem_append_right _ (List.mem_append_right _ (List.mem_append_right _ (List.mem_append_right _ (List.mem_append_right _ (List.mem_append_left _ h)))))))))))))))))))))))))))))))))))))
theorem zr_26 : ∀ w ∈ wsL_law_r26, w ∈ wsL_law := fun w h => List.mem_append_left _ (List.mem_append_left _ (List.mem_append_left _ (List.mem_append_left _ (List.mem_append_left _ (List.mem_append_left _ (List.mem_append_left _ (List.mem_append_left _ (List.mem_append_left _ (List.mem_append_left _ (List.mem_append_left _ (List.mem_append_left _ (List.mem_append_left _ (List.mem_append_right _ (List.mem_append_right _ (List.mem_append_right _ (List.mem_append_right _ (List.mem_append_right _ (List.mem_append_right _ (List.mem_append_right _ (List.mem_append_right _ (List.mem_append_right _ (List.mem_append_right _ (List.mem_append_right _ (List.mem_append_right _ (List.mem_append_right _ (List.mem_append_right _ (List.mem_append_right _ (List.mem_append_right _ (List.mem_append_right _ (List.mem_append_right _ (List.mem_append_right _ (List.mem_append_right _ (List.mem_append_right _ (List.mem_append_right _ (List.mem_append_right _ (List.mem_append_right _ (List.mem_append_right _ (List.mem_append_left _ h))))))))))))))))))))))))))))))))))))))
theorem zr_27 : ∀ w ∈ wsL_law_r27, w ∈ wsL_law := fun w h => List.mem_append_left _ (List.mem_append_left _ (List.mem_append_left _ (List.mem_append_left _ (List.mem_append_left _ (List.mem_append_left _ (List.mem_append_left _ (List.mem_append_left _ (List.mem_append_left _ (List.mem_append_left _ (List.mem_append_left _ (List.mem_append_left _ (List.mem_append_left _ (List.mem_append_right _ (List.mem_append_right _ (List.mem_append_right _ (List.mem_append_right _ (List.mem_append_right _ (List.mem_append_right _ (List.mem_append_right _ (List.mem_append_right _ (List.mem_append_right _ (List.mem_append_right _ (List.mem_append_right _ (List.mem_append_right _ (List.mem_append_right _ (List.mem_append_right _ (List.mem_append_right _ (List.mem_append_right _ (List.mem_append_right _ (List.mem_append_right _ (List.mem_append_right _ (List.mem_append_right _ (List.mem_append_right _ (List.mem_append_right _ (List.mem_append_right _ (List.mem_append_right _ (List.mem_append_right _ (List.mem_append_right _ (List.mem_append_left _ h)))))))))))))))))))))))))))))))))))))))
theorem zr_28 : ∀ w ∈ wsL_law_r28, w ∈ wsL_law := fun w h => List.mem_append_left _ (List.mem_append_left _ (List.mem_append_left _ (List.mem_append_left _ (List.mem_append_left _ (List.mem_append_left _ (List.mem_append_left _ (List.mem_append_left _ (List.mem_append_left _ (List.mem_append_left _ (List.mem_append_left _ (List.mem_append_left _ (List.mem_append_left _ (List.mem_append_right _ (List.mem_append_right _ (List.mem_append_right _ (List.mem_append_right _ (List.mem_append_right _ (List.mem_append_right _ (List.mem_append_right _ (List.mem_append_right _ (List.mem_append_right _ (List.mem_append_right _ (List.mem_append_right _ (List.mem_append_right _ (List.mem_append_right _ (List.mem_append_right _ (List.mem_append_right _ (List.mem_append_right _ (List.mem_append_right _ (List.mem_append_right _ (List.mem_append_right _ (List.mem_append_right _ (List.mem_append_right _ (List.mem_append_right _ (List.mem_append_right _ (List.mem_append_right _ (List.mem_append_right _ (List.mem_append_right _ (List.mem_append_right _ (List.mem_append_left _ h))))))))))))))))))))))))))))))))))))))))
theorem zr_29 : ∀ w ∈ wsL_law_r29, w ∈ wsL_law := fun w h => List.mem_append_left _ (List.mem_append_left _ (List.mem_append_left _ (List.mem_append_left _ (List.mem_append_left _ (List.mem_append_left _ (List.mem_append_left _ (List.mem_append_left _ (List.mem_append_left _ (List.mem_append_left _ (List.mem_append_left _ (List.mem_append_left _ (List.mem_append_left _ (List.mem_append_right _ (List.mem_append_right _ (List.mem_append_right _ (List.mem_append_right _ (List.mem_append_right _ (List.mem_append_right _ (List.mem_append_right _ (List.mem_append_right _ (List.mem_append_right _ (List.mem_append_right _ (List.mem_append_right _ (List.mem_append_right _ (List.mem_append_right _ (List.mem_append_right _ (List.mem_append_right _ (List.mem_append_right _ (List.mem_append_right _ (List.mem_append_right _ (List.mem_append_right _ (List.mem_append_right _ (List.mem_append_right _ (List.mem_append_right _ (List.mem_append_right _ (List.mem_append_right _ (List.mem_append_right _ (List.mem_append_right _ (List.mem_append_right _ (List.mem_append_right _ (List.mem_append_left _ h)))))))))))))))))))))))))))))))))))))))))
theorem zr_30 : ∀ w ∈ wsL_law_r30, w ∈ wsL_law := fun w h => List.mem_append_left _ (List.mem_append_left _ (List.mem_append_left _ (List.mem_append_left _ (List.mem_append_left _ (List.mem_append_left _ (List.mem_append_left _ (List.mem_append_left _ (List.mem_append_left _ (List.mem_append_left _ (List.mem_append_left _ (List.mem_append_left _ (List.mem_append_left _ (List.mem_append_right _ (List.mem_append_right _ (List.mem_append_right _ (List.mem_append_right _ (List.mem_append_right _ (List.mem_append_right _ (List.mem_append_right _ (List.mem_append_right _ (List.mem_append_right _ (List.mem_append_right _ (List.mem_append_right _ (List.mem_append_right _ (List.mem_append_right _ (List.mem_append_right _ (List.mem_append_right _ (List.mem_append_right _ (List.mem_append_right _ (List.mem_append_right _ (List.mem_append_right _ (List.mem_append_right _ (List.mem_append_right _ (List.mem_append_right _ (List.mem_append_right _ (List.mem_append_right _ (List.mem_append_right _ (List.mem_append_right _ (List.mem_append_right _ (List.mem_append_right _ (List.mem_append_right _ (List.mem_append_left _ h))))))))))))))))))))))))))))))))))))))))))
theorem zr_31 : ∀ w ∈ wsL_law_r31, w ∈ wsL_law := fun w h => List.mem_append_left _ (List.mem_append_left _ (List.mem_append_left _ (List.mem_append_left _ (List.mem_append_left _ (List.mem_append_left _ (List.mem_append_left _ (List.mem_append_left _ (List.mem_append_left _ (List.mem_append_left _ (List.mem_append_left _ (List.mem_append_left _ (List.mem_append_left _ (List.mem_append_right _ (List.mem_append_right _ (List.mem_append_right _ (List.mem_append_right _ (List.mem_append_right _ (List.mem_append_right _ (List.mem_append_right _ (List.mem_append_right _ (List.mem_append_right _ (List.mem_append_right _ (List.mem_append_right _ (List.mem_append_right _ (List.mem_append_right _ (List.mem_append_right _ (List.mem_append_right _ (List.mem_append_right _ (List.mem_append_right _ (List.mem_append_right _ (List.mem_append_right _ (List.mem_append_right _ (List.mem_append_right _ (List.mem_append_right _ (List.mem_append_right _ (List.mem_append_right _ (List.mem_append_right _ (List.mem_append_right _ (List.mem_append_right _ (List.mem_append_right _ (List.mem_append_right _ (List.mem_append_right _ (List.mem_append_left _ h)))))))))))))))))))))))))))))))))))))))))))
theorem zr_32 : ∀ w ∈ wsL_law_r32, w ∈ wsL_law := fun w h => List.mem_append_left _ (List.mem_append_left _ (List.mem_append_left _ (List.mem_append_left _ (List.mem_append_left _ (List.mem_append_left _ (List.mem_append_left _ (List.mem_append_left _ (List.mem_append_left _ (List.mem_append_left _ (List.mem_append_left _ (List.mem_append_left _ (List.mem_append_left _ (List.mem_append_right _ (List.mem_append_right _ (List.mem_append_right _ (List.mem_append_right _ (List.mem_append_right _ (List.mem_append_right _ (List.mem_append_right _ (List.mem_append_right _ (List.mem_append_right _ (List.mem_append_right _ (List.mem_append_right _ (List.mem_append_right _ (List.mem_append_right _ (List.mem_append_right _ (List.mem_append_right _ (List.mem_append_right _ (List.mem_append_right _ (List.mem_append_right _ (List.mem_append_right _ (List.mem_append_right _ (List.mem_append_right _ (List.mem_append_right _ (List.mem_append_right _ (List.mem_append_right _ (List.mem_append_right _ (List.mem_append_right _ (List.mem_append_right _ (List.mem_append_right _ (List.mem_append_right _ (List.mem_append_right _ (List.mem_append_right _ (List.mem_append_left _ h))))))))))))))))))))))))))))))))))))))))))))
theorem zr_33 : ∀ w ∈ wsL_law_r33, w ∈ wsL_law := fun w h => List.mem_append_left _ (List.mem_append_left _ (List.mem_append_left _ (List.mem_append_left _ (List.mem_append_left _ (List.mem_append_left _ (List.mem_append_left _ (List.mem_append_left _ (List.mem_append_left _ (List.mem_append_left _ (List.mem_append_left _ (List.mem_append_left _ (List.mem_append_left _ (List.mem_append_right _ (List.mem_append_right _ (List.mem_append_right _ (List.mem_append_right _ (List.mem_append_right _ (List.mem_append_right _ (List.mem_append_right _ (List.mem_append_right _ (List.mem_append_right _ (List.mem_append_right _ (List.mem_append_right _ (List.mem_append_right _ (List.mem_append_right _ (List.mem_append_right _ (List.mem_append_right _ (List.mem_append_right _ (List.mem_append_right _ (List.mem_append_right _ (List.mem_append_right _ (List.mem_append_right _ (List.mem_append_right _ (List.mem_append_right _ (List.mem_append_right _ (List.mem_append_right _ (List.mem_append_right _ (List.mem_append_right _ (List.mem_append_right _ (List.mem_append_right _ (List.mem_append_right _ (List.mem_append_right _ (List.mem_append_right _ (List.mem_append_right _ (List.mem_append_left _ h)))))))))))))))))))))))))))))))))))))))))))))
theorem zr_34 : ∀ w ∈ wsL_law_r34, w ∈ wsL_law := fun w h => List.mem_append_left _ (List.mem_append_left _ (List.mem_append_left _ (List.mem_append_left _ (List.mem_append_left _ (List.mem_append_left _ (List.mem_append_left _ (List.mem_append_left _ (List.mem_append_left _ (List.mem_append_left _ (List.mem_append_left _ (List.mem_append_left _ (List.mem_append_left _ (List.mem_append_right _ (List.mem_append_right _ (List.mem_append_right _ (List.mem_append_right _ (List.mem_append_right _ (List.mem_append_right _ (List.mem_append_right _ (List.mem_append_right _ (List.mem_append_right _ (List.mem_append_right _ (List.mem_append_right _ (List.mem_append_right _ (List.mem_append_right _ (List.mem_append_right _ (List.mem_append_right _ (List.mem_append_right _ (List.mem_append_right _ (List.mem_append_right _ (List.mem_append_right _ (List.mem_append_right _ (List.mem_append_right _ (List.mem_append_right _ (List.mem_append_right _ (List.mem_append_right _ (List.mem_append_right _ (List.mem_append_right _ (List.mem_append_right _ (List.mem_append_right _ (List.mem_append_right _ (List.mem_append_right _ (List.mem_append_right _ (List.mem_append_right _ (List.mem_append_right _ (List.mem_append_left _ h))))))))))))))))))))))))))))))))))))))))))))))
theorem zr_35 : ∀ w ∈ wsL_law_r35, w ∈ wsL_law := fun w h => List.mem_append_left _ (List.mem_append_left _ (List.mem_append_left _ (List.mem_append_left _ (List.mem_append_left _ (List.mem_append_left _ (List.mem_append_left _ (List.mem_append_left _ (List.mem_append_left _ (List.mem_append_left _ (List.mem_append_left _ (List.mem_append_left _ (List.mem_append_left _ (List.mem_append_right _ (List.mem_append_right _ (List.mem_append_right _ (List.mem_append_right _ (List.mem_append_right _ (List.mem_append_right _ (List.mem_append_right _ (List.mem_append_right _ (List.mem_append_right _ (List.mem_append_right _ (List.mem_append_right _ (List.mem_append_right _ (List.mem_append_right _ (List.mem_append_right _ (List.mem_append_right _ (List.mem_append_right _ (List.mem_append_right _ (List.mem_append_right _ (List.mem_append_right _ (List.mem_append_right _ (List.mem_append_right _ (List.mem_append_right _ (List.mem_append_right _ (List.mem_append_right _ (List.mem_append_right _ (List.mem_append_right _ (List.mem_append_right _ (List.mem_append_right _ (List.mem_append_right _ (List.mem_append_right _ (List.mem_append_right _ (List.mem_append_right _ (List.mem_append_right _ (List.mem_append_right _ (List.mem_append_left _ h)))))))))))))))))))))))))))))))))))))))))))))))
theorem zr_36 : ∀ w ∈ wsL_law_r36, w ∈ wsL_law := fun w h => List.mem_append_left _ (List.mem_append_left _ (List.mem_append_left _ (List.mem_append_left _ (List.mem_append_left _ (List.mem_append_left _ (List.mem_append_left _ (List.mem_append_left _ (List.mem_append_left _ (List.mem_append_left _ (List.mem_append_left _ (List.mem_append_left _ (List.mem_append_left _ (List.mem_append_right _ (List.mem_append_right _ (List.mem_append_right _ (List.mem_append_right _ (List.mem_append_right _ (List.mem_append_right _ (List.mem_append_right _ (List.mem_append_right _ (List.mem_append_right _ (List.mem_append_right _ (List.mem_append_right _ (List.mem_append_right _ (List.mem_append_right _ (List.mem_append_right _ (List.mem_append_right _ (List.mem_append_right _ (List.mem_append_right _ (List.mem_append_right _ (List.mem_append_right _ (List.mem_append_right _ (List.mem_append_right _ (List.mem_append_right _ (List.mem_append_right _ (List.mem_append_right _ (List.mem_append_right _ (List.mem_append_right _ (List.mem_append_right _ (List.mem_append_right _ (List.mem_append_right _ (List.mem_append_right _ (List.mem_append_right _ (List.mem_append_right _ (List.mem_append_right _ (List.mem_append_right _ (List.mem_append_right _ (List.mem_append_left _ h))))))))))))))))))))))))))))))))))))))))))))))))
theorem zr_37 : ∀ w ∈ wsL_law_r37, w ∈ wsL_law := fun w h => List.mem_append_left _ (List.mem_append_left _ (List.mem_append_left _ (List.mem_append_left _ (List.mem_append_left _ (List.mem_append_left _ (List.mem_append_left _ (List.mem_append_left _ (List.mem_append_left _ (List.mem_append_left _ (List.mem_append_left _ (List.mem_append_left _ (List.mem_append_left _ (List.mem_append_right _ (List.mem_append_right _ (List.mem_append_right _ (List.mem_append_right _ (List.mem_append_right _ (List.mem_append_right _ (List.mem_append_right _ (List.mem_append_right _ (List.mem_append_right _ (List.mem_append_right _ (List.mem_append_right _ (List.mem_append_right _ (List.mem_append_right _ (List.mem_append_right _ (List.mem_append_right _ (List.mem_append_right _ (List.mem_append_right _ (List.mem_append_right _ (List.mem_append_right _ (List.mem_append_right _ (List.mem_append_right _ (List.mem_append_right _ (List.mem_append_right _ (List.mem_append_right _ (List.mem_append_right _ (List.mem_append_right _ (List.mem_append_right _ (List.mem_append_right _ (List.mem_append_right _ (List.mem_append_right _ (List.mem_append_right _ (List.mem_append_right _ (List.mem_append_right _ (List.mem_append_right _ (List.mem_append_right _ (List.mem_append_right _ (List.mem_append_left _ h)))))))))))))))))))))))))))))))))))))))))))))))))
theorem zr_38 : ∀ w ∈ wsL_law_r38, w ∈ wsL_law := fun w h => List.mem_append_left _ (List.mem_append_left _ (List.mem_append_left _ (List.mem_append_left _ (List.mem_append_left _ (List.mem_append_left _ (List.mem_append_left _ (List.mem_append_left _ (List.mem_append_left _ (List.mem_append_left _ (List.mem_append_left _ (List.mem_append_left _ (List.mem_append_left _ (List.mem_append_right _ (List.mem_append_right _ (List.mem_append_right _ (List.mem_append_right _ (List.mem_append_right _ (List.mem_append_right _ (List.mem_append_right _ (List.mem_append_right _ (List.mem_append_right _ (List.mem_append_right _ (List.mem_append_right _ (List.mem_append_right _ (List.mem_append_right _ (List.mem_append_right _ (List.mem_append_right _ (List.mem_append_right _ (List.mem_append_right _ (List.mem_append_right _ (List.mem_append_right _ (List.mem_append_right _ (List.mem_append_right _ (List.mem_append_right _ (List.mem_append_right _ (List.mem_append_right _ (List.mem_append_right _ (List.mem_append_right _ (List.mem_append_right _ (List.mem_append_right _ (List.mem_append_right _ (List.mem_append_right _ (List.mem_append_right _ (List.mem_append_right _ (List.mem_append_right _ (List.mem_append_right _ (List.mem_append_right _ (List.mem_append_right _ (List.mem_append_right _ (List.mem_append_left _ h))))))))))))))))))))))))))))))))))))))))))))))))))
theorem zr_39 : ∀ w ∈ wsL_law_r39, w ∈ wsL_law := fun w h => List.mem_append_left _ (List.mem_append_left _ (List.mem_append_left _ (List.mem_append_left _ (List.mem_append_left _ (List.mem_append_left _ (List.mem_append_left _ (List.mem_append_left _ (List.mem_append_left _ (List.mem_append_left _ (List.mem_append_left _ (List.mem_append_left _ (List.mem_append_left _ (List.mem_append_right _ (List.mem_append_right _ (List.mem_append_right _ (List.mem_append_right _ (List.mem_append_right _ (List.mem_append_right _ (List.mem_append_right _ (List.mem_append_right _ (List.mem_append_right _ (List.mem_append_right _ (List.mem_append_right _ (List.mem_append_right _ (List.mem_append_right _ (List.mem_append_right _ (List.mem_append_right _ (List.mem_append_right _ (List.mem_append_right _ (List.mem_append_right _ (List.mem_append_right _ (List.mem_append_right _ (List.mem_append_right _ (List.mem_append_right _ (List.mem_append_right _ (List.mem_append_right _ (List.mem_append_right _ (List.mem_append_right _ (List.mem_append_right _ (List.mem_append_right _ (List.mem_append_right _ (List.mem_append_right _ (List.mem_append_right _ (List.mem_append_right _ (List.mem_append_right _ (List.mem_append_right _ (List.mem_append_right _ (List.mem_append_right _ (List.mem_append_right _ (List.mem_append_right _ (List.mem_append_left _ h)))))))))))))))))))))))))))))))))))))))))))))))))))
theorem zr_40 : ∀ w ∈ wsL_law_r40, w ∈ wsL_law := fun w h => List.mem_append_left _ (List.mem_append_left _ (List.mem_append_left _ (List.mem_append_left _ (List.mem_append_left _ (List.mem_append_left _ (List.mem_append_left _ (List.mem_append_left _ (List.mem_append_left _ (List.mem_append_left _ (List.mem_append_left _ (List.mem_append_left _ (List.mem_append_left _ (List.mem_append_right _ (List.mem_append_right _ (List.mem_append_right _ (List.mem_append_right _ (List.mem_append_right _ (List.mem_append_right _ (List.mem_append_right _ (List.mem_append_right _ (List.mem_append_right _ (List.mem_append_right _ (List.mem_append_right _ (List.mem_append_right _ (List.mem_append_right _ (List.mem_append_right _ (List.mem_append_right _ (List.mem_append_right _ (List.mem_append_right _ (List.mem_append_right _ (List.mem_append_right _ (List.mem_append_right _ (List.mem_append_right _ (List.mem_append_right _ (List.mem_append_right _ (List.mem_append_right _ (List.mem_append_right _ (List.mem_append_right _ (List.mem_append_right _ (List.mem_append_right _ (List.mem_append_right _ (List.mem_append_right _ (List.mem_append_right _ (List.mem_append_right _ (List.mem_append_right _ (List.mem_append_right _ (List.mem_append_right _ (List.mem_append_right _ (List.mem_append_right _ (List.mem_append_right _ (List.mem_append_right _ (List.mem_append_left _ h))))))))))))))))))))))))))))))))))))))))))))))))))))
theorem zr_41 : ∀ w ∈ wsL_law_r41, w ∈ wsL_law := fun w h => List.mem_append_left _ (List.mem_append_left _ (List.mem_append_left _ (List.mem_append_left _ (List.mem_append_left _ (List.mem_append_left _ (List.mem_append_left _ (List.mem_append_left _ (List.mem_append_left _ (List.mem_append_left _ (List.mem_append_left _ (List.mem_append_left _ (List.mem_append_left _ (List.mem_append_right _ (List.mem_append_right _ (List.mem_append_right _ (List.mem_append_right _ (List.mem_append_right _ (List.mem_append_right _ (List.mem_append_right _ (List.mem_append_right _ (List.mem_append_right _ (List.mem_append_right _ (List.mem_append_right _ (List.mem_append_right _ (List.mem_append_right _ (List.mem_append_right _ (List.mem_append_right _ (List.mem_append_right _ (List.mem_append_right _ (List.mem_append_right _ (List.mem_append_right _ (List.mem_append_right _ (List.mem_append_right _ (List.mem_append_right _ (List.mem_append_right _ (List.mem_append_right _ (List.mem_append_right _ (List.mem_append_right _ (List.mem_append_right _ (List.mem_append_right _ (List.mem_append_right _ (List.mem_append_right _ (List.mem_append_right _ (List.mem_append_right _ (List.mem_append_right _ (List.mem_append_right _ (List.mem_append_right _ (List.mem_append_right _ (List.mem_append_right _ (List.mem_append_right _ (List.mem_append_right _ (List.mem_append_right _ (List.mem_append_left _ h)))))))))))))))))))))))))))))))))))))))))))))))))))))
theorem zr_42 : ∀ w ∈ wsL_law_r42, w ∈ wsL_law := fun w h => List.mem_append_left _ (List.mem_append_left _ (List.mem_append_left _ (List.mem_append_left _ (List.mem_append_left _ (List.mem_append_left _ (List.mem_append_left _ (List.mem_append_left _ (List.mem_append_left _ (List.mem_append_left _ (List.mem_append_left _ (List.mem_append_left _ (List.mem_append_left _ (List.mem_append_right _ (List.mem_append_right _ (List.mem_append_right _ (List.mem_append_right _ (List.mem_append_right _ (List.mem_append_right _ (List.mem_append_right _ (List.mem_append_right _ (List.mem_append_right _ (List.mem_append_right _ (List.mem_append_right _ (List.mem_append_right _ (List.mem_append_right _ (List.mem_append_right _ (List.mem_append_right _ (List.mem_append_right _ (List.mem_append_right _ (List.mem_append_right _ (List.mem_append_right _ (List.mem_append_right _ (List.mem_append_right _ (List.mem_append_right _ (List.mem_append_right _ (List.mem_append_right _ (List.mem_append_right _ (List.mem_append_right _ (List.mem_append_right _ (List.mem_append_right _ (List.mem_append_right _ (List.mem_append_right _ (List.mem_append_right _ (List.mem_append_right _ (List.mem_append_right _ (List.mem_append_right _ (List.mem_append_right _ (List.mem_append_right _ (List.mem_append_right _ (List.mem_append_right _ (List.mem_append_right _ (List.mem_append_right _ (List.mem_append_right _ (List.mem_append_left _ h))))))))))))))))))))))))))))))))))))))))))))))))))))))
theorem zr_43 : ∀ w ∈ wsL_law_r43, w ∈ wsL_law := fun w h => List.mem_append_left _ (List.mem_append_left _ (List.mem_append_left _ (List.mem_append_left _ (List.mem_append_left _ (List.mem_append_left _ (List.mem_append_left _ (List.mem_append_left _ (List.mem_append_left _ (List.mem_append_left _ (List.mem_append_left _ (List.mem_append_left _ (List.mem_append_left _ (List.mem_append_right _ (List.mem_append_right _ (List.mem_append_right _ (List.mem_append_right _ (List.mem_append_right _ (List.mem_append_right _ (List.mem_append_right _ (List.mem_append_right _ (List.mem_append_right _ (List.mem_append_right _ (List.mem_append_right _ (List.mem_append_right _ (List.mem_append_right _ (List.mem_append_right _ (List.mem_append_right _ (List.mem_append_right _ (List.mem_append_right _ (List.mem_append_right _ (List.mem_append_right _ (List.mem_append_right _ (List.mem_append_right _ (List.mem_append_right _ (List.mem_append_right _ (List.mem_append_right _ (List.mem_append_right _ (List.mem_append_right _ (List.mem_append_right _ (List.mem_append_right _ (List.mem_append_right _ (List.mem_append_right _ (List.mem_append_right _ (List.mem_append_right _ (List.mem_append_right _ (List.mem_append_right _ (List.mem_append_right _ (List.mem_append_right _ (List.mem_append_right _ (List.mem_append_right _ (List.mem_append_right _ (List.mem_append_right _ (List.mem_append_right _ (List.mem_append_right _ (List.mem_append_left _ h)))))))))))))))))))))))))))))))))))))))))))))))))))))))
theorem zr_44 : ∀ w ∈ wsL_law_r44, w ∈ wsL_law := fun w h => List.mem_append_left _ (List.mem_append_left _ (List.mem_append_left _ (List.mem_append_left _ (List.mem_append_left _ (List.mem_append_left _ (List.mem_append_left _ (List.mem_append_left _ (List.mem_append_left _ (List.mem_append_left _ (List.mem_append_left _ (List.mem_append_left _ (List.mem_append_left _ (List.mem_append_right _ (List.mem_append_right _ (List.mem_append_right _ (List.mem_append_right _ (List.mem_append_right _ (List.mem_append_right _ (List.mem_append_right _ (List.mem_append_right _ (List.mem_append_right _ (List.mem_append_right _ (List.mem_append_right _ (List.mem_append_right _ (List.mem_append_right _ (List.mem_append_right _ (List.mem_append_right _ (List.mem_append_right _ (List.mem_append_right _ (List.mem_append_right _ (List.mem_append_right _ (List.mem_append_right _ (List.mem_append_right _ (List.mem_append_right _ (List.mem_append_right _ (List.mem_append_right _ (List.mem_append_right _ (List.mem_append_right _ (List.mem_append_right _ (List.mem_append_right _ (List.mem_append_right _ (List.mem_append_right _ (List.mem_append_right _ (List.mem_append_right _ (List.mem_append_right _ (List.mem_append_right _ (List.mem_append_right _ (List.mem_append_right _ (List.mem_append_right _ (List.mem_append_right _ (List.mem_append_right _ (List.mem_append_right _ (List.mem_append_right _ (List.mem_append_right _ (List.mem_append_right _ (List.mem_append_left _ h))))))))))))))))))))))))))))))))))))))))))))))))))))))))
theorem zr_45 : ∀ w ∈ wsL_law_r45, w ∈ wsL_law := fun w h => List.mem_append_left _ (List.mem_append_left _ (List.mem_append_left _ (List.mem_append_left _ (List.mem_append_left _ (List.mem_append_left _ (List.mem_append_left _ (List.mem_append_left _ (List.mem_append_left _ (List.mem_append_left _ (List.mem_append_left _ (List.mem_append_left _ (List.mem_append_left _ (List.mem_append_right _ (List.mem_append_right _ (List.mem_append_right _ (List.mem_append_right _ (List.mem_append_right _ (List.mem_append_right _ (List.mem_append_right _ (List.mem_append_right _ (List.mem_append_right _ (List.mem_append_right _ (List.mem_append_right _ (List.mem_append_right _ (List.mem_append_right _ (List.mem_append_right _ (List.mem_append_right _ (List.mem_append_right _ (List.mem_append_right _ (List.mem_append_right _ (List.mem_append_right _ (List.mem_append_right _ (List.mem_append_right _ (List.mem_append_right _ (List.mem_append_right _ (List.mem_append_right _ (List.mem_append_right _ (List.mem_append_right _ (List.mem_append_right _ (List.mem_append_right _ (List.mem_append_right _ (List.mem_append_right _ (List.mem_append_right _ (List.mem_append_right _ (List.mem_append_right _ (List.mem_append_right _ (List.mem_append_right _ (List.mem_append_right _ (List.mem_append_right _ (List.mem_append_right _ (List.mem_append_right _ (List.mem_append_right _ (List.mem_append_right _ (List.mem_append_right _ (List.mem_append_right _ (List.mem_append_right _ (List.mem_append_left _ h)))))))))))))))))))))))))))))))))))))))))))))))))))))))))
theorem zr_46 : ∀ w ∈ wsL_law_r46, w ∈ wsL_law := fun w h => List.mem_append_left _ (List.mem_append_left _ (List.mem_append_left _ (List.mem_append_left _ (List.mem_append_left _ (List.mem_append_left _ (List.mem_append_left _ (List.mem_append_left _ (List.mem_append_left _ (List.mem_append_left _ (List.mem_append_left _ (List.mem_append_left _ (List.mem_append_left _ (List.mem_append_right _ (List.mem_append_right _ (List.mem_append_right _ (List.mem_append_right _ (List.mem_append_right _ (List.mem_append_right _ (List.mem_append_right _ (List.mem_append_right _ (List.mem_append_right _ (List.mem_append_right _ (List.mem_append_right _ (List.mem_append_right _ (List.mem_append_right _ (List.mem_append_right _ (List.mem_append_right _ (List.mem_append_right _ (List.mem_append_right _ (List.mem_append_right _ (List.mem_append_right _ (List.mem_append_right _ (List.mem_append_right _ (List.mem_append_right _ (List.mem_append_right _ (List.mem_append_right _ (List.mem_append_right _ (List.mem_append_right _ (List.mem_append_right _ (List.mem_append_right _ (List.mem_append_right _ (List.mem_append_right _ (List.mem_append_right _ (List.mem_append_right _ (List.mem_append_right _ (List.mem_append_right _ (List.mem_append_right _ (List.mem_append_right _ (List.mem_append_right _ (List.mem_append_right _ (List.mem_append_right _ (List.mem_append_right _ (List.mem_append_right _ (List.mem_append_right _ (List.mem_append_right _ (List.mem_append_right _ (List.mem_append_right _ (h))))))))))))))))))))))))))))))))))))))))))))))))))))))))))
theorem zf_10 : ∀ w ∈ u_ws RX10 TX10 14, w ∈ wsL_law := fun w h => List.mem_append_left _ (List.mem_append_left _ (List.mem_append_left _ (List.mem_append_left _ (List.mem_append_left _ (List.mem_append_left _ (List.mem_append_left _ (List.mem_append_left _ (List.mem_append_left _ (List.mem_append_left _ (List.mem_append_left _ (List.mem_append_left _ (List.mem_append_right _ h))))))))))))
theorem zf_11 : ∀ w ∈ u_ws RX11 TX11 31, w ∈ wsL_law := fun w h => List.mem_append_left _ (List.mem_append_left _ (List.mem_append_left _ (List.mem_append_left _ (List.mem_append_left _ (List.mem_append_left _ (List.mem_append_left _ (List.mem_append_left _ (List.mem_append_left _ (List.mem_append_left _ (List.mem_append_left _ (List.mem_append_right _ h)))))))))))
theorem zf_5 : ∀ w ∈ u_ws RX5 TX5 5, w ∈ wsL_law := fun w h => List.mem_append_left _ (List.mem_append_left _ (List.mem_append_left _ (List.mem_append_left _ (List.mem_append_left _ (List.mem_append_left _ (List.mem_append_left _ (List.mem_append_left _ (List.mem_append_left _ (List.mem_append_left _ (List.mem_append_right _ h))))))))))
theorem zf_2 : ∀ w ∈ u_ws RX2 TX2 3, w ∈ wsL_law := fun w h => List.mem_append_left _ (List.mem_append_left _ (List.mem_append_left _ (List.mem_append_left _ (List.mem_append_left _ (List.mem_append_left _ (List.mem_append_left _ (List.mem_append_left _ (List.mem_append_left _ (List.mem_append_right _ h)))))))))
theorem zf_9 : ∀ w ∈ u_ws RX9 TX9 7, w ∈ wsL_law := fun w h => List.mem_append_left _ (List.mem_append_left _ (List.mem_append_left _ (List.mem_append_left _ (List.mem_append_left _ (List.mem_append_left _ (List.mem_append_left _ (List.mem_append_left _ (List.mem_append_right _ h))))))))
theorem zf_7 : ∀ w ∈ u_ws RX7 TX7 4, w ∈ wsL_law := fun w h => List.mem_append_left _ (List.mem_append_left _ (List.mem_append_left _ (List.mem_append_left _ (List.mem_append_left _ (List.mem_append_left _ (List.mem_append_left _ (List.mem_append_right _ h)))))))
theorem zf_8 : ∀ w ∈ u_ws RX8 TX8 8, w ∈ wsL_law := fun w h => List.mem_append_left _ (List.mem_append_left _ (List.mem_append_left _ (List.mem_append_left _ (List.mem_append_left _ (List.mem_append_left _ (List.mem_append_right _ h))))))
theorem zf_1 : ∀ w ∈ u_ws RX1 TX1 5, w ∈ wsL_law := fun w h => List.mem_append_left _ (List.mem_append_left _ (List.mem_append_left _ (List.mem_append_left _ (List.mem_append_left _ (List.mem_append_right _ h)))))
theorem zf_6 : ∀ w ∈ u_ws RX6 TX6 7, w ∈ wsL_law := fun w h => List.mem_append_left _ (List.mem_append_left _ (List.mem_append_left _ (List.mem_append_left _ (List.mem_append_right _ h))))
theorem zf_4 : ∀ w ∈ u_ws RX4 TX4 5, w ∈ wsL_law := fun w h => List.mem_append_left _ (List.mem_append_left _ (List.mem_append_left _ (List.mem_append_right _ h)))
theorem zf_3 : ∀ w ∈ u_ws RX3 TX3 7, w ∈ wsL_law := fun w h => List.mem_append_left _ (List.mem_append_left _ (List.mem_append_right _ h))
theorem zf_0 : ∀ w ∈ u_ws RX0 TX0 1, w ∈ wsL_law := fun w h => List.mem_append_left _ (List.mem_append_right _ h)
theorem zw_0 : Cond.classLink RL 7 RX10 ∈ wsL_law := zr_1 _ (List.mem_of_getElem? (i := 0) rfl)
theorem zw_1 : Cond.instantiable RX10 14 ∈ wsL_law := zr_1 _ (List.mem_of_getElem? (i := 1) rfl)
theorem zw_2 : Cond.initialized RX10 ∈ wsL_law := zr_1 _ (List.mem_of_getElem? (i := 2) rfl)
theorem zw_3 : Cond.classLink RL 10 RX11 ∈ wsL_law := zr_1 _ (List.mem_of_getElem? (i := 3) rfl)
theorem zw_4 : Cond.instantiable RX11 31 ∈ wsL_law := zr_1 _ (List.mem_of_getElem? (i := 4) rfl)
theorem zw_5 : Cond.initialized RX11 ∈ wsL_law := zr_1 _ (List.mem_of_getElem? (i := 5) rfl)
theorem zw_6 : Cond.constantLong RL 40 (4294967295) ∈ wsL_law := zr_1 _ (List.mem_of_getElem? (i := 6) rfl)
theorem zw_7 : Cond.methodLink RL 9 yX10_init ∈ wsL_law := zr_1 _ (List.mem_of_getElem? (i := 7) rfl)
theorem zw_8 : Cond.instanceMethod yX10_init ∈ wsL_law := zr_1 _ (List.mem_of_getElem? (i := 8) rfl)
theorem zw_9 : Cond.code yX10_init cX10_init 6 none ∈ wsL_law := zr_1 _ (List.mem_of_getElem? (i := 9) rfl)
theorem zw_10 : Cond.methodLink RX10 1 objectInit ∈ wsL_law := zr_1 _ (List.mem_of_getElem? (i := 10) rfl)
theorem zw_11 : Cond.instanceMethod objectInit ∈ wsL_law := zr_1 _ (List.mem_of_getElem? (i := 11) rfl)
theorem zw_12 : Cond.code objectInit ⟨#[0xb1]⟩ 1 none ∈ wsL_law := zr_1 _ (List.mem_of_getElem? (i := 12) rfl)
theorem zw_13 : Cond.classLink RX10 7 RX5 ∈ wsL_law := zr_1 _ (List.mem_of_getElem? (i := 13) rfl)
theorem zw_14 : Cond.instantiable RX5 5 ∈ wsL_law := zr_1 _ (List.mem_of_getElem? (i := 14) rfl)
theorem zw_15 : Cond.initialized RX5 ∈ wsL_law := zr_1 _ (List.mem_of_getElem? (i := 15) rfl)
theorem zw_16 : Cond.fieldLink RX10 10 "SpokenClock" "quarrel" "LSpokenClock$Quarrel;" ∈ wsL_law := zr_1 _ (List.mem_of_getElem? (i := 16) rfl)
theorem zw_17 : Cond.classLink RX10 16 RX2 ∈ wsL_law := zr_1 _ (List.mem_of_getElem? (i := 17) rfl)
theorem zw_18 : Cond.instantiable RX2 3 ∈ wsL_law := zr_1 _ (List.mem_of_getElem? (i := 18) rfl)
theorem zw_19 : Cond.initialized RX2 ∈ wsL_law := zr_1 _ (List.mem_of_getElem? (i := 19) rfl)
theorem zw_20 : Cond.fieldLink RX10 19 "SpokenClock" "fraction" "LSpokenClock$Fraction;" ∈ wsL_law := zr_1 _ (List.mem_of_getElem? (i := 20) rfl)
theorem zw_21 : Cond.classLink RX10 23 RX9 ∈ wsL_law := zr_1 _ (List.mem_of_getElem? (i := 21) rfl)
theorem zw_22 : Cond.instantiable RX9 7 ∈ wsL_law := zr_1 _ (List.mem_of_getElem? (i := 22) rfl)
theorem zw_23 : Cond.initialized RX9 ∈ wsL_law := zr_1 _ (List.mem_of_getElem? (i := 23) rfl)
theorem zw_24 : Cond.fieldLink RX10 26 "SpokenClock" "firstImage" "LSpokenClock$State;" ∈ wsL_law := zr_2 _ (List.mem_of_getElem? (i := 0) rfl)
theorem zw_25 : Cond.fieldLink RX10 30 "SpokenClock" "secondImage" "LSpokenClock$State;" ∈ wsL_law := zr_2 _ (List.mem_of_getElem? (i := 1) rfl)
theorem zw_26 : Cond.arrayClass .boolean ∈ wsL_law := zr_2 _ (List.mem_of_getElem? (i := 2) rfl)
theorem zw_27 : Cond.fieldLink RX10 33 "SpokenClock" "kept" "[Z" ∈ wsL_law := zr_2 _ (List.mem_of_getElem? (i := 3) rfl)
theorem zw_28 : Cond.arrayClass .int ∈ wsL_law := zr_2 _ (List.mem_of_getElem? (i := 4) rfl)
theorem zw_29 : Cond.fieldLink RX10 37 "SpokenClock" "refusals" "[I" ∈ wsL_law := zr_2 _ (List.mem_of_getElem? (i := 5) rfl)
theorem zw_30 : Cond.classLink RX10 41 RX7 ∈ wsL_law := zr_2 _ (List.mem_of_getElem? (i := 6) rfl)
theorem zw_31 : Cond.instantiable RX7 4 ∈ wsL_law := zr_2 _ (List.mem_of_getElem? (i := 7) rfl)
theorem zw_32 : Cond.initialized RX7 ∈ wsL_law := zr_2 _ (List.mem_of_getElem? (i := 8) rfl)
theorem zw_33 : Cond.classLink RX10 46 RX8 ∈ wsL_law := zr_2 _ (List.mem_of_getElem? (i := 9) rfl)
theorem zw_34 : Cond.instantiable RX8 8 ∈ wsL_law := zr_2 _ (List.mem_of_getElem? (i := 10) rfl)
theorem zw_35 : Cond.initialized RX8 ∈ wsL_law := zr_2 _ (List.mem_of_getElem? (i := 11) rfl)
theorem zw_36 : Cond.classLink RX10 51 RX1 ∈ wsL_law := zr_2 _ (List.mem_of_getElem? (i := 12) rfl)
theorem zw_37 : Cond.instantiable RX1 5 ∈ wsL_law := zr_2 _ (List.mem_of_getElem? (i := 13) rfl)
theorem zw_38 : Cond.initialized RX1 ∈ wsL_law := zr_2 _ (List.mem_of_getElem? (i := 14) rfl)
theorem zw_39 : Cond.classLink RX10 56 RX6 ∈ wsL_law := zr_2 _ (List.mem_of_getElem? (i := 15) rfl)
theorem zw_40 : Cond.instantiable RX6 7 ∈ wsL_law := zr_2 _ (List.mem_of_getElem? (i := 16) rfl)
theorem zw_41 : Cond.initialized RX6 ∈ wsL_law := zr_2 _ (List.mem_of_getElem? (i := 17) rfl)
theorem zw_42 : Cond.fieldLink RX10 61 "SpokenClock" "reader" "LSpokenClock$Reader;" ∈ wsL_law := zr_2 _ (List.mem_of_getElem? (i := 18) rfl)
theorem zw_43 : Cond.classLink RX10 65 RX4 ∈ wsL_law := zr_2 _ (List.mem_of_getElem? (i := 19) rfl)
theorem zw_44 : Cond.instantiable RX4 5 ∈ wsL_law := zr_2 _ (List.mem_of_getElem? (i := 20) rfl)
theorem zw_45 : Cond.initialized RX4 ∈ wsL_law := zr_2 _ (List.mem_of_getElem? (i := 21) rfl)
theorem zw_46 : Cond.fieldLink RX10 68 "SpokenClock" "plan" "LSpokenClock$Plan;" ∈ wsL_law := zr_2 _ (List.mem_of_getElem? (i := 22) rfl)
theorem zw_47 : Cond.classLink RX10 72 RX3 ∈ wsL_law := zr_2 _ (List.mem_of_getElem? (i := 23) rfl)
theorem zw_48 : Cond.instantiable RX3 7 ∈ wsL_law := zr_3 _ (List.mem_of_getElem? (i := 0) rfl)
theorem zw_49 : Cond.initialized RX3 ∈ wsL_law := zr_3 _ (List.mem_of_getElem? (i := 1) rfl)
theorem zw_50 : Cond.fieldLink RX10 77 "SpokenClock" "guess" "LSpokenClock$Guess;" ∈ wsL_law := zr_3 _ (List.mem_of_getElem? (i := 2) rfl)
theorem zw_51 : Cond.fieldLink RX10 81 "SpokenClock" "now" "LSpokenClock$State;" ∈ wsL_law := zr_3 _ (List.mem_of_getElem? (i := 3) rfl)
theorem zw_52 : Cond.fieldLink RX10 84 "SpokenClock" "draft" "LSpokenClock$State;" ∈ wsL_law := zr_3 _ (List.mem_of_getElem? (i := 4) rfl)
theorem zw_53 : Cond.fieldLink RX10 87 "SpokenClock" "text" "LSpokenClock$Rows;" ∈ wsL_law := zr_3 _ (List.mem_of_getElem? (i := 5) rfl)
theorem zw_54 : Cond.fieldLink RX10 91 "SpokenClock" "rule" "LSpokenClock$Rule;" ∈ wsL_law := zr_3 _ (List.mem_of_getElem? (i := 6) rfl)
theorem zw_55 : Cond.fieldLink RX10 95 "SpokenClock" "day" "LSpokenClock$Day;" ∈ wsL_law := zr_3 _ (List.mem_of_getElem? (i := 7) rfl)
theorem zw_56 : Cond.instanceMethod yX5_init ∈ wsL_law := zr_3 _ (List.mem_of_getElem? (i := 8) rfl)
theorem zw_57 : Cond.code yX5_init cX5_init 1 none ∈ wsL_law := zr_3 _ (List.mem_of_getElem? (i := 9) rfl)
theorem zw_58 : Cond.methodLink RX5 3 objectInit ∈ wsL_law := zr_3 _ (List.mem_of_getElem? (i := 10) rfl)
theorem zw_59 : Cond.fieldLink RX5 11 "SpokenClock$Quarrel" "hers" "[I" ∈ wsL_law := zr_3 _ (List.mem_of_getElem? (i := 11) rfl)
theorem zw_60 : Cond.fieldLink RX5 15 "SpokenClock$Quarrel" "his" "[I" ∈ wsL_law := zr_3 _ (List.mem_of_getElem? (i := 12) rfl)
theorem zw_61 : Cond.fieldLink RX5 18 "SpokenClock$Quarrel" "talks" "[I" ∈ wsL_law := zr_3 _ (List.mem_of_getElem? (i := 13) rfl)
theorem zw_62 : Cond.instanceMethod yX2_init ∈ wsL_law := zr_3 _ (List.mem_of_getElem? (i := 14) rfl)
theorem zw_63 : Cond.code yX2_init cX2_init 1 none ∈ wsL_law := zr_3 _ (List.mem_of_getElem? (i := 15) rfl)
theorem zw_64 : Cond.methodLink RX2 1 objectInit ∈ wsL_law := zr_3 _ (List.mem_of_getElem? (i := 16) rfl)
theorem zw_65 : Cond.classLink RX2 7 RX0 ∈ wsL_law := zr_3 _ (List.mem_of_getElem? (i := 17) rfl)
theorem zw_66 : Cond.instantiable RX0 1 ∈ wsL_law := zr_3 _ (List.mem_of_getElem? (i := 18) rfl)
theorem zw_67 : Cond.initialized RX0 ∈ wsL_law := zr_3 _ (List.mem_of_getElem? (i := 19) rfl)
theorem zw_68 : Cond.fieldLink RX2 12 "SpokenClock$Fraction" "above" "LSpokenClock$Big;" ∈ wsL_law := zr_3 _ (List.mem_of_getElem? (i := 20) rfl)
theorem zw_69 : Cond.fieldLink RX2 18 "SpokenClock$Fraction" "below" "LSpokenClock$Big;" ∈ wsL_law := zr_3 _ (List.mem_of_getElem? (i := 21) rfl)
theorem zw_70 : Cond.fieldLink RX2 21 "SpokenClock$Fraction" "term" "LSpokenClock$Big;" ∈ wsL_law := zr_3 _ (List.mem_of_getElem? (i := 22) rfl)
theorem zw_71 : Cond.methodLink RX2 9 yX0_init ∈ wsL_law := zr_3 _ (List.mem_of_getElem? (i := 23) rfl)
theorem zw_72 : Cond.instanceMethod yX0_init ∈ wsL_law := zr_4 _ (List.mem_of_getElem? (i := 0) rfl)
theorem zw_73 : Cond.code yX0_init cX0_init 2 none ∈ wsL_law := zr_4 _ (List.mem_of_getElem? (i := 1) rfl)
theorem zw_74 : Cond.methodLink RX0 5 objectInit ∈ wsL_law := zr_4 _ (List.mem_of_getElem? (i := 2) rfl)
theorem zw_75 : Cond.fieldLink RX0 11 "SpokenClock$Big" "limbs" "[I" ∈ wsL_law := zr_4 _ (List.mem_of_getElem? (i := 3) rfl)
theorem zw_76 : Cond.instanceMethod yX9_init ∈ wsL_law := zr_4 _ (List.mem_of_getElem? (i := 4) rfl)
theorem zw_77 : Cond.code yX9_init cX9_init 1 none ∈ wsL_law := zr_4 _ (List.mem_of_getElem? (i := 5) rfl)
theorem zw_78 : Cond.methodLink RX9 3 objectInit ∈ wsL_law := zr_4 _ (List.mem_of_getElem? (i := 6) rfl)
theorem zw_79 : Cond.classLink RX9 9 RX7 ∈ wsL_law := zr_4 _ (List.mem_of_getElem? (i := 7) rfl)
theorem zw_80 : Cond.fieldLink RX9 18 "SpokenClock$State" "people" "LSpokenClock$Rows;" ∈ wsL_law := zr_4 _ (List.mem_of_getElem? (i := 8) rfl)
theorem zw_81 : Cond.fieldLink RX9 24 "SpokenClock$State" "talks" "LSpokenClock$Rows;" ∈ wsL_law := zr_4 _ (List.mem_of_getElem? (i := 9) rfl)
theorem zw_82 : Cond.fieldLink RX9 27 "SpokenClock$State" "dues" "LSpokenClock$Rows;" ∈ wsL_law := zr_4 _ (List.mem_of_getElem? (i := 10) rfl)
theorem zw_83 : Cond.fieldLink RX9 30 "SpokenClock$State" "sights" "LSpokenClock$Rows;" ∈ wsL_law := zr_4 _ (List.mem_of_getElem? (i := 11) rfl)
theorem zw_84 : Cond.fieldLink RX9 33 "SpokenClock$State" "rule" "LSpokenClock$Rows;" ∈ wsL_law := zr_4 _ (List.mem_of_getElem? (i := 12) rfl)
theorem zw_85 : Cond.fieldLink RX9 36 "SpokenClock$State" "settings" "[I" ∈ wsL_law := zr_4 _ (List.mem_of_getElem? (i := 13) rfl)
theorem zw_86 : Cond.fieldLink RX9 39 "SpokenClock$State" "stake" "[I" ∈ wsL_law := zr_4 _ (List.mem_of_getElem? (i := 14) rfl)
theorem zw_87 : Cond.methodLink RX9 15 yX7_init ∈ wsL_law := zr_4 _ (List.mem_of_getElem? (i := 15) rfl)
theorem zw_88 : Cond.instanceMethod yX7_init ∈ wsL_law := zr_4 _ (List.mem_of_getElem? (i := 16) rfl)
theorem zw_89 : Cond.code yX7_init cX7_init 3 none ∈ wsL_law := zr_4 _ (List.mem_of_getElem? (i := 17) rfl)
theorem zw_90 : Cond.methodLink RX7 3 objectInit ∈ wsL_law := zr_4 _ (List.mem_of_getElem? (i := 18) rfl)
theorem zw_91 : Cond.methodLink RX7 9 Lib.Math.max.name ∈ wsL_law := zr_4 _ (List.mem_of_getElem? (i := 19) rfl)
theorem zw_92 : Cond.static Lib.Math.max.name ∈ wsL_law := zr_4 _ (List.mem_of_getElem? (i := 20) rfl)
theorem zw_93 : Cond.initialized "java/lang/Math" ∈ wsL_law := zr_4 _ (List.mem_of_getElem? (i := 21) rfl)
theorem zw_94 : Cond.code Lib.Math.max.name Lib.Math.max.code 2 (some .int) ∈ wsL_law := zr_4 _ (List.mem_of_getElem? (i := 22) rfl)
theorem zw_95 : Cond.methodLink RX7 15 Lib.Math.min.name ∈ wsL_law := zr_4 _ (List.mem_of_getElem? (i := 23) rfl)
theorem zw_96 : Cond.static Lib.Math.min.name ∈ wsL_law := zr_5 _ (List.mem_of_getElem? (i := 0) rfl)
theorem zw_97 : Cond.code Lib.Math.min.name Lib.Math.min.code 2 (some .int) ∈ wsL_law := zr_5 _ (List.mem_of_getElem? (i := 1) rfl)
theorem zw_98 : Cond.fieldLink RX7 18 "SpokenClock$Rows" "width" "I" ∈ wsL_law := zr_5 _ (List.mem_of_getElem? (i := 2) rfl)
theorem zw_99 : Cond.fieldLink RX7 24 "SpokenClock$Rows" "limit" "I" ∈ wsL_law := zr_5 _ (List.mem_of_getElem? (i := 3) rfl)
theorem zw_100 : Cond.fieldLink RX7 27 "SpokenClock$Rows" "cells" "[I" ∈ wsL_law := zr_5 _ (List.mem_of_getElem? (i := 4) rfl)
theorem zw_101 : Cond.methodLink RX10 43 yX7_init ∈ wsL_law := zr_5 _ (List.mem_of_getElem? (i := 5) rfl)
theorem zw_102 : Cond.methodLink RX10 48 yX8_init ∈ wsL_law := zr_5 _ (List.mem_of_getElem? (i := 6) rfl)
theorem zw_103 : Cond.instanceMethod yX8_init ∈ wsL_law := zr_5 _ (List.mem_of_getElem? (i := 7) rfl)
theorem zw_104 : Cond.code yX8_init cX8_init 2 none ∈ wsL_law := zr_5 _ (List.mem_of_getElem? (i := 8) rfl)
theorem zw_105 : Cond.methodLink RX8 3 objectInit ∈ wsL_law := zr_5 _ (List.mem_of_getElem? (i := 9) rfl)
theorem zw_106 : Cond.fieldLink RX8 11 "SpokenClock$Rule" "row" "[I" ∈ wsL_law := zr_5 _ (List.mem_of_getElem? (i := 10) rfl)
theorem zw_107 : Cond.arrayClass .long ∈ wsL_law := zr_5 _ (List.mem_of_getElem? (i := 11) rfl)
theorem zw_108 : Cond.fieldLink RX8 15 "SpokenClock$Rule" "stack" "[J" ∈ wsL_law := zr_5 _ (List.mem_of_getElem? (i := 12) rfl)
theorem zw_109 : Cond.fieldLink RX8 19 "SpokenClock$Rule" "known" "[I" ∈ wsL_law := zr_5 _ (List.mem_of_getElem? (i := 13) rfl)
theorem zw_110 : Cond.fieldLink RX8 22 "SpokenClock$Rule" "isStale" "Z" ∈ wsL_law := zr_5 _ (List.mem_of_getElem? (i := 14) rfl)
theorem zw_111 : Cond.fieldLink RX8 26 "SpokenClock$Rule" "state" "LSpokenClock$State;" ∈ wsL_law := zr_5 _ (List.mem_of_getElem? (i := 15) rfl)
theorem zw_112 : Cond.methodLink RX10 53 yX1_init ∈ wsL_law := zr_5 _ (List.mem_of_getElem? (i := 16) rfl)
theorem zw_113 : Cond.instanceMethod yX1_init ∈ wsL_law := zr_5 _ (List.mem_of_getElem? (i := 17) rfl)
theorem zw_114 : Cond.code yX1_init cX1_init 3 none ∈ wsL_law := zr_5 _ (List.mem_of_getElem? (i := 18) rfl)
theorem zw_115 : Cond.methodLink RX1 3 objectInit ∈ wsL_law := zr_5 _ (List.mem_of_getElem? (i := 19) rfl)
theorem zw_116 : Cond.fieldLink RX1 9 "SpokenClock$Day" "talkers" "[I" ∈ wsL_law := zr_5 _ (List.mem_of_getElem? (i := 20) rfl)
theorem zw_117 : Cond.classLink RX1 15 "[[I" ∈ wsL_law := zr_5 _ (List.mem_of_getElem? (i := 21) rfl)
theorem zw_118 : Cond.fieldLink RX1 17 "SpokenClock$Day" "clocks" "[[I" ∈ wsL_law := zr_5 _ (List.mem_of_getElem? (i := 22) rfl)
theorem zw_119 : Cond.fieldLink RX1 20 "SpokenClock$Day" "isStale" "Z" ∈ wsL_law := zr_5 _ (List.mem_of_getElem? (i := 23) rfl)
theorem zw_120 : Cond.fieldLink RX1 24 "SpokenClock$Day" "state" "LSpokenClock$State;" ∈ wsL_law := zr_6 _ (List.mem_of_getElem? (i := 0) rfl)
theorem zw_121 : Cond.fieldLink RX1 28 "SpokenClock$Day" "rule" "LSpokenClock$Rule;" ∈ wsL_law := zr_6 _ (List.mem_of_getElem? (i := 1) rfl)
theorem zw_122 : Cond.methodLink RX10 58 yX6_init ∈ wsL_law := zr_6 _ (List.mem_of_getElem? (i := 2) rfl)
theorem zw_123 : Cond.instanceMethod yX6_init ∈ wsL_law := zr_6 _ (List.mem_of_getElem? (i := 3) rfl)
theorem zw_124 : Cond.code yX6_init cX6_init 3 none ∈ wsL_law := zr_6 _ (List.mem_of_getElem? (i := 4) rfl)
theorem zw_125 : Cond.methodLink RX6 3 objectInit ∈ wsL_law := zr_6 _ (List.mem_of_getElem? (i := 5) rfl)
theorem zw_126 : Cond.fieldLink RX6 9 "SpokenClock$Reader" "numbers" "[I" ∈ wsL_law := zr_6 _ (List.mem_of_getElem? (i := 6) rfl)
theorem zw_127 : Cond.fieldLink RX6 15 "SpokenClock$Reader" "text" "LSpokenClock$Rows;" ∈ wsL_law := zr_6 _ (List.mem_of_getElem? (i := 7) rfl)
theorem zw_128 : Cond.fieldLink RX6 19 "SpokenClock$Reader" "state" "LSpokenClock$State;" ∈ wsL_law := zr_6 _ (List.mem_of_getElem? (i := 8) rfl)
theorem zw_129 : Cond.methodLink RX10 67 yX4_init ∈ wsL_law := zr_6 _ (List.mem_of_getElem? (i := 9) rfl)
theorem zw_130 : Cond.instanceMethod yX4_init ∈ wsL_law := zr_6 _ (List.mem_of_getElem? (i := 10) rfl)
theorem zw_131 : Cond.code yX4_init cX4_init 2 none ∈ wsL_law := zr_6 _ (List.mem_of_getElem? (i := 11) rfl)
theorem zw_132 : Cond.methodLink RX4 3 objectInit ∈ wsL_law := zr_6 _ (List.mem_of_getElem? (i := 12) rfl)
theorem zw_133 : Cond.fieldLink RX4 11 "SpokenClock$Plan" "most" "[I" ∈ wsL_law := zr_6 _ (List.mem_of_getElem? (i := 13) rfl)
theorem zw_134 : Cond.fieldLink RX4 15 "SpokenClock$Plan" "steps" "[J" ∈ wsL_law := zr_6 _ (List.mem_of_getElem? (i := 14) rfl)
theorem zw_135 : Cond.fieldLink RX4 19 "SpokenClock$Plan" "isStale" "Z" ∈ wsL_law := zr_6 _ (List.mem_of_getElem? (i := 15) rfl)
theorem zw_136 : Cond.fieldLink RX4 23 "SpokenClock$Plan" "state" "LSpokenClock$State;" ∈ wsL_law := zr_6 _ (List.mem_of_getElem? (i := 16) rfl)
theorem zw_137 : Cond.methodLink RX10 74 yX3_init ∈ wsL_law := zr_6 _ (List.mem_of_getElem? (i := 17) rfl)
theorem zw_138 : Cond.instanceMethod yX3_init ∈ wsL_law := zr_6 _ (List.mem_of_getElem? (i := 18) rfl)
theorem zw_139 : Cond.code yX3_init cX3_init 3 none ∈ wsL_law := zr_6 _ (List.mem_of_getElem? (i := 19) rfl)
theorem zw_140 : Cond.methodLink RX3 3 objectInit ∈ wsL_law := zr_6 _ (List.mem_of_getElem? (i := 20) rfl)
theorem zw_141 : Cond.fieldLink RX3 9 "SpokenClock$Guess" "seen" "[I" ∈ wsL_law := zr_6 _ (List.mem_of_getElem? (i := 21) rfl)
theorem zw_142 : Cond.fieldLink RX3 15 "SpokenClock$Guess" "isStale" "Z" ∈ wsL_law := zr_6 _ (List.mem_of_getElem? (i := 22) rfl)
theorem zw_143 : Cond.fieldLink RX3 19 "SpokenClock$Guess" "state" "LSpokenClock$State;" ∈ wsL_law := zr_6 _ (List.mem_of_getElem? (i := 23) rfl)
theorem zw_144 : Cond.fieldLink RX3 23 "SpokenClock$Guess" "day" "LSpokenClock$Day;" ∈ wsL_law := zr_7 _ (List.mem_of_getElem? (i := 0) rfl)
theorem zw_145 : Cond.methodLink RL 12 yX11_init ∈ wsL_law := zr_7 _ (List.mem_of_getElem? (i := 1) rfl)
theorem zw_146 : Cond.instanceMethod yX11_init ∈ wsL_law := zr_7 _ (List.mem_of_getElem? (i := 2) rfl)
theorem zw_147 : Cond.code yX11_init cX11_init 1 none ∈ wsL_law := zr_7 _ (List.mem_of_getElem? (i := 3) rfl)
theorem zw_148 : Cond.methodLink RX11 1 objectInit ∈ wsL_law := zr_7 _ (List.mem_of_getElem? (i := 4) rfl)
theorem zw_149 : Cond.fieldLink RX11 7 "SpokenClockModel" "now" "[I" ∈ wsL_law := zr_7 _ (List.mem_of_getElem? (i := 5) rfl)
theorem zw_150 : Cond.fieldLink RX11 13 "SpokenClockModel" "images" "[I" ∈ wsL_law := zr_7 _ (List.mem_of_getElem? (i := 6) rfl)
theorem zw_151 : Cond.fieldLink RX11 16 "SpokenClockModel" "kept" "[Z" ∈ wsL_law := zr_7 _ (List.mem_of_getElem? (i := 7) rfl)
theorem zw_152 : Cond.fieldLink RX11 20 "SpokenClockModel" "text" "[I" ∈ wsL_law := zr_7 _ (List.mem_of_getElem? (i := 8) rfl)
theorem zw_153 : Cond.fieldLink RX11 23 "SpokenClockModel" "manyBelow" "I" ∈ wsL_law := zr_7 _ (List.mem_of_getElem? (i := 9) rfl)
theorem zw_154 : Cond.fieldLink RX11 27 "SpokenClockModel" "above" "[I" ∈ wsL_law := zr_7 _ (List.mem_of_getElem? (i := 10) rfl)
theorem zw_155 : Cond.fieldLink RX11 30 "SpokenClockModel" "below" "[I" ∈ wsL_law := zr_7 _ (List.mem_of_getElem? (i := 11) rfl)
theorem zw_156 : Cond.fieldLink RX11 33 "SpokenClockModel" "refused" "[I" ∈ wsL_law := zr_7 _ (List.mem_of_getElem? (i := 12) rfl)
theorem zw_157 : Cond.fieldLink RX11 36 "SpokenClockModel" "read" "[I" ∈ wsL_law := zr_7 _ (List.mem_of_getElem? (i := 13) rfl)
theorem zw_158 : Cond.fieldLink RX11 39 "SpokenClockModel" "act" "[I" ∈ wsL_law := zr_7 _ (List.mem_of_getElem? (i := 14) rfl)
theorem zw_159 : Cond.fieldLink RX11 42 "SpokenClockModel" "wait" "[I" ∈ wsL_law := zr_7 _ (List.mem_of_getElem? (i := 15) rfl)
theorem zw_160 : Cond.fieldLink RX11 45 "SpokenClockModel" "held" "[Z" ∈ wsL_law := zr_7 _ (List.mem_of_getElem? (i := 16) rfl)
theorem zw_161 : Cond.fieldLink RX11 48 "SpokenClockModel" "heap" "[J" ∈ wsL_law := zr_7 _ (List.mem_of_getElem? (i := 17) rfl)
theorem zw_162 : Cond.fieldLink RX11 52 "SpokenClockModel" "clocks" "[I" ∈ wsL_law := zr_7 _ (List.mem_of_getElem? (i := 18) rfl)
theorem zw_163 : Cond.fieldLink RX11 55 "SpokenClockModel" "counts" "[I" ∈ wsL_law := zr_7 _ (List.mem_of_getElem? (i := 19) rfl)
theorem zw_164 : Cond.fieldLink RX11 58 "SpokenClockModel" "talking" "[Z" ∈ wsL_law := zr_7 _ (List.mem_of_getElem? (i := 20) rfl)
theorem zw_165 : Cond.fieldLink RX11 61 "SpokenClockModel" "most" "[I" ∈ wsL_law := zr_7 _ (List.mem_of_getElem? (i := 21) rfl)
theorem zw_166 : Cond.fieldLink RX11 64 "SpokenClockModel" "hasA" "[I" ∈ wsL_law := zr_7 _ (List.mem_of_getElem? (i := 22) rfl)
theorem zw_167 : Cond.fieldLink RX11 67 "SpokenClockModel" "hasB" "[I" ∈ wsL_law := zr_7 _ (List.mem_of_getElem? (i := 23) rfl)
theorem zw_168 : Cond.fieldLink RX11 70 "SpokenClockModel" "talks" "[Z" ∈ wsL_law := zr_8 _ (List.mem_of_getElem? (i := 0) rfl)
theorem zw_169 : Cond.fieldLink RX11 73 "SpokenClockModel" "big" "[J" ∈ wsL_law := zr_8 _ (List.mem_of_getElem? (i := 1) rfl)
theorem zw_170 : Cond.methodLink RL 13 yX10_put ∈ wsL_law := zr_8 _ (List.mem_of_getElem? (i := 2) rfl)
theorem zw_171 : Cond.instanceMethod yX10_put ∈ wsL_law := zr_8 _ (List.mem_of_getElem? (i := 3) rfl)
theorem zw_172 : Cond.selects RX10 yX10_put yX10_put ∈ wsL_law := zr_8 _ (List.mem_of_getElem? (i := 4) rfl)
theorem zw_173 : Cond.code yX10_put cX10_put 4 (some .int) ∈ wsL_law := zr_8 _ (List.mem_of_getElem? (i := 5) rfl)
theorem zw_174 : Cond.fieldLink RX10 107 "SpokenClock$State" "settings" "[I" ∈ wsL_law := zr_8 _ (List.mem_of_getElem? (i := 6) rfl)
theorem zw_175 : Cond.methodLink RX10 99 yX9_isAsTold ∈ wsL_law := zr_8 _ (List.mem_of_getElem? (i := 7) rfl)
theorem zw_176 : Cond.instanceMethod yX9_isAsTold ∈ wsL_law := zr_8 _ (List.mem_of_getElem? (i := 8) rfl)
theorem zw_177 : Cond.selects RX9 yX9_isAsTold yX9_isAsTold ∈ wsL_law := zr_8 _ (List.mem_of_getElem? (i := 9) rfl)
theorem zw_178 : Cond.code yX9_isAsTold cX9_isAsTold 6 (some .boolean) ∈ wsL_law := zr_8 _ (List.mem_of_getElem? (i := 10) rfl)
theorem zw_179 : Cond.methodLink RX9 48 yX7_size ∈ wsL_law := zr_8 _ (List.mem_of_getElem? (i := 11) rfl)
theorem zw_180 : Cond.instanceMethod yX7_size ∈ wsL_law := zr_8 _ (List.mem_of_getElem? (i := 12) rfl)
theorem zw_181 : Cond.selects RX7 yX7_size yX7_size ∈ wsL_law := zr_8 _ (List.mem_of_getElem? (i := 13) rfl)
theorem zw_182 : Cond.code yX7_size cX7_size 1 (some .int) ∈ wsL_law := zr_8 _ (List.mem_of_getElem? (i := 14) rfl)
theorem zw_183 : Cond.fieldLink RX7 31 "SpokenClock$Rows" "size" "I" ∈ wsL_law := zr_8 _ (List.mem_of_getElem? (i := 15) rfl)
theorem zw_184 : Cond.methodLink RX10 103 yX10_refuse ∈ wsL_law := zr_8 _ (List.mem_of_getElem? (i := 16) rfl)
theorem zw_185 : Cond.instanceMethod yX10_refuse ∈ wsL_law := zr_8 _ (List.mem_of_getElem? (i := 17) rfl)
theorem zw_186 : Cond.selects RX10 yX10_refuse yX10_refuse ∈ wsL_law := zr_8 _ (List.mem_of_getElem? (i := 18) rfl)
theorem zw_187 : Cond.code yX10_refuse cX10_refuse 3 (some .int) ∈ wsL_law := zr_8 _ (List.mem_of_getElem? (i := 19) rfl)
theorem zw_188 : Cond.methodLink RX10 160 yX10_isIn ∈ wsL_law := zr_8 _ (List.mem_of_getElem? (i := 20) rfl)
theorem zw_189 : Cond.static yX10_isIn ∈ wsL_law := zr_8 _ (List.mem_of_getElem? (i := 21) rfl)
theorem zw_190 : Cond.code yX10_isIn cX10_isIn 3 (some .boolean) ∈ wsL_law := zr_8 _ (List.mem_of_getElem? (i := 22) rfl)
theorem zw_191 : Cond.methodLink RX10 110 yX10_changed ∈ wsL_law := zr_8 _ (List.mem_of_getElem? (i := 23) rfl)
theorem zw_192 : Cond.instanceMethod yX10_changed ∈ wsL_law := zr_9 _ (List.mem_of_getElem? (i := 0) rfl)
theorem zw_193 : Cond.selects RX10 yX10_changed yX10_changed ∈ wsL_law := zr_9 _ (List.mem_of_getElem? (i := 1) rfl)
theorem zw_194 : Cond.code yX10_changed cX10_changed 1 none ∈ wsL_law := zr_9 _ (List.mem_of_getElem? (i := 2) rfl)
theorem zw_195 : Cond.methodLink RX10 244 yX8_spoil ∈ wsL_law := zr_9 _ (List.mem_of_getElem? (i := 3) rfl)
theorem zw_196 : Cond.instanceMethod yX8_spoil ∈ wsL_law := zr_9 _ (List.mem_of_getElem? (i := 4) rfl)
theorem zw_197 : Cond.selects RX8 yX8_spoil yX8_spoil ∈ wsL_law := zr_9 _ (List.mem_of_getElem? (i := 5) rfl)
theorem zw_198 : Cond.code yX8_spoil cX8_spoil 1 none ∈ wsL_law := zr_9 _ (List.mem_of_getElem? (i := 6) rfl)
theorem zw_199 : Cond.methodLink RX10 247 yX1_spoil ∈ wsL_law := zr_9 _ (List.mem_of_getElem? (i := 7) rfl)
theorem zw_200 : Cond.instanceMethod yX1_spoil ∈ wsL_law := zr_9 _ (List.mem_of_getElem? (i := 8) rfl)
theorem zw_201 : Cond.selects RX1 yX1_spoil yX1_spoil ∈ wsL_law := zr_9 _ (List.mem_of_getElem? (i := 9) rfl)
theorem zw_202 : Cond.code yX1_spoil cX1_spoil 1 none ∈ wsL_law := zr_9 _ (List.mem_of_getElem? (i := 10) rfl)
theorem zw_203 : Cond.methodLink RX10 248 yX4_spoil ∈ wsL_law := zr_9 _ (List.mem_of_getElem? (i := 11) rfl)
theorem zw_204 : Cond.instanceMethod yX4_spoil ∈ wsL_law := zr_9 _ (List.mem_of_getElem? (i := 12) rfl)
theorem zw_205 : Cond.selects RX4 yX4_spoil yX4_spoil ∈ wsL_law := zr_9 _ (List.mem_of_getElem? (i := 13) rfl)
theorem zw_206 : Cond.code yX4_spoil cX4_spoil 1 none ∈ wsL_law := zr_9 _ (List.mem_of_getElem? (i := 14) rfl)
theorem zw_207 : Cond.methodLink RX10 249 yX3_spoil ∈ wsL_law := zr_9 _ (List.mem_of_getElem? (i := 15) rfl)
theorem zw_208 : Cond.instanceMethod yX3_spoil ∈ wsL_law := zr_9 _ (List.mem_of_getElem? (i := 16) rfl)
theorem zw_209 : Cond.selects RX3 yX3_spoil yX3_spoil ∈ wsL_law := zr_9 _ (List.mem_of_getElem? (i := 17) rfl)
theorem zw_210 : Cond.code yX3_spoil cX3_spoil 1 none ∈ wsL_law := zr_9 _ (List.mem_of_getElem? (i := 18) rfl)
theorem zw_211 : Cond.methodLink RL 17 yX11_put ∈ wsL_law := zr_9 _ (List.mem_of_getElem? (i := 19) rfl)
theorem zw_212 : Cond.instanceMethod yX11_put ∈ wsL_law := zr_9 _ (List.mem_of_getElem? (i := 20) rfl)
theorem zw_213 : Cond.selects RX11 yX11_put yX11_put ∈ wsL_law := zr_9 _ (List.mem_of_getElem? (i := 21) rfl)
theorem zw_214 : Cond.code yX11_put cX11_put 4 (some .int) ∈ wsL_law := zr_9 _ (List.mem_of_getElem? (i := 22) rfl)
theorem zw_215 : Cond.methodLink RX11 84 yX11_isPut ∈ wsL_law := zr_9 _ (List.mem_of_getElem? (i := 23) rfl)
theorem zw_216 : Cond.static yX11_isPut ∈ wsL_law := zr_10 _ (List.mem_of_getElem? (i := 0) rfl)
theorem zw_217 : Cond.code yX11_isPut cX11_isPut 2 (some .boolean) ∈ wsL_law := zr_10 _ (List.mem_of_getElem? (i := 1) rfl)
theorem zw_218 : Cond.constantLong RX11 76 (4) ∈ wsL_law := zr_10 _ (List.mem_of_getElem? (i := 2) rfl)
theorem zw_219 : Cond.constantLong RX11 82 (240) ∈ wsL_law := zr_10 _ (List.mem_of_getElem? (i := 3) rfl)
theorem zw_220 : Cond.methodLink RX11 78 yX11_in ∈ wsL_law := zr_10 _ (List.mem_of_getElem? (i := 4) rfl)
theorem zw_221 : Cond.static yX11_in ∈ wsL_law := zr_10 _ (List.mem_of_getElem? (i := 5) rfl)
theorem zw_222 : Cond.code yX11_in cX11_in 6 (some .boolean) ∈ wsL_law := zr_10 _ (List.mem_of_getElem? (i := 6) rfl)
theorem zw_223 : Cond.methodLink RX11 88 yX11_refuse ∈ wsL_law := zr_10 _ (List.mem_of_getElem? (i := 7) rfl)
theorem zw_224 : Cond.instanceMethod yX11_refuse ∈ wsL_law := zr_10 _ (List.mem_of_getElem? (i := 8) rfl)
theorem zw_225 : Cond.selects RX11 yX11_refuse yX11_refuse ∈ wsL_law := zr_10 _ (List.mem_of_getElem? (i := 9) rfl)
theorem zw_226 : Cond.code yX11_refuse cX11_refuse 2 (some .int) ∈ wsL_law := zr_10 _ (List.mem_of_getElem? (i := 10) rfl)
theorem zw_227 : Cond.methodLink RL 18 yX10_person ∈ wsL_law := zr_10 _ (List.mem_of_getElem? (i := 11) rfl)
theorem zw_228 : Cond.instanceMethod yX10_person ∈ wsL_law := zr_10 _ (List.mem_of_getElem? (i := 12) rfl)
theorem zw_229 : Cond.selects RX10 yX10_person yX10_person ∈ wsL_law := zr_10 _ (List.mem_of_getElem? (i := 13) rfl)
theorem zw_230 : Cond.code yX10_person cX10_person 3 (some .int) ∈ wsL_law := zr_10 _ (List.mem_of_getElem? (i := 14) rfl)
theorem zw_231 : Cond.methodLink RX10 113 yX10_enter ∈ wsL_law := zr_10 _ (List.mem_of_getElem? (i := 15) rfl)
theorem zw_232 : Cond.instanceMethod yX10_enter ∈ wsL_law := zr_10 _ (List.mem_of_getElem? (i := 16) rfl)
theorem zw_233 : Cond.selects RX10 yX10_enter yX10_enter ∈ wsL_law := zr_10 _ (List.mem_of_getElem? (i := 17) rfl)
theorem zw_234 : Cond.code yX10_enter cX10_enter 6 (some .int) ∈ wsL_law := zr_10 _ (List.mem_of_getElem? (i := 18) rfl)
theorem zw_235 : Cond.fieldLink RX10 251 "SpokenClock" "WIDTHS" "[I" ∈ wsL_law := zr_10 _ (List.mem_of_getElem? (i := 19) rfl)
theorem zw_236 : Cond.methodLink RX10 117 yX9_rowsOf ∈ wsL_law := zr_10 _ (List.mem_of_getElem? (i := 20) rfl)
theorem zw_237 : Cond.instanceMethod yX9_rowsOf ∈ wsL_law := zr_10 _ (List.mem_of_getElem? (i := 21) rfl)
theorem zw_238 : Cond.selects RX9 yX9_rowsOf yX9_rowsOf ∈ wsL_law := zr_10 _ (List.mem_of_getElem? (i := 22) rfl)
theorem zw_239 : Cond.code yX9_rowsOf cX9_rowsOf 2 (some (.object "SpokenClock$Rows")) ∈ wsL_law := zr_10 _ (List.mem_of_getElem? (i := 23) rfl)
theorem zw_240 : Cond.methodLink RX10 146 yX7_isFull ∈ wsL_law := zr_11 _ (List.mem_of_getElem? (i := 0) rfl)
theorem zw_241 : Cond.instanceMethod yX7_isFull ∈ wsL_law := zr_11 _ (List.mem_of_getElem? (i := 1) rfl)
theorem zw_242 : Cond.selects RX7 yX7_isFull yX7_isFull ∈ wsL_law := zr_11 _ (List.mem_of_getElem? (i := 2) rfl)
theorem zw_243 : Cond.code yX7_isFull cX7_isFull 1 (some .boolean) ∈ wsL_law := zr_11 _ (List.mem_of_getElem? (i := 3) rfl)
theorem zw_244 : Cond.methodLink RX10 131 yX7_add ∈ wsL_law := zr_11 _ (List.mem_of_getElem? (i := 4) rfl)
theorem zw_245 : Cond.instanceMethod yX7_add ∈ wsL_law := zr_11 _ (List.mem_of_getElem? (i := 5) rfl)
theorem zw_246 : Cond.selects RX7 yX7_add yX7_add ∈ wsL_law := zr_11 _ (List.mem_of_getElem? (i := 6) rfl)
theorem zw_247 : Cond.code yX7_add cX7_add 5 (some .int) ∈ wsL_law := zr_11 _ (List.mem_of_getElem? (i := 7) rfl)
theorem zw_248 : Cond.methodLink RX7 34 yX7_isFull ∈ wsL_law := zr_11 _ (List.mem_of_getElem? (i := 8) rfl)
theorem zw_249 : Cond.methodLink RL 21 yX11_person ∈ wsL_law := zr_11 _ (List.mem_of_getElem? (i := 9) rfl)
theorem zw_250 : Cond.instanceMethod yX11_person ∈ wsL_law := zr_11 _ (List.mem_of_getElem? (i := 10) rfl)
theorem zw_251 : Cond.selects RX11 yX11_person yX11_person ∈ wsL_law := zr_11 _ (List.mem_of_getElem? (i := 11) rfl)
theorem zw_252 : Cond.code yX11_person cX11_person 4 (some .int) ∈ wsL_law := zr_11 _ (List.mem_of_getElem? (i := 12) rfl)
theorem zw_253 : Cond.constantLong RX11 92 (5) ∈ wsL_law := zr_11 _ (List.mem_of_getElem? (i := 13) rfl)
theorem zw_254 : Cond.methodLink RL 22 yX10_talk ∈ wsL_law := zr_11 _ (List.mem_of_getElem? (i := 14) rfl)
theorem zw_255 : Cond.instanceMethod yX10_talk ∈ wsL_law := zr_11 _ (List.mem_of_getElem? (i := 15) rfl)
theorem zw_256 : Cond.selects RX10 yX10_talk yX10_talk ∈ wsL_law := zr_11 _ (List.mem_of_getElem? (i := 16) rfl)
theorem zw_257 : Cond.code yX10_talk cX10_talk 4 (some .int) ∈ wsL_law := zr_11 _ (List.mem_of_getElem? (i := 17) rfl)
theorem zw_258 : Cond.methodLink RL 26 yX11_talk ∈ wsL_law := zr_11 _ (List.mem_of_getElem? (i := 18) rfl)
theorem zw_259 : Cond.instanceMethod yX11_talk ∈ wsL_law := zr_11 _ (List.mem_of_getElem? (i := 19) rfl)
theorem zw_260 : Cond.selects RX11 yX11_talk yX11_talk ∈ wsL_law := zr_11 _ (List.mem_of_getElem? (i := 20) rfl)
theorem zw_261 : Cond.code yX11_talk cX11_talk 5 (some .int) ∈ wsL_law := zr_11 _ (List.mem_of_getElem? (i := 21) rfl)
theorem zw_262 : Cond.methodLink RL 27 yX10_due ∈ wsL_law := zr_11 _ (List.mem_of_getElem? (i := 22) rfl)
theorem zw_263 : Cond.instanceMethod yX10_due ∈ wsL_law := zr_11 _ (List.mem_of_getElem? (i := 23) rfl)
theorem zw_264 : Cond.selects RX10 yX10_due yX10_due ∈ wsL_law := zr_12 _ (List.mem_of_getElem? (i := 0) rfl)
theorem zw_265 : Cond.code yX10_due cX10_due 4 (some .int) ∈ wsL_law := zr_12 _ (List.mem_of_getElem? (i := 1) rfl)
theorem zw_266 : Cond.methodLink RL 30 yX11_due ∈ wsL_law := zr_12 _ (List.mem_of_getElem? (i := 2) rfl)
theorem zw_267 : Cond.instanceMethod yX11_due ∈ wsL_law := zr_12 _ (List.mem_of_getElem? (i := 3) rfl)
theorem zw_268 : Cond.selects RX11 yX11_due yX11_due ∈ wsL_law := zr_12 _ (List.mem_of_getElem? (i := 4) rfl)
theorem zw_269 : Cond.code yX11_due cX11_due 5 (some .int) ∈ wsL_law := zr_12 _ (List.mem_of_getElem? (i := 5) rfl)
theorem zw_270 : Cond.constantLong RX11 94 (99) ∈ wsL_law := zr_12 _ (List.mem_of_getElem? (i := 6) rfl)
theorem zw_271 : Cond.constantLong RX11 96 (-99) ∈ wsL_law := zr_12 _ (List.mem_of_getElem? (i := 7) rfl)
theorem zw_272 : Cond.methodLink RL 31 yX10_sight ∈ wsL_law := zr_12 _ (List.mem_of_getElem? (i := 8) rfl)
theorem zw_273 : Cond.instanceMethod yX10_sight ∈ wsL_law := zr_12 _ (List.mem_of_getElem? (i := 9) rfl)
theorem zw_274 : Cond.selects RX10 yX10_sight yX10_sight ∈ wsL_law := zr_12 _ (List.mem_of_getElem? (i := 10) rfl)
theorem zw_275 : Cond.code yX10_sight cX10_sight 3 (some .int) ∈ wsL_law := zr_12 _ (List.mem_of_getElem? (i := 11) rfl)
theorem zw_276 : Cond.methodLink RL 34 yX11_sight ∈ wsL_law := zr_12 _ (List.mem_of_getElem? (i := 12) rfl)
theorem zw_277 : Cond.instanceMethod yX11_sight ∈ wsL_law := zr_12 _ (List.mem_of_getElem? (i := 13) rfl)
theorem zw_278 : Cond.selects RX11 yX11_sight yX11_sight ∈ wsL_law := zr_12 _ (List.mem_of_getElem? (i := 14) rfl)
theorem zw_279 : Cond.code yX11_sight cX11_sight 4 (some .int) ∈ wsL_law := zr_12 _ (List.mem_of_getElem? (i := 15) rfl)
theorem zw_280 : Cond.constantLong RX11 98 (999) ∈ wsL_law := zr_12 _ (List.mem_of_getElem? (i := 16) rfl)
theorem zw_281 : Cond.methodLink RL 35 yX10_clears ∈ wsL_law := zr_12 _ (List.mem_of_getElem? (i := 17) rfl)
theorem zw_282 : Cond.instanceMethod yX10_clears ∈ wsL_law := zr_12 _ (List.mem_of_getElem? (i := 18) rfl)
theorem zw_283 : Cond.selects RX10 yX10_clears yX10_clears ∈ wsL_law := zr_12 _ (List.mem_of_getElem? (i := 19) rfl)
theorem zw_284 : Cond.code yX10_clears cX10_clears 2 (some .int) ∈ wsL_law := zr_12 _ (List.mem_of_getElem? (i := 20) rfl)
theorem zw_285 : Cond.methodLink RX10 121 yX7_clear ∈ wsL_law := zr_12 _ (List.mem_of_getElem? (i := 21) rfl)
theorem zw_286 : Cond.instanceMethod yX7_clear ∈ wsL_law := zr_12 _ (List.mem_of_getElem? (i := 22) rfl)
theorem zw_287 : Cond.selects RX7 yX7_clear yX7_clear ∈ wsL_law := zr_12 _ (List.mem_of_getElem? (i := 23) rfl)
theorem zw_288 : Cond.code yX7_clear cX7_clear 2 (some .int) ∈ wsL_law := zr_13 _ (List.mem_of_getElem? (i := 0) rfl)
theorem zw_289 : Cond.methodLink RL 39 yX11_clears ∈ wsL_law := zr_13 _ (List.mem_of_getElem? (i := 1) rfl)
theorem zw_290 : Cond.instanceMethod yX11_clears ∈ wsL_law := zr_13 _ (List.mem_of_getElem? (i := 2) rfl)
theorem zw_291 : Cond.selects RX11 yX11_clears yX11_clears ∈ wsL_law := zr_13 _ (List.mem_of_getElem? (i := 3) rfl)
theorem zw_292 : Cond.code yX11_clears cX11_clears 3 (some .int) ∈ wsL_law := zr_13 _ (List.mem_of_getElem? (i := 4) rfl)
theorem zw_293 : Cond.constantLong RX11 100 (2) ∈ wsL_law := zr_13 _ (List.mem_of_getElem? (i := 5) rfl)
theorem zw_294 : Cond.methodLink RL 42 yX10_type ∈ wsL_law := zr_13 _ (List.mem_of_getElem? (i := 6) rfl)
theorem zw_295 : Cond.instanceMethod yX10_type ∈ wsL_law := zr_13 _ (List.mem_of_getElem? (i := 7) rfl)
theorem zw_296 : Cond.selects RX10 yX10_type yX10_type ∈ wsL_law := zr_13 _ (List.mem_of_getElem? (i := 8) rfl)
theorem zw_297 : Cond.code yX10_type cX10_type 5 (some .int) ∈ wsL_law := zr_13 _ (List.mem_of_getElem? (i := 9) rfl)
theorem zw_298 : Cond.methodLink RX10 125 yX7_size ∈ wsL_law := zr_13 _ (List.mem_of_getElem? (i := 10) rfl)
theorem zw_299 : Cond.methodLink RX10 128 yX7_limit ∈ wsL_law := zr_13 _ (List.mem_of_getElem? (i := 11) rfl)
theorem zw_300 : Cond.instanceMethod yX7_limit ∈ wsL_law := zr_13 _ (List.mem_of_getElem? (i := 12) rfl)
theorem zw_301 : Cond.selects RX7 yX7_limit yX7_limit ∈ wsL_law := zr_13 _ (List.mem_of_getElem? (i := 13) rfl)
theorem zw_302 : Cond.code yX7_limit cX7_limit 1 (some .int) ∈ wsL_law := zr_13 _ (List.mem_of_getElem? (i := 14) rfl)
theorem zw_303 : Cond.methodLink RL 46 yX11_type ∈ wsL_law := zr_13 _ (List.mem_of_getElem? (i := 15) rfl)
theorem zw_304 : Cond.instanceMethod yX11_type ∈ wsL_law := zr_13 _ (List.mem_of_getElem? (i := 16) rfl)
theorem zw_305 : Cond.selects RX11 yX11_type yX11_type ∈ wsL_law := zr_13 _ (List.mem_of_getElem? (i := 17) rfl)
theorem zw_306 : Cond.code yX11_type cX11_type 5 (some .int) ∈ wsL_law := zr_13 _ (List.mem_of_getElem? (i := 18) rfl)
theorem zw_307 : Cond.constantLong RX11 102 (8) ∈ wsL_law := zr_13 _ (List.mem_of_getElem? (i := 19) rfl)
theorem zw_308 : Cond.fieldLink RX11 104 "SpokenClockModel" "size" "I" ∈ wsL_law := zr_13 _ (List.mem_of_getElem? (i := 20) rfl)
theorem zw_309 : Cond.constantLong RX11 107 (255) ∈ wsL_law := zr_13 _ (List.mem_of_getElem? (i := 21) rfl)
theorem zw_310 : Cond.methodLink RL 47 yX10_wipe ∈ wsL_law := zr_13 _ (List.mem_of_getElem? (i := 22) rfl)
theorem zw_311 : Cond.instanceMethod yX10_wipe ∈ wsL_law := zr_13 _ (List.mem_of_getElem? (i := 23) rfl)
theorem zw_312 : Cond.selects RX10 yX10_wipe yX10_wipe ∈ wsL_law := zr_14 _ (List.mem_of_getElem? (i := 0) rfl)
theorem zw_313 : Cond.code yX10_wipe cX10_wipe 1 (some .int) ∈ wsL_law := zr_14 _ (List.mem_of_getElem? (i := 1) rfl)
theorem zw_314 : Cond.methodLink RL 51 yX11_wipe ∈ wsL_law := zr_14 _ (List.mem_of_getElem? (i := 2) rfl)
theorem zw_315 : Cond.instanceMethod yX11_wipe ∈ wsL_law := zr_14 _ (List.mem_of_getElem? (i := 3) rfl)
theorem zw_316 : Cond.selects RX11 yX11_wipe yX11_wipe ∈ wsL_law := zr_14 _ (List.mem_of_getElem? (i := 4) rfl)
theorem zw_317 : Cond.code yX11_wipe cX11_wipe 2 (some .int) ∈ wsL_law := zr_14 _ (List.mem_of_getElem? (i := 5) rfl)
theorem zw_318 : Cond.methodLink RL 52 yX10_read ∈ wsL_law := zr_14 _ (List.mem_of_getElem? (i := 6) rfl)
theorem zw_319 : Cond.instanceMethod yX10_read ∈ wsL_law := zr_14 _ (List.mem_of_getElem? (i := 7) rfl)
theorem zw_320 : Cond.selects RX10 yX10_read yX10_read ∈ wsL_law := zr_14 _ (List.mem_of_getElem? (i := 8) rfl)
theorem zw_321 : Cond.code yX10_read cX10_read 2 (some .int) ∈ wsL_law := zr_14 _ (List.mem_of_getElem? (i := 9) rfl)
theorem zw_322 : Cond.methodLink RX10 135 yX9_copy ∈ wsL_law := zr_14 _ (List.mem_of_getElem? (i := 10) rfl)
theorem zw_323 : Cond.instanceMethod yX9_copy ∈ wsL_law := zr_14 _ (List.mem_of_getElem? (i := 11) rfl)
theorem zw_324 : Cond.selects RX9 yX9_copy yX9_copy ∈ wsL_law := zr_14 _ (List.mem_of_getElem? (i := 12) rfl)
theorem zw_325 : Cond.code yX9_copy cX9_copy 2 none ∈ wsL_law := zr_14 _ (List.mem_of_getElem? (i := 13) rfl)
theorem zw_326 : Cond.methodLink RX9 59 arraycopyName ∈ wsL_law := zr_14 _ (List.mem_of_getElem? (i := 14) rfl)
theorem zw_327 : Cond.native arraycopyName ∈ wsL_law := zr_14 _ (List.mem_of_getElem? (i := 15) rfl)
theorem zw_328 : Cond.static arraycopyName ∈ wsL_law := zr_14 _ (List.mem_of_getElem? (i := 16) rfl)
theorem zw_329 : Cond.initialized "java/lang/System" ∈ wsL_law := zr_14 _ (List.mem_of_getElem? (i := 17) rfl)
theorem zw_330 : Cond.methodLink RX9 55 yX7_copy ∈ wsL_law := zr_14 _ (List.mem_of_getElem? (i := 18) rfl)
theorem zw_331 : Cond.instanceMethod yX7_copy ∈ wsL_law := zr_14 _ (List.mem_of_getElem? (i := 19) rfl)
theorem zw_332 : Cond.selects RX7 yX7_copy yX7_copy ∈ wsL_law := zr_14 _ (List.mem_of_getElem? (i := 20) rfl)
theorem zw_333 : Cond.code yX7_copy cX7_copy 2 none ∈ wsL_law := zr_14 _ (List.mem_of_getElem? (i := 21) rfl)
theorem zw_334 : Cond.methodLink RX7 38 arraycopyName ∈ wsL_law := zr_14 _ (List.mem_of_getElem? (i := 22) rfl)
theorem zw_335 : Cond.methodLink RX10 138 yX9_forget ∈ wsL_law := zr_14 _ (List.mem_of_getElem? (i := 23) rfl)
theorem zw_336 : Cond.instanceMethod yX9_forget ∈ wsL_law := zr_15 _ (List.mem_of_getElem? (i := 0) rfl)
theorem zw_337 : Cond.selects RX9 yX9_forget yX9_forget ∈ wsL_law := zr_15 _ (List.mem_of_getElem? (i := 1) rfl)
theorem zw_338 : Cond.code yX9_forget cX9_forget 1 none ∈ wsL_law := zr_15 _ (List.mem_of_getElem? (i := 2) rfl)
theorem zw_339 : Cond.methodLink RX9 52 yX7_clear ∈ wsL_law := zr_15 _ (List.mem_of_getElem? (i := 3) rfl)
theorem zw_340 : Cond.methodLink RX10 141 yX6_readItems ∈ wsL_law := zr_15 _ (List.mem_of_getElem? (i := 4) rfl)
theorem zw_341 : Cond.instanceMethod yX6_readItems ∈ wsL_law := zr_15 _ (List.mem_of_getElem? (i := 5) rfl)
theorem zw_342 : Cond.selects RX6 yX6_readItems yX6_readItems ∈ wsL_law := zr_15 _ (List.mem_of_getElem? (i := 6) rfl)
theorem zw_343 : Cond.code yX6_readItems cX6_readItems 2 (some .int) ∈ wsL_law := zr_15 _ (List.mem_of_getElem? (i := 7) rfl)
theorem zw_344 : Cond.fieldLink RX6 23 "SpokenClock$Reader" "place" "I" ∈ wsL_law := zr_15 _ (List.mem_of_getElem? (i := 8) rfl)
theorem zw_345 : Cond.fieldLink RX6 30 "SpokenClock$Reader" "token" "I" ∈ wsL_law := zr_15 _ (List.mem_of_getElem? (i := 9) rfl)
theorem zw_346 : Cond.fieldLink RX6 43 "SpokenClock$Reader" "first" "I" ∈ wsL_law := zr_15 _ (List.mem_of_getElem? (i := 10) rfl)
theorem zw_347 : Cond.methodLink RX6 27 yX6_advance ∈ wsL_law := zr_15 _ (List.mem_of_getElem? (i := 11) rfl)
theorem zw_348 : Cond.instanceMethod yX6_advance ∈ wsL_law := zr_15 _ (List.mem_of_getElem? (i := 12) rfl)
theorem zw_349 : Cond.selects RX6 yX6_advance yX6_advance ∈ wsL_law := zr_15 _ (List.mem_of_getElem? (i := 13) rfl)
theorem zw_350 : Cond.code yX6_advance cX6_advance 2 none ∈ wsL_law := zr_15 _ (List.mem_of_getElem? (i := 14) rfl)
theorem zw_351 : Cond.methodLink RX6 79 yX7_size ∈ wsL_law := zr_15 _ (List.mem_of_getElem? (i := 15) rfl)
theorem zw_352 : Cond.methodLink RX6 82 yX7_at ∈ wsL_law := zr_15 _ (List.mem_of_getElem? (i := 16) rfl)
theorem zw_353 : Cond.instanceMethod yX7_at ∈ wsL_law := zr_15 _ (List.mem_of_getElem? (i := 17) rfl)
theorem zw_354 : Cond.selects RX7 yX7_at yX7_at ∈ wsL_law := zr_15 _ (List.mem_of_getElem? (i := 18) rfl)
theorem zw_355 : Cond.code yX7_at cX7_at 3 (some .int) ∈ wsL_law := zr_15 _ (List.mem_of_getElem? (i := 19) rfl)
theorem zw_356 : Cond.methodLink RX6 86 yX6_isLetter ∈ wsL_law := zr_15 _ (List.mem_of_getElem? (i := 20) rfl)
theorem zw_357 : Cond.static yX6_isLetter ∈ wsL_law := zr_15 _ (List.mem_of_getElem? (i := 21) rfl)
theorem zw_358 : Cond.code yX6_isLetter cX6_isLetter 1 (some .boolean) ∈ wsL_law := zr_15 _ (List.mem_of_getElem? (i := 22) rfl)
theorem zw_359 : Cond.methodLink RX6 90 yX6_passWord ∈ wsL_law := zr_15 _ (List.mem_of_getElem? (i := 23) rfl)
theorem zw_360 : Cond.instanceMethod yX6_passWord ∈ wsL_law := zr_16 _ (List.mem_of_getElem? (i := 0) rfl)
theorem zw_361 : Cond.selects RX6 yX6_passWord yX6_passWord ∈ wsL_law := zr_16 _ (List.mem_of_getElem? (i := 1) rfl)
theorem zw_362 : Cond.code yX6_passWord cX6_passWord 1 none ∈ wsL_law := zr_16 _ (List.mem_of_getElem? (i := 2) rfl)
theorem zw_363 : Cond.methodLink RX6 93 yX6_isFigure ∈ wsL_law := zr_16 _ (List.mem_of_getElem? (i := 3) rfl)
theorem zw_364 : Cond.static yX6_isFigure ∈ wsL_law := zr_16 _ (List.mem_of_getElem? (i := 4) rfl)
theorem zw_365 : Cond.code yX6_isFigure cX6_isFigure 1 (some .boolean) ∈ wsL_law := zr_16 _ (List.mem_of_getElem? (i := 5) rfl)
theorem zw_366 : Cond.methodLink RX6 96 yX6_passFigures ∈ wsL_law := zr_16 _ (List.mem_of_getElem? (i := 6) rfl)
theorem zw_367 : Cond.instanceMethod yX6_passFigures ∈ wsL_law := zr_16 _ (List.mem_of_getElem? (i := 7) rfl)
theorem zw_368 : Cond.selects RX6 yX6_passFigures yX6_passFigures ∈ wsL_law := zr_16 _ (List.mem_of_getElem? (i := 8) rfl)
theorem zw_369 : Cond.code yX6_passFigures cX6_passFigures 1 none ∈ wsL_law := zr_16 _ (List.mem_of_getElem? (i := 9) rfl)
theorem zw_370 : Cond.fieldLink RX6 61 "SpokenClock$Reader" "number" "I" ∈ wsL_law := zr_16 _ (List.mem_of_getElem? (i := 10) rfl)
theorem zw_371 : Cond.methodLink RX6 33 yX7_limit ∈ wsL_law := zr_16 _ (List.mem_of_getElem? (i := 11) rfl)
theorem zw_372 : Cond.methodLink RX6 39 yX6_isItem ∈ wsL_law := zr_16 _ (List.mem_of_getElem? (i := 12) rfl)
theorem zw_373 : Cond.instanceMethod yX6_isItem ∈ wsL_law := zr_16 _ (List.mem_of_getElem? (i := 13) rfl)
theorem zw_374 : Cond.selects RX6 yX6_isItem yX6_isItem ∈ wsL_law := zr_16 _ (List.mem_of_getElem? (i := 14) rfl)
theorem zw_375 : Cond.code yX6_isItem cX6_isItem 5 (some .boolean) ∈ wsL_law := zr_16 _ (List.mem_of_getElem? (i := 15) rfl)
theorem zw_376 : Cond.methodLink RX6 46 yX6_itemAtHand ∈ wsL_law := zr_16 _ (List.mem_of_getElem? (i := 16) rfl)
theorem zw_377 : Cond.instanceMethod yX6_itemAtHand ∈ wsL_law := zr_16 _ (List.mem_of_getElem? (i := 17) rfl)
theorem zw_378 : Cond.selects RX6 yX6_itemAtHand yX6_itemAtHand ∈ wsL_law := zr_16 _ (List.mem_of_getElem? (i := 18) rfl)
theorem zw_379 : Cond.code yX6_itemAtHand cX6_itemAtHand 2 (some .int) ∈ wsL_law := zr_16 _ (List.mem_of_getElem? (i := 19) rfl)
theorem zw_380 : Cond.methodLink RX6 99 yX6_wordOf ∈ wsL_law := zr_16 _ (List.mem_of_getElem? (i := 20) rfl)
theorem zw_381 : Cond.static yX6_wordOf ∈ wsL_law := zr_16 _ (List.mem_of_getElem? (i := 21) rfl)
theorem zw_382 : Cond.code yX6_wordOf cX6_wordOf 1 (some (.object "java/lang/String")) ∈ wsL_law := zr_16 _ (List.mem_of_getElem? (i := 22) rfl)
theorem zw_383 : Cond.methodLink RX6 103 yX6_isAtHand ∈ wsL_law := zr_16 _ (List.mem_of_getElem? (i := 23) rfl)
theorem zw_384 : Cond.instanceMethod yX6_isAtHand ∈ wsL_law := zr_17 _ (List.mem_of_getElem? (i := 0) rfl)
theorem zw_385 : Cond.selects RX6 yX6_isAtHand yX6_isAtHand ∈ wsL_law := zr_17 _ (List.mem_of_getElem? (i := 1) rfl)
theorem zw_386 : Cond.code yX6_isAtHand cX6_isAtHand 3 (some .boolean) ∈ wsL_law := zr_17 _ (List.mem_of_getElem? (i := 2) rfl)
theorem zw_387 : Cond.methodLink RX6 107 yJ0_length_8abf5 ∈ wsL_law := zr_17 _ (List.mem_of_getElem? (i := 3) rfl)
theorem zw_388 : Cond.instanceMethod yJ0_length_8abf5 ∈ wsL_law := zr_17 _ (List.mem_of_getElem? (i := 4) rfl)
theorem zw_389 : Cond.selects RJ0 yJ0_length_8abf5 yJ0_length_8abf5 ∈ wsL_law := zr_17 _ (List.mem_of_getElem? (i := 5) rfl)
theorem zw_390 : Cond.initialized RJ0 ∈ wsL_law := zr_17 _ (List.mem_of_getElem? (i := 6) rfl)
theorem zw_391 : Cond.code yJ0_length_8abf5 cJ0_length_8abf5 1 (some .int) ∈ wsL_law := zr_17 _ (List.mem_of_getElem? (i := 7) rfl)
theorem zw_392 : Cond.fieldLink RJ0 9 "java/lang/String" "value" "[B" ∈ wsL_law := zr_17 _ (List.mem_of_getElem? (i := 8) rfl)
theorem zw_393 : Cond.methodLink RJ0 335 yJ0_coder_7d493 ∈ wsL_law := zr_17 _ (List.mem_of_getElem? (i := 9) rfl)
theorem zw_394 : Cond.instanceMethod yJ0_coder_7d493 ∈ wsL_law := zr_17 _ (List.mem_of_getElem? (i := 10) rfl)
theorem zw_395 : Cond.selects RJ0 yJ0_coder_7d493 yJ0_coder_7d493 ∈ wsL_law := zr_17 _ (List.mem_of_getElem? (i := 11) rfl)
theorem zw_396 : Cond.code yJ0_coder_7d493 cJ0_coder_7d493 1 (some .byte) ∈ wsL_law := zr_17 _ (List.mem_of_getElem? (i := 12) rfl)
theorem zw_397 : Cond.fieldLink RJ0 38 "java/lang/String" "COMPACT_STRINGS" "Z" ∈ wsL_law := zr_17 _ (List.mem_of_getElem? (i := 13) rfl)
theorem zw_398 : Cond.fieldLink RJ0 15 "java/lang/String" "coder" "B" ∈ wsL_law := zr_17 _ (List.mem_of_getElem? (i := 14) rfl)
theorem zw_399 : Cond.methodLink RX6 112 yJ0_charAt_5068e ∈ wsL_law := zr_17 _ (List.mem_of_getElem? (i := 15) rfl)
theorem zw_400 : Cond.instanceMethod yJ0_charAt_5068e ∈ wsL_law := zr_17 _ (List.mem_of_getElem? (i := 16) rfl)
theorem zw_401 : Cond.selects RJ0 yJ0_charAt_5068e yJ0_charAt_5068e ∈ wsL_law := zr_17 _ (List.mem_of_getElem? (i := 17) rfl)
theorem zw_402 : Cond.code yJ0_charAt_5068e cJ0_charAt_5068e 2 (some .char) ∈ wsL_law := zr_17 _ (List.mem_of_getElem? (i := 18) rfl)
theorem zw_403 : Cond.methodLink RJ0 492 yJ0_isLatin1_aae02 ∈ wsL_law := zr_17 _ (List.mem_of_getElem? (i := 19) rfl)
theorem zw_404 : Cond.instanceMethod yJ0_isLatin1_aae02 ∈ wsL_law := zr_17 _ (List.mem_of_getElem? (i := 20) rfl)
theorem zw_405 : Cond.selects RJ0 yJ0_isLatin1_aae02 yJ0_isLatin1_aae02 ∈ wsL_law := zr_17 _ (List.mem_of_getElem? (i := 21) rfl)
theorem zw_406 : Cond.code yJ0_isLatin1_aae02 cJ0_isLatin1_aae02 1 (some .boolean) ∈ wsL_law := zr_17 _ (List.mem_of_getElem? (i := 22) rfl)
theorem zw_407 : Cond.methodLink RJ0 495 yJ1_charAt_3b067 ∈ wsL_law := zr_17 _ (List.mem_of_getElem? (i := 23) rfl)
theorem zw_408 : Cond.static yJ1_charAt_3b067 ∈ wsL_law := zr_18 _ (List.mem_of_getElem? (i := 0) rfl)
theorem zw_409 : Cond.initialized RJ1 ∈ wsL_law := zr_18 _ (List.mem_of_getElem? (i := 1) rfl)
theorem zw_410 : Cond.code yJ1_charAt_3b067 cJ1_charAt_3b067 2 (some .char) ∈ wsL_law := zr_18 _ (List.mem_of_getElem? (i := 2) rfl)
theorem zw_411 : Cond.methodLink RJ1 9 yJ0_checkIndex_df160 ∈ wsL_law := zr_18 _ (List.mem_of_getElem? (i := 3) rfl)
theorem zw_412 : Cond.static yJ0_checkIndex_df160 ∈ wsL_law := zr_18 _ (List.mem_of_getElem? (i := 4) rfl)
theorem zw_413 : Cond.code yJ0_checkIndex_df160 cJ0_checkIndex_df160 2 none ∈ wsL_law := zr_18 _ (List.mem_of_getElem? (i := 5) rfl)
theorem zw_414 : Cond.fieldLink RJ0 1053 "jdk/internal/util/Preconditions" "SIOOBE_FORMATTER" "Ljava/util/function/BiFunction;" ∈ wsL_law := zr_18 _ (List.mem_of_getElem? (i := 6) rfl)
theorem zw_415 : Cond.methodLink RJ0 1059 yJ3_checkIndex_8e157 ∈ wsL_law := zr_18 _ (List.mem_of_getElem? (i := 7) rfl)
theorem zw_416 : Cond.static yJ3_checkIndex_8e157 ∈ wsL_law := zr_18 _ (List.mem_of_getElem? (i := 8) rfl)
theorem zw_417 : Cond.initialized RJ3 ∈ wsL_law := zr_18 _ (List.mem_of_getElem? (i := 9) rfl)
theorem zw_418 : Cond.code yJ3_checkIndex_8e157 cJ3_checkIndex_8e157 3 (some .int) ∈ wsL_law := zr_18 _ (List.mem_of_getElem? (i := 10) rfl)
theorem zw_419 : Cond.methodLink RJ0 498 yJ2_charAt_3b067 ∈ wsL_law := zr_18 _ (List.mem_of_getElem? (i := 11) rfl)
theorem zw_420 : Cond.static yJ2_charAt_3b067 ∈ wsL_law := zr_18 _ (List.mem_of_getElem? (i := 12) rfl)
theorem zw_421 : Cond.initialized RJ2 ∈ wsL_law := zr_18 _ (List.mem_of_getElem? (i := 13) rfl)
theorem zw_422 : Cond.code yJ2_charAt_3b067 cJ2_charAt_3b067 2 (some .char) ∈ wsL_law := zr_18 _ (List.mem_of_getElem? (i := 14) rfl)
theorem zw_423 : Cond.methodLink RJ2 67 yJ2_checkIndex_2214a ∈ wsL_law := zr_18 _ (List.mem_of_getElem? (i := 15) rfl)
theorem zw_424 : Cond.static yJ2_checkIndex_2214a ∈ wsL_law := zr_18 _ (List.mem_of_getElem? (i := 16) rfl)
theorem zw_425 : Cond.code yJ2_checkIndex_2214a cJ2_checkIndex_2214a 2 none ∈ wsL_law := zr_18 _ (List.mem_of_getElem? (i := 17) rfl)
theorem zw_426 : Cond.methodLink RJ2 48 yJ2_length_9d52b ∈ wsL_law := zr_18 _ (List.mem_of_getElem? (i := 18) rfl)
theorem zw_427 : Cond.static yJ2_length_9d52b ∈ wsL_law := zr_18 _ (List.mem_of_getElem? (i := 19) rfl)
theorem zw_428 : Cond.code yJ2_length_9d52b cJ2_length_9d52b 1 (some .int) ∈ wsL_law := zr_18 _ (List.mem_of_getElem? (i := 20) rfl)
theorem zw_429 : Cond.methodLink RJ2 414 yJ0_checkIndex_df160 ∈ wsL_law := zr_18 _ (List.mem_of_getElem? (i := 21) rfl)
theorem zw_430 : Cond.methodLink RJ2 71 yJ2_getChar_3b067 ∈ wsL_law := zr_18 _ (List.mem_of_getElem? (i := 22) rfl)
theorem zw_431 : Cond.static yJ2_getChar_3b067 ∈ wsL_law := zr_18 _ (List.mem_of_getElem? (i := 23) rfl)
theorem zw_432 : Cond.code yJ2_getChar_3b067 cJ2_getChar_3b067 2 (some .char) ∈ wsL_law := zr_19 _ (List.mem_of_getElem? (i := 0) rfl)
theorem zw_433 : Cond.fieldLink RJ2 44 "java/lang/StringUTF16" "$assertionsDisabled" "Z" ∈ wsL_law := zr_19 _ (List.mem_of_getElem? (i := 1) rfl)
theorem zw_434 : Cond.fieldLink RJ2 59 "java/lang/StringUTF16" "HI_BYTE_SHIFT" "I" ∈ wsL_law := zr_19 _ (List.mem_of_getElem? (i := 2) rfl)
theorem zw_435 : Cond.fieldLink RJ2 63 "java/lang/StringUTF16" "LO_BYTE_SHIFT" "I" ∈ wsL_law := zr_19 _ (List.mem_of_getElem? (i := 3) rfl)
theorem zw_436 : Cond.methodLink RX6 49 yX9_rowsOf ∈ wsL_law := zr_19 _ (List.mem_of_getElem? (i := 4) rfl)
theorem zw_437 : Cond.methodLink RX6 55 yX7_isFull ∈ wsL_law := zr_19 _ (List.mem_of_getElem? (i := 5) rfl)
theorem zw_438 : Cond.methodLink RX6 64 yX9_isAsTold ∈ wsL_law := zr_19 _ (List.mem_of_getElem? (i := 6) rfl)
theorem zw_439 : Cond.methodLink RX6 68 yX6_keep ∈ wsL_law := zr_19 _ (List.mem_of_getElem? (i := 7) rfl)
theorem zw_440 : Cond.instanceMethod yX6_keep ∈ wsL_law := zr_19 _ (List.mem_of_getElem? (i := 8) rfl)
theorem zw_441 : Cond.selects RX6 yX6_keep yX6_keep ∈ wsL_law := zr_19 _ (List.mem_of_getElem? (i := 9) rfl)
theorem zw_442 : Cond.code yX6_keep cX6_keep 2 none ∈ wsL_law := zr_19 _ (List.mem_of_getElem? (i := 10) rfl)
theorem zw_443 : Cond.fieldLink RX6 72 "SpokenClock$State" "settings" "[I" ∈ wsL_law := zr_19 _ (List.mem_of_getElem? (i := 11) rfl)
theorem zw_444 : Cond.methodLink RX6 75 yX7_add ∈ wsL_law := zr_19 _ (List.mem_of_getElem? (i := 12) rfl)
theorem zw_445 : Cond.methodLink RL 55 yX11_read ∈ wsL_law := zr_19 _ (List.mem_of_getElem? (i := 13) rfl)
theorem zw_446 : Cond.instanceMethod yX11_read ∈ wsL_law := zr_19 _ (List.mem_of_getElem? (i := 14) rfl)
theorem zw_447 : Cond.selects RX11 yX11_read yX11_read ∈ wsL_law := zr_19 _ (List.mem_of_getElem? (i := 15) rfl)
theorem zw_448 : Cond.code yX11_read cX11_read 3 (some .int) ∈ wsL_law := zr_19 _ (List.mem_of_getElem? (i := 16) rfl)
theorem zw_449 : Cond.fieldLink RX11 120 "SpokenClockModel" "begin" "I" ∈ wsL_law := zr_19 _ (List.mem_of_getElem? (i := 17) rfl)
theorem zw_450 : Cond.methodLink RX11 186 yX11_takesAll ∈ wsL_law := zr_19 _ (List.mem_of_getElem? (i := 18) rfl)
theorem zw_451 : Cond.instanceMethod yX11_takesAll ∈ wsL_law := zr_19 _ (List.mem_of_getElem? (i := 19) rfl)
theorem zw_452 : Cond.selects RX11 yX11_takesAll yX11_takesAll ∈ wsL_law := zr_19 _ (List.mem_of_getElem? (i := 20) rfl)
theorem zw_453 : Cond.code yX11_takesAll cX11_takesAll 3 (some .int) ∈ wsL_law := zr_19 _ (List.mem_of_getElem? (i := 21) rfl)
theorem zw_454 : Cond.fieldLink RX11 117 "SpokenClockModel" "at" "I" ∈ wsL_law := zr_19 _ (List.mem_of_getElem? (i := 22) rfl)
theorem zw_455 : Cond.fieldLink RX11 134 "SpokenClockModel" "kind" "I" ∈ wsL_law := zr_19 _ (List.mem_of_getElem? (i := 23) rfl)
theorem zw_456 : Cond.fieldLink RX11 123 "SpokenClockModel" "value" "J" ∈ wsL_law := zr_20 _ (List.mem_of_getElem? (i := 0) rfl)
theorem zw_457 : Cond.constantLong RX11 157 (198260) ∈ wsL_law := zr_20 _ (List.mem_of_getElem? (i := 1) rfl)
theorem zw_458 : Cond.constantLong RX11 162 (20429043) ∈ wsL_law := zr_20 _ (List.mem_of_getElem? (i := 2) rfl)
theorem zw_459 : Cond.constantLong RX11 164 (2212) ∈ wsL_law := zr_20 _ (List.mem_of_getElem? (i := 3) rfl)
theorem zw_460 : Cond.constantLong RX11 166 (542723566) ∈ wsL_law := zr_20 _ (List.mem_of_getElem? (i := 4) rfl)
theorem zw_461 : Cond.constantLong RX11 171 (656779) ∈ wsL_law := zr_20 _ (List.mem_of_getElem? (i := 5) rfl)
theorem zw_462 : Cond.constantLong RX11 176 (4773) ∈ wsL_law := zr_20 _ (List.mem_of_getElem? (i := 6) rfl)
theorem zw_463 : Cond.constantLong RX11 181 (20225300) ∈ wsL_law := zr_20 _ (List.mem_of_getElem? (i := 7) rfl)
theorem zw_464 : Cond.methodLink RX11 147 yX11_next ∈ wsL_law := zr_20 _ (List.mem_of_getElem? (i := 8) rfl)
theorem zw_465 : Cond.instanceMethod yX11_next ∈ wsL_law := zr_20 _ (List.mem_of_getElem? (i := 9) rfl)
theorem zw_466 : Cond.selects RX11 yX11_next yX11_next ∈ wsL_law := zr_20 _ (List.mem_of_getElem? (i := 10) rfl)
theorem zw_467 : Cond.code yX11_next cX11_next 2 none ∈ wsL_law := zr_20 _ (List.mem_of_getElem? (i := 11) rfl)
theorem zw_468 : Cond.constantLong RX11 137 (32) ∈ wsL_law := zr_20 _ (List.mem_of_getElem? (i := 12) rfl)
theorem zw_469 : Cond.constantLong RX11 139 (96) ∈ wsL_law := zr_20 _ (List.mem_of_getElem? (i := 13) rfl)
theorem zw_470 : Cond.constantLong RX11 141 (-1) ∈ wsL_law := zr_20 _ (List.mem_of_getElem? (i := 14) rfl)
theorem zw_471 : Cond.constantLong RX11 143 (10) ∈ wsL_law := zr_20 _ (List.mem_of_getElem? (i := 15) rfl)
theorem zw_472 : Cond.constantLong RX11 113 (48) ∈ wsL_law := zr_20 _ (List.mem_of_getElem? (i := 16) rfl)
theorem zw_473 : Cond.constantLong RX11 145 (100000) ∈ wsL_law := zr_20 _ (List.mem_of_getElem? (i := 17) rfl)
theorem zw_474 : Cond.methodLink RX11 127 yX11_isLetter ∈ wsL_law := zr_20 _ (List.mem_of_getElem? (i := 18) rfl)
theorem zw_475 : Cond.static yX11_isLetter ∈ wsL_law := zr_20 _ (List.mem_of_getElem? (i := 19) rfl)
theorem zw_476 : Cond.code yX11_isLetter cX11_isLetter 1 (some .boolean) ∈ wsL_law := zr_20 _ (List.mem_of_getElem? (i := 20) rfl)
theorem zw_477 : Cond.constantLong RX11 109 (97) ∈ wsL_law := zr_20 _ (List.mem_of_getElem? (i := 21) rfl)
theorem zw_478 : Cond.constantLong RX11 111 (122) ∈ wsL_law := zr_20 _ (List.mem_of_getElem? (i := 22) rfl)
theorem zw_479 : Cond.methodLink RX11 131 yX11_isFigure ∈ wsL_law := zr_20 _ (List.mem_of_getElem? (i := 23) rfl)
theorem zw_480 : Cond.static yX11_isFigure ∈ wsL_law := zr_21 _ (List.mem_of_getElem? (i := 0) rfl)
theorem zw_481 : Cond.code yX11_isFigure cX11_isFigure 1 (some .boolean) ∈ wsL_law := zr_21 _ (List.mem_of_getElem? (i := 1) rfl)
theorem zw_482 : Cond.constantLong RX11 115 (57) ∈ wsL_law := zr_21 _ (List.mem_of_getElem? (i := 2) rfl)
theorem zw_483 : Cond.methodLink RX11 159 yX11_takesPut ∈ wsL_law := zr_21 _ (List.mem_of_getElem? (i := 3) rfl)
theorem zw_484 : Cond.instanceMethod yX11_takesPut ∈ wsL_law := zr_21 _ (List.mem_of_getElem? (i := 4) rfl)
theorem zw_485 : Cond.selects RX11 yX11_takesPut yX11_takesPut ∈ wsL_law := zr_21 _ (List.mem_of_getElem? (i := 5) rfl)
theorem zw_486 : Cond.code yX11_takesPut cX11_takesPut 2 (some .boolean) ∈ wsL_law := zr_21 _ (List.mem_of_getElem? (i := 6) rfl)
theorem zw_487 : Cond.methodLink RX11 150 yX11_takes ∈ wsL_law := zr_21 _ (List.mem_of_getElem? (i := 7) rfl)
theorem zw_488 : Cond.instanceMethod yX11_takes ∈ wsL_law := zr_21 _ (List.mem_of_getElem? (i := 8) rfl)
theorem zw_489 : Cond.selects RX11 yX11_takes yX11_takes ∈ wsL_law := zr_21 _ (List.mem_of_getElem? (i := 9) rfl)
theorem zw_490 : Cond.code yX11_takes cX11_takes 3 (some .boolean) ∈ wsL_law := zr_21 _ (List.mem_of_getElem? (i := 10) rfl)
theorem zw_491 : Cond.methodLink RX11 153 yX11_stops ∈ wsL_law := zr_21 _ (List.mem_of_getElem? (i := 11) rfl)
theorem zw_492 : Cond.instanceMethod yX11_stops ∈ wsL_law := zr_21 _ (List.mem_of_getElem? (i := 12) rfl)
theorem zw_493 : Cond.selects RX11 yX11_stops yX11_stops ∈ wsL_law := zr_21 _ (List.mem_of_getElem? (i := 13) rfl)
theorem zw_494 : Cond.code yX11_stops cX11_stops 1 (some .boolean) ∈ wsL_law := zr_21 _ (List.mem_of_getElem? (i := 14) rfl)
theorem zw_495 : Cond.methodLink RX11 168 yX11_takesPerson ∈ wsL_law := zr_21 _ (List.mem_of_getElem? (i := 15) rfl)
theorem zw_496 : Cond.instanceMethod yX11_takesPerson ∈ wsL_law := zr_21 _ (List.mem_of_getElem? (i := 16) rfl)
theorem zw_497 : Cond.selects RX11 yX11_takesPerson yX11_takesPerson ∈ wsL_law := zr_21 _ (List.mem_of_getElem? (i := 17) rfl)
theorem zw_498 : Cond.code yX11_takesPerson cX11_takesPerson 2 (some .boolean) ∈ wsL_law := zr_21 _ (List.mem_of_getElem? (i := 18) rfl)
theorem zw_499 : Cond.methodLink RX11 173 yX11_takesTalk ∈ wsL_law := zr_21 _ (List.mem_of_getElem? (i := 19) rfl)
theorem zw_500 : Cond.instanceMethod yX11_takesTalk ∈ wsL_law := zr_21 _ (List.mem_of_getElem? (i := 20) rfl)
theorem zw_501 : Cond.selects RX11 yX11_takesTalk yX11_takesTalk ∈ wsL_law := zr_21 _ (List.mem_of_getElem? (i := 21) rfl)
theorem zw_502 : Cond.code yX11_takesTalk cX11_takesTalk 2 (some .boolean) ∈ wsL_law := zr_21 _ (List.mem_of_getElem? (i := 22) rfl)
theorem zw_503 : Cond.methodLink RX11 178 yX11_takesDue ∈ wsL_law := zr_21 _ (List.mem_of_getElem? (i := 23) rfl)
theorem zw_504 : Cond.instanceMethod yX11_takesDue ∈ wsL_law := zr_22 _ (List.mem_of_getElem? (i := 0) rfl)
theorem zw_505 : Cond.selects RX11 yX11_takesDue yX11_takesDue ∈ wsL_law := zr_22 _ (List.mem_of_getElem? (i := 1) rfl)
theorem zw_506 : Cond.code yX11_takesDue cX11_takesDue 3 (some .boolean) ∈ wsL_law := zr_22 _ (List.mem_of_getElem? (i := 2) rfl)
theorem zw_507 : Cond.methodLink RX11 183 yX11_takesSight ∈ wsL_law := zr_22 _ (List.mem_of_getElem? (i := 3) rfl)
theorem zw_508 : Cond.instanceMethod yX11_takesSight ∈ wsL_law := zr_22 _ (List.mem_of_getElem? (i := 4) rfl)
theorem zw_509 : Cond.selects RX11 yX11_takesSight yX11_takesSight ∈ wsL_law := zr_22 _ (List.mem_of_getElem? (i := 5) rfl)
theorem zw_510 : Cond.code yX11_takesSight cX11_takesSight 2 (some .boolean) ∈ wsL_law := zr_22 _ (List.mem_of_getElem? (i := 6) rfl)
theorem zw_511 : Cond.methodLink RL 56 yX10_write ∈ wsL_law := zr_22 _ (List.mem_of_getElem? (i := 7) rfl)
theorem zw_512 : Cond.instanceMethod yX10_write ∈ wsL_law := zr_22 _ (List.mem_of_getElem? (i := 8) rfl)
theorem zw_513 : Cond.selects RX10 yX10_write yX10_write ∈ wsL_law := zr_22 _ (List.mem_of_getElem? (i := 9) rfl)
theorem zw_514 : Cond.code yX10_write cX10_write 2 (some .int) ∈ wsL_law := zr_22 _ (List.mem_of_getElem? (i := 10) rfl)
theorem zw_515 : Cond.fieldLink RX10 144 "SpokenClock$State" "rule" "LSpokenClock$Rows;" ∈ wsL_law := zr_22 _ (List.mem_of_getElem? (i := 11) rfl)
theorem zw_516 : Cond.methodLink RL 59 yX11_write ∈ wsL_law := zr_22 _ (List.mem_of_getElem? (i := 12) rfl)
theorem zw_517 : Cond.instanceMethod yX11_write ∈ wsL_law := zr_22 _ (List.mem_of_getElem? (i := 13) rfl)
theorem zw_518 : Cond.selects RX11 yX11_write yX11_write ∈ wsL_law := zr_22 _ (List.mem_of_getElem? (i := 14) rfl)
theorem zw_519 : Cond.code yX11_write cX11_write 2 (some .int) ∈ wsL_law := zr_22 _ (List.mem_of_getElem? (i := 15) rfl)
theorem zw_520 : Cond.constantLong RX11 190 (127) ∈ wsL_law := zr_22 _ (List.mem_of_getElem? (i := 16) rfl)
theorem zw_521 : Cond.methodLink RL 60 yX10_erase ∈ wsL_law := zr_22 _ (List.mem_of_getElem? (i := 17) rfl)
theorem zw_522 : Cond.instanceMethod yX10_erase ∈ wsL_law := zr_22 _ (List.mem_of_getElem? (i := 18) rfl)
theorem zw_523 : Cond.selects RX10 yX10_erase yX10_erase ∈ wsL_law := zr_22 _ (List.mem_of_getElem? (i := 19) rfl)
theorem zw_524 : Cond.code yX10_erase cX10_erase 1 (some .int) ∈ wsL_law := zr_22 _ (List.mem_of_getElem? (i := 20) rfl)
theorem zw_525 : Cond.methodLink RL 63 yX11_erase ∈ wsL_law := zr_22 _ (List.mem_of_getElem? (i := 21) rfl)
theorem zw_526 : Cond.instanceMethod yX11_erase ∈ wsL_law := zr_22 _ (List.mem_of_getElem? (i := 22) rfl)
theorem zw_527 : Cond.selects RX11 yX11_erase yX11_erase ∈ wsL_law := zr_22 _ (List.mem_of_getElem? (i := 23) rfl)
theorem zw_528 : Cond.code yX11_erase cX11_erase 2 (some .int) ∈ wsL_law := zr_23 _ (List.mem_of_getElem? (i := 0) rfl)
theorem zw_529 : Cond.methodLink RL 64 yX10_fault ∈ wsL_law := zr_23 _ (List.mem_of_getElem? (i := 1) rfl)
theorem zw_530 : Cond.instanceMethod yX10_fault ∈ wsL_law := zr_23 _ (List.mem_of_getElem? (i := 2) rfl)
theorem zw_531 : Cond.selects RX10 yX10_fault yX10_fault ∈ wsL_law := zr_23 _ (List.mem_of_getElem? (i := 3) rfl)
theorem zw_532 : Cond.code yX10_fault cX10_fault 1 (some .int) ∈ wsL_law := zr_23 _ (List.mem_of_getElem? (i := 4) rfl)
theorem zw_533 : Cond.methodLink RX10 150 yX8_refresh ∈ wsL_law := zr_23 _ (List.mem_of_getElem? (i := 5) rfl)
theorem zw_534 : Cond.instanceMethod yX8_refresh ∈ wsL_law := zr_23 _ (List.mem_of_getElem? (i := 6) rfl)
theorem zw_535 : Cond.selects RX8 yX8_refresh yX8_refresh ∈ wsL_law := zr_23 _ (List.mem_of_getElem? (i := 7) rfl)
theorem zw_536 : Cond.code yX8_refresh cX8_refresh 1 none ∈ wsL_law := zr_23 _ (List.mem_of_getElem? (i := 8) rfl)
theorem zw_537 : Cond.fieldLink RX8 30 "SpokenClock$Rule" "size" "I" ∈ wsL_law := zr_23 _ (List.mem_of_getElem? (i := 9) rfl)
theorem zw_538 : Cond.fieldLink RX8 34 "SpokenClock$Rule" "place" "I" ∈ wsL_law := zr_23 _ (List.mem_of_getElem? (i := 10) rfl)
theorem zw_539 : Cond.fieldLink RX8 37 "SpokenClock$Rule" "fault" "I" ∈ wsL_law := zr_23 _ (List.mem_of_getElem? (i := 11) rfl)
theorem zw_540 : Cond.methodLink RX8 40 yX8_parseLevel ∈ wsL_law := zr_23 _ (List.mem_of_getElem? (i := 12) rfl)
theorem zw_541 : Cond.instanceMethod yX8_parseLevel ∈ wsL_law := zr_23 _ (List.mem_of_getElem? (i := 13) rfl)
theorem zw_542 : Cond.selects RX8 yX8_parseLevel yX8_parseLevel ∈ wsL_law := zr_23 _ (List.mem_of_getElem? (i := 14) rfl)
theorem zw_543 : Cond.code yX8_parseLevel cX8_parseLevel 6 none ∈ wsL_law := zr_23 _ (List.mem_of_getElem? (i := 15) rfl)
theorem zw_544 : Cond.methodLink RX8 60 yX8_parseUnit ∈ wsL_law := zr_23 _ (List.mem_of_getElem? (i := 16) rfl)
theorem zw_545 : Cond.instanceMethod yX8_parseUnit ∈ wsL_law := zr_23 _ (List.mem_of_getElem? (i := 17) rfl)
theorem zw_546 : Cond.selects RX8 yX8_parseUnit yX8_parseUnit ∈ wsL_law := zr_23 _ (List.mem_of_getElem? (i := 18) rfl)
theorem zw_547 : Cond.methodLink RX8 44 yX8_ahead ∈ wsL_law := zr_23 _ (List.mem_of_getElem? (i := 19) rfl)
theorem zw_548 : Cond.instanceMethod yX8_ahead ∈ wsL_law := zr_23 _ (List.mem_of_getElem? (i := 20) rfl)
theorem zw_549 : Cond.selects RX8 yX8_ahead yX8_ahead ∈ wsL_law := zr_23 _ (List.mem_of_getElem? (i := 21) rfl)
theorem zw_550 : Cond.code yX8_ahead cX8_ahead 1 (some .int) ∈ wsL_law := zr_23 _ (List.mem_of_getElem? (i := 22) rfl)
theorem zw_551 : Cond.fieldLink RX8 71 "SpokenClock$State" "rule" "LSpokenClock$Rows;" ∈ wsL_law := zr_23 _ (List.mem_of_getElem? (i := 23) rfl)
theorem zw_552 : Cond.methodLink RX8 75 yX7_size ∈ wsL_law := zr_24 _ (List.mem_of_getElem? (i := 0) rfl)
theorem zw_553 : Cond.methodLink RX8 86 yX7_at ∈ wsL_law := zr_24 _ (List.mem_of_getElem? (i := 1) rfl)
theorem zw_554 : Cond.methodLink RX8 64 yX8_rankOf ∈ wsL_law := zr_24 _ (List.mem_of_getElem? (i := 2) rfl)
theorem zw_555 : Cond.static yX8_rankOf ∈ wsL_law := zr_24 _ (List.mem_of_getElem? (i := 3) rfl)
theorem zw_556 : Cond.code yX8_rankOf cX8_rankOf 1 (some .int) ∈ wsL_law := zr_24 _ (List.mem_of_getElem? (i := 4) rfl)
theorem zw_557 : Cond.methodLink RX8 68 yX8_emit ∈ wsL_law := zr_24 _ (List.mem_of_getElem? (i := 5) rfl)
theorem zw_558 : Cond.instanceMethod yX8_emit ∈ wsL_law := zr_24 _ (List.mem_of_getElem? (i := 6) rfl)
theorem zw_559 : Cond.selects RX8 yX8_emit yX8_emit ∈ wsL_law := zr_24 _ (List.mem_of_getElem? (i := 7) rfl)
theorem zw_560 : Cond.code yX8_emit cX8_emit 2 none ∈ wsL_law := zr_24 _ (List.mem_of_getElem? (i := 8) rfl)
theorem zw_561 : Cond.code yX8_parseOperand cX8_parseOperand 3 none ∈ wsL_law := zr_24 _ (List.mem_of_getElem? (i := 9) rfl)
theorem zw_562 : Cond.methodLink RX8 90 yX8_isDigit ∈ wsL_law := zr_24 _ (List.mem_of_getElem? (i := 10) rfl)
theorem zw_563 : Cond.static yX8_isDigit ∈ wsL_law := zr_24 _ (List.mem_of_getElem? (i := 11) rfl)
theorem zw_564 : Cond.code yX8_isDigit cX8_isDigit 1 (some .boolean) ∈ wsL_law := zr_24 _ (List.mem_of_getElem? (i := 12) rfl)
theorem zw_565 : Cond.methodLink RX8 93 yX8_parseNumber ∈ wsL_law := zr_24 _ (List.mem_of_getElem? (i := 13) rfl)
theorem zw_566 : Cond.instanceMethod yX8_parseNumber ∈ wsL_law := zr_24 _ (List.mem_of_getElem? (i := 14) rfl)
theorem zw_567 : Cond.selects RX8 yX8_parseNumber yX8_parseNumber ∈ wsL_law := zr_24 _ (List.mem_of_getElem? (i := 15) rfl)
theorem zw_568 : Cond.code yX8_parseNumber cX8_parseNumber 3 none ∈ wsL_law := zr_24 _ (List.mem_of_getElem? (i := 16) rfl)
theorem zw_569 : Cond.methodLink RX8 48 yX8_stop ∈ wsL_law := zr_24 _ (List.mem_of_getElem? (i := 17) rfl)
theorem zw_570 : Cond.instanceMethod yX8_stop ∈ wsL_law := zr_24 _ (List.mem_of_getElem? (i := 18) rfl)
theorem zw_571 : Cond.selects RX8 yX8_stop yX8_stop ∈ wsL_law := zr_24 _ (List.mem_of_getElem? (i := 19) rfl)
theorem zw_572 : Cond.code yX8_stop cX8_stop 3 none ∈ wsL_law := zr_24 _ (List.mem_of_getElem? (i := 20) rfl)
theorem zw_573 : Cond.methodLink RX8 96 yX8_nameOf ∈ wsL_law := zr_24 _ (List.mem_of_getElem? (i := 21) rfl)
theorem zw_574 : Cond.static yX8_nameOf ∈ wsL_law := zr_24 _ (List.mem_of_getElem? (i := 22) rfl)
theorem zw_575 : Cond.code yX8_nameOf cX8_nameOf 1 (some .int) ∈ wsL_law := zr_24 _ (List.mem_of_getElem? (i := 23) rfl)
theorem zw_576 : Cond.code yX8_parseUnit cX8_parseUnit 6 none ∈ wsL_law := zr_25 _ (List.mem_of_getElem? (i := 0) rfl)
theorem zw_577 : Cond.methodLink RX8 79 yX8_isPrefix ∈ wsL_law := zr_25 _ (List.mem_of_getElem? (i := 1) rfl)
theorem zw_578 : Cond.static yX8_isPrefix ∈ wsL_law := zr_25 _ (List.mem_of_getElem? (i := 2) rfl)
theorem zw_579 : Cond.code yX8_isPrefix cX8_isPrefix 1 (some .boolean) ∈ wsL_law := zr_25 _ (List.mem_of_getElem? (i := 3) rfl)
theorem zw_580 : Cond.methodLink RX8 83 yX8_parseOperand ∈ wsL_law := zr_25 _ (List.mem_of_getElem? (i := 4) rfl)
theorem zw_581 : Cond.instanceMethod yX8_parseOperand ∈ wsL_law := zr_25 _ (List.mem_of_getElem? (i := 5) rfl)
theorem zw_582 : Cond.selects RX8 yX8_parseOperand yX8_parseOperand ∈ wsL_law := zr_25 _ (List.mem_of_getElem? (i := 6) rfl)
theorem zw_583 : Cond.methodLink RX10 153 yX8_firstFault ∈ wsL_law := zr_25 _ (List.mem_of_getElem? (i := 7) rfl)
theorem zw_584 : Cond.instanceMethod yX8_firstFault ∈ wsL_law := zr_25 _ (List.mem_of_getElem? (i := 8) rfl)
theorem zw_585 : Cond.selects RX8 yX8_firstFault yX8_firstFault ∈ wsL_law := zr_25 _ (List.mem_of_getElem? (i := 9) rfl)
theorem zw_586 : Cond.code yX8_firstFault cX8_firstFault 1 (some .int) ∈ wsL_law := zr_25 _ (List.mem_of_getElem? (i := 10) rfl)
theorem zw_587 : Cond.methodLink RL 67 yX11_fault ∈ wsL_law := zr_25 _ (List.mem_of_getElem? (i := 11) rfl)
theorem zw_588 : Cond.instanceMethod yX11_fault ∈ wsL_law := zr_25 _ (List.mem_of_getElem? (i := 12) rfl)
theorem zw_589 : Cond.selects RX11 yX11_fault yX11_fault ∈ wsL_law := zr_25 _ (List.mem_of_getElem? (i := 13) rfl)
theorem zw_590 : Cond.code yX11_fault cX11_fault 1 (some .int) ∈ wsL_law := zr_25 _ (List.mem_of_getElem? (i := 14) rfl)
theorem zw_591 : Cond.methodLink RX11 217 yX11_compile ∈ wsL_law := zr_25 _ (List.mem_of_getElem? (i := 15) rfl)
theorem zw_592 : Cond.instanceMethod yX11_compile ∈ wsL_law := zr_25 _ (List.mem_of_getElem? (i := 16) rfl)
theorem zw_593 : Cond.selects RX11 yX11_compile yX11_compile ∈ wsL_law := zr_25 _ (List.mem_of_getElem? (i := 17) rfl)
theorem zw_594 : Cond.code yX11_compile cX11_compile 5 (some .int) ∈ wsL_law := zr_25 _ (List.mem_of_getElem? (i := 18) rfl)
theorem zw_595 : Cond.fieldLink RX11 198 "SpokenClockModel" "acts" "I" ∈ wsL_law := zr_25 _ (List.mem_of_getElem? (i := 19) rfl)
theorem zw_596 : Cond.fieldLink RX11 192 "SpokenClockModel" "waits" "I" ∈ wsL_law := zr_25 _ (List.mem_of_getElem? (i := 20) rfl)
theorem zw_597 : Cond.fieldLink RX11 201 "SpokenClockModel" "place" "I" ∈ wsL_law := zr_25 _ (List.mem_of_getElem? (i := 21) rfl)
theorem zw_598 : Cond.methodLink RX11 210 yX11_takesUnit ∈ wsL_law := zr_25 _ (List.mem_of_getElem? (i := 22) rfl)
theorem zw_599 : Cond.instanceMethod yX11_takesUnit ∈ wsL_law := zr_25 _ (List.mem_of_getElem? (i := 23) rfl)
theorem zw_600 : Cond.selects RX11 yX11_takesUnit yX11_takesUnit ∈ wsL_law := zr_26 _ (List.mem_of_getElem? (i := 0) rfl)
theorem zw_601 : Cond.code yX11_takesUnit cX11_takesUnit 5 (some .int) ∈ wsL_law := zr_26 _ (List.mem_of_getElem? (i := 1) rfl)
theorem zw_602 : Cond.methodLink RX11 204 yX11_here ∈ wsL_law := zr_26 _ (List.mem_of_getElem? (i := 2) rfl)
theorem zw_603 : Cond.instanceMethod yX11_here ∈ wsL_law := zr_26 _ (List.mem_of_getElem? (i := 3) rfl)
theorem zw_604 : Cond.selects RX11 yX11_here yX11_here ∈ wsL_law := zr_26 _ (List.mem_of_getElem? (i := 4) rfl)
theorem zw_605 : Cond.code yX11_here cX11_here 1 (some .int) ∈ wsL_law := zr_26 _ (List.mem_of_getElem? (i := 5) rfl)
theorem zw_606 : Cond.methodLink RX11 207 yX11_isName ∈ wsL_law := zr_26 _ (List.mem_of_getElem? (i := 6) rfl)
theorem zw_607 : Cond.static yX11_isName ∈ wsL_law := zr_26 _ (List.mem_of_getElem? (i := 7) rfl)
theorem zw_608 : Cond.code yX11_isName cX11_isName 1 (some .boolean) ∈ wsL_law := zr_26 _ (List.mem_of_getElem? (i := 8) rfl)
theorem zw_609 : Cond.methodLink RX11 213 yX11_does ∈ wsL_law := zr_26 _ (List.mem_of_getElem? (i := 9) rfl)
theorem zw_610 : Cond.instanceMethod yX11_does ∈ wsL_law := zr_26 _ (List.mem_of_getElem? (i := 10) rfl)
theorem zw_611 : Cond.selects RX11 yX11_does yX11_does ∈ wsL_law := zr_26 _ (List.mem_of_getElem? (i := 11) rfl)
theorem zw_612 : Cond.code yX11_does cX11_does 2 none ∈ wsL_law := zr_26 _ (List.mem_of_getElem? (i := 12) rfl)
theorem zw_613 : Cond.methodLink RX11 195 yX11_holds ∈ wsL_law := zr_26 _ (List.mem_of_getElem? (i := 13) rfl)
theorem zw_614 : Cond.static yX11_holds ∈ wsL_law := zr_26 _ (List.mem_of_getElem? (i := 14) rfl)
theorem zw_615 : Cond.code yX11_holds cX11_holds 1 (some .int) ∈ wsL_law := zr_26 _ (List.mem_of_getElem? (i := 15) rfl)
theorem zw_616 : Cond.methodLink RL 68 yX10_clock ∈ wsL_law := zr_26 _ (List.mem_of_getElem? (i := 16) rfl)
theorem zw_617 : Cond.instanceMethod yX10_clock ∈ wsL_law := zr_26 _ (List.mem_of_getElem? (i := 17) rfl)
theorem zw_618 : Cond.selects RX10 yX10_clock yX10_clock ∈ wsL_law := zr_26 _ (List.mem_of_getElem? (i := 18) rfl)
theorem zw_619 : Cond.code yX10_clock cX10_clock 3 (some .int) ∈ wsL_law := zr_26 _ (List.mem_of_getElem? (i := 19) rfl)
theorem zw_620 : Cond.methodLink RX10 156 yX10_isValley ∈ wsL_law := zr_26 _ (List.mem_of_getElem? (i := 20) rfl)
theorem zw_621 : Cond.static yX10_isValley ∈ wsL_law := zr_26 _ (List.mem_of_getElem? (i := 21) rfl)
theorem zw_622 : Cond.code yX10_isValley cX10_isValley 1 (some .boolean) ∈ wsL_law := zr_26 _ (List.mem_of_getElem? (i := 22) rfl)
theorem zw_623 : Cond.methodLink RX10 164 yX10_prepare ∈ wsL_law := zr_26 _ (List.mem_of_getElem? (i := 23) rfl)
theorem zw_624 : Cond.instanceMethod yX10_prepare ∈ wsL_law := zr_27 _ (List.mem_of_getElem? (i := 0) rfl)
theorem zw_625 : Cond.selects RX10 yX10_prepare yX10_prepare ∈ wsL_law := zr_27 _ (List.mem_of_getElem? (i := 1) rfl)
theorem zw_626 : Cond.code yX10_prepare cX10_prepare 1 none ∈ wsL_law := zr_27 _ (List.mem_of_getElem? (i := 2) rfl)
theorem zw_627 : Cond.methodLink RX10 250 yX1_refresh ∈ wsL_law := zr_27 _ (List.mem_of_getElem? (i := 3) rfl)
theorem zw_628 : Cond.instanceMethod yX1_refresh ∈ wsL_law := zr_27 _ (List.mem_of_getElem? (i := 4) rfl)
theorem zw_629 : Cond.selects RX1 yX1_refresh yX1_refresh ∈ wsL_law := zr_27 _ (List.mem_of_getElem? (i := 5) rfl)
theorem zw_630 : Cond.code yX1_refresh cX1_refresh 6 none ∈ wsL_law := zr_27 _ (List.mem_of_getElem? (i := 6) rfl)
theorem zw_631 : Cond.fieldLink RX1 44 "SpokenClock$State" "people" "LSpokenClock$Rows;" ∈ wsL_law := zr_27 _ (List.mem_of_getElem? (i := 7) rfl)
theorem zw_632 : Cond.fieldLink RX1 84 "SpokenClock$State" "settings" "[I" ∈ wsL_law := zr_27 _ (List.mem_of_getElem? (i := 8) rfl)
theorem zw_633 : Cond.methodLink RX1 87 Lib.Math.min.name ∈ wsL_law := zr_27 _ (List.mem_of_getElem? (i := 9) rfl)
theorem zw_634 : Cond.methodLink RX1 81 yX1_fillTalkers ∈ wsL_law := zr_27 _ (List.mem_of_getElem? (i := 10) rfl)
theorem zw_635 : Cond.instanceMethod yX1_fillTalkers ∈ wsL_law := zr_27 _ (List.mem_of_getElem? (i := 11) rfl)
theorem zw_636 : Cond.selects RX1 yX1_fillTalkers yX1_fillTalkers ∈ wsL_law := zr_27 _ (List.mem_of_getElem? (i := 12) rfl)
theorem zw_637 : Cond.code yX1_fillTalkers cX1_fillTalkers 5 none ∈ wsL_law := zr_27 _ (List.mem_of_getElem? (i := 13) rfl)
theorem zw_638 : Cond.fieldLink RX1 71 "SpokenClock$State" "talks" "LSpokenClock$Rows;" ∈ wsL_law := zr_27 _ (List.mem_of_getElem? (i := 14) rfl)
theorem zw_639 : Cond.methodLink RX1 98 Lib.Math.max.name ∈ wsL_law := zr_27 _ (List.mem_of_getElem? (i := 15) rfl)
theorem zw_640 : Cond.methodLink RX1 92 yJ7_fill_53178 ∈ wsL_law := zr_27 _ (List.mem_of_getElem? (i := 16) rfl)
theorem zw_641 : Cond.static yJ7_fill_53178 ∈ wsL_law := zr_27 _ (List.mem_of_getElem? (i := 17) rfl)
theorem zw_642 : Cond.initialized RJ7 ∈ wsL_law := zr_27 _ (List.mem_of_getElem? (i := 18) rfl)
theorem zw_643 : Cond.code yJ7_fill_53178 cJ7_fill_53178 4 none ∈ wsL_law := zr_27 _ (List.mem_of_getElem? (i := 19) rfl)
theorem zw_644 : Cond.methodLink RX1 67 yX7_size ∈ wsL_law := zr_27 _ (List.mem_of_getElem? (i := 20) rfl)
theorem zw_645 : Cond.methodLink RX1 50 yX7_at ∈ wsL_law := zr_27 _ (List.mem_of_getElem? (i := 21) rfl)
theorem zw_646 : Cond.methodLink RX1 59 yX1_together ∈ wsL_law := zr_27 _ (List.mem_of_getElem? (i := 22) rfl)
theorem zw_647 : Cond.instanceMethod yX1_together ∈ wsL_law := zr_27 _ (List.mem_of_getElem? (i := 23) rfl)
theorem zw_648 : Cond.selects RX1 yX1_together yX1_together ∈ wsL_law := zr_28 _ (List.mem_of_getElem? (i := 0) rfl)
theorem zw_649 : Cond.code yX1_together cX1_together 8 (some .int) ∈ wsL_law := zr_28 _ (List.mem_of_getElem? (i := 1) rfl)
theorem zw_650 : Cond.methodLink RX1 40 yX1_isTalking ∈ wsL_law := zr_28 _ (List.mem_of_getElem? (i := 2) rfl)
theorem zw_651 : Cond.instanceMethod yX1_isTalking ∈ wsL_law := zr_28 _ (List.mem_of_getElem? (i := 3) rfl)
theorem zw_652 : Cond.selects RX1 yX1_isTalking yX1_isTalking ∈ wsL_law := zr_28 _ (List.mem_of_getElem? (i := 4) rfl)
theorem zw_653 : Cond.code yX1_isTalking cX1_isTalking 3 (some .boolean) ∈ wsL_law := zr_28 _ (List.mem_of_getElem? (i := 5) rfl)
theorem zw_654 : Cond.methodLink RX1 63 yX1_voiceOf ∈ wsL_law := zr_28 _ (List.mem_of_getElem? (i := 6) rfl)
theorem zw_655 : Cond.instanceMethod yX1_voiceOf ∈ wsL_law := zr_28 _ (List.mem_of_getElem? (i := 7) rfl)
theorem zw_656 : Cond.selects RX1 yX1_voiceOf yX1_voiceOf ∈ wsL_law := zr_28 _ (List.mem_of_getElem? (i := 8) rfl)
theorem zw_657 : Cond.code yX1_voiceOf cX1_voiceOf 6 (some .int) ∈ wsL_law := zr_28 _ (List.mem_of_getElem? (i := 9) rfl)
theorem zw_658 : Cond.methodLink RX1 101 yX8_holds ∈ wsL_law := zr_28 _ (List.mem_of_getElem? (i := 10) rfl)
theorem zw_659 : Cond.instanceMethod yX8_holds ∈ wsL_law := zr_28 _ (List.mem_of_getElem? (i := 11) rfl)
theorem zw_660 : Cond.selects RX8 yX8_holds yX8_holds ∈ wsL_law := zr_28 _ (List.mem_of_getElem? (i := 12) rfl)
theorem zw_661 : Cond.code yX8_holds cX8_holds 5 (some .boolean) ∈ wsL_law := zr_28 _ (List.mem_of_getElem? (i := 13) rfl)
theorem zw_662 : Cond.fieldLink RX8 51 "SpokenClock$State" "settings" "[I" ∈ wsL_law := zr_28 _ (List.mem_of_getElem? (i := 14) rfl)
theorem zw_663 : Cond.methodLink RX8 56 yX8_worked ∈ wsL_law := zr_28 _ (List.mem_of_getElem? (i := 15) rfl)
theorem zw_664 : Cond.instanceMethod yX8_worked ∈ wsL_law := zr_28 _ (List.mem_of_getElem? (i := 16) rfl)
theorem zw_665 : Cond.selects RX8 yX8_worked yX8_worked ∈ wsL_law := zr_28 _ (List.mem_of_getElem? (i := 17) rfl)
theorem zw_666 : Cond.code yX8_worked cX8_worked 4 (some .long) ∈ wsL_law := zr_28 _ (List.mem_of_getElem? (i := 18) rfl)
theorem zw_667 : Cond.methodLink RX8 99 yX8_joined ∈ wsL_law := zr_28 _ (List.mem_of_getElem? (i := 19) rfl)
theorem zw_668 : Cond.static yX8_joined ∈ wsL_law := zr_28 _ (List.mem_of_getElem? (i := 20) rfl)
theorem zw_669 : Cond.code yX8_joined cX8_joined 5 (some .long) ∈ wsL_law := zr_28 _ (List.mem_of_getElem? (i := 21) rfl)
theorem zw_670 : Cond.methodLink RX10 167 yX1_clockAt ∈ wsL_law := zr_28 _ (List.mem_of_getElem? (i := 22) rfl)
theorem zw_671 : Cond.instanceMethod yX1_clockAt ∈ wsL_law := zr_28 _ (List.mem_of_getElem? (i := 23) rfl)
theorem zw_672 : Cond.selects RX1 yX1_clockAt yX1_clockAt ∈ wsL_law := zr_29 _ (List.mem_of_getElem? (i := 0) rfl)
theorem zw_673 : Cond.code yX1_clockAt cX1_clockAt 3 (some .int) ∈ wsL_law := zr_29 _ (List.mem_of_getElem? (i := 1) rfl)
theorem zw_674 : Cond.methodLink RL 71 yX11_clock ∈ wsL_law := zr_29 _ (List.mem_of_getElem? (i := 2) rfl)
theorem zw_675 : Cond.instanceMethod yX11_clock ∈ wsL_law := zr_29 _ (List.mem_of_getElem? (i := 3) rfl)
theorem zw_676 : Cond.selects RX11 yX11_clock yX11_clock ∈ wsL_law := zr_29 _ (List.mem_of_getElem? (i := 4) rfl)
theorem zw_677 : Cond.code yX11_clock cX11_clock 3 (some .int) ∈ wsL_law := zr_29 _ (List.mem_of_getElem? (i := 5) rfl)
theorem zw_678 : Cond.methodLink RX11 232 yX11_winds ∈ wsL_law := zr_29 _ (List.mem_of_getElem? (i := 6) rfl)
theorem zw_679 : Cond.instanceMethod yX11_winds ∈ wsL_law := zr_29 _ (List.mem_of_getElem? (i := 7) rfl)
theorem zw_680 : Cond.selects RX11 yX11_winds yX11_winds ∈ wsL_law := zr_29 _ (List.mem_of_getElem? (i := 8) rfl)
theorem zw_681 : Cond.code yX11_winds cX11_winds 8 none ∈ wsL_law := zr_29 _ (List.mem_of_getElem? (i := 9) rfl)
theorem zw_682 : Cond.methodLink RX11 228 yX11_worth ∈ wsL_law := zr_29 _ (List.mem_of_getElem? (i := 10) rfl)
theorem zw_683 : Cond.instanceMethod yX11_worth ∈ wsL_law := zr_29 _ (List.mem_of_getElem? (i := 11) rfl)
theorem zw_684 : Cond.selects RX11 yX11_worth yX11_worth ∈ wsL_law := zr_29 _ (List.mem_of_getElem? (i := 12) rfl)
theorem zw_685 : Cond.code yX11_worth cX11_worth 6 (some .int) ∈ wsL_law := zr_29 _ (List.mem_of_getElem? (i := 13) rfl)
theorem zw_686 : Cond.methodLink RX11 224 yX11_tells ∈ wsL_law := zr_29 _ (List.mem_of_getElem? (i := 14) rfl)
theorem zw_687 : Cond.instanceMethod yX11_tells ∈ wsL_law := zr_29 _ (List.mem_of_getElem? (i := 15) rfl)
theorem zw_688 : Cond.selects RX11 yX11_tells yX11_tells ∈ wsL_law := zr_29 _ (List.mem_of_getElem? (i := 16) rfl)
theorem zw_689 : Cond.code yX11_tells cX11_tells 8 (some .long) ∈ wsL_law := zr_29 _ (List.mem_of_getElem? (i := 17) rfl)
theorem zw_690 : Cond.methodLink RX11 220 yX11_worked ∈ wsL_law := zr_29 _ (List.mem_of_getElem? (i := 18) rfl)
theorem zw_691 : Cond.static yX11_worked ∈ wsL_law := zr_29 _ (List.mem_of_getElem? (i := 19) rfl)
theorem zw_692 : Cond.code yX11_worked cX11_worked 5 (some .long) ∈ wsL_law := zr_29 _ (List.mem_of_getElem? (i := 20) rfl)
theorem zw_693 : Cond.methodLink RL 72 yX10_counts ∈ wsL_law := zr_29 _ (List.mem_of_getElem? (i := 21) rfl)
theorem zw_694 : Cond.instanceMethod yX10_counts ∈ wsL_law := zr_29 _ (List.mem_of_getElem? (i := 22) rfl)
theorem zw_695 : Cond.selects RX10 yX10_counts yX10_counts ∈ wsL_law := zr_29 _ (List.mem_of_getElem? (i := 23) rfl)
theorem zw_696 : Cond.code yX10_counts cX10_counts 3 (some .int) ∈ wsL_law := zr_30 _ (List.mem_of_getElem? (i := 0) rfl)
theorem zw_697 : Cond.fieldLink RX10 171 "SpokenClock$State" "people" "LSpokenClock$Rows;" ∈ wsL_law := zr_30 _ (List.mem_of_getElem? (i := 1) rfl)
theorem zw_698 : Cond.methodLink RX10 174 yX1_countedOf ∈ wsL_law := zr_30 _ (List.mem_of_getElem? (i := 2) rfl)
theorem zw_699 : Cond.instanceMethod yX1_countedOf ∈ wsL_law := zr_30 _ (List.mem_of_getElem? (i := 3) rfl)
theorem zw_700 : Cond.selects RX1 yX1_countedOf yX1_countedOf ∈ wsL_law := zr_30 _ (List.mem_of_getElem? (i := 4) rfl)
theorem zw_701 : Cond.code yX1_countedOf cX1_countedOf 6 (some .int) ∈ wsL_law := zr_30 _ (List.mem_of_getElem? (i := 5) rfl)
theorem zw_702 : Cond.methodLink RX1 56 yX1_clockAt ∈ wsL_law := zr_30 _ (List.mem_of_getElem? (i := 6) rfl)
theorem zw_703 : Cond.methodLink RL 75 yX11_counts ∈ wsL_law := zr_30 _ (List.mem_of_getElem? (i := 7) rfl)
theorem zw_704 : Cond.instanceMethod yX11_counts ∈ wsL_law := zr_30 _ (List.mem_of_getElem? (i := 8) rfl)
theorem zw_705 : Cond.selects RX11 yX11_counts yX11_counts ∈ wsL_law := zr_30 _ (List.mem_of_getElem? (i := 9) rfl)
theorem zw_706 : Cond.code yX11_counts cX11_counts 3 (some .int) ∈ wsL_law := zr_30 _ (List.mem_of_getElem? (i := 10) rfl)
theorem zw_707 : Cond.constantLong RX11 235 (239) ∈ wsL_law := zr_30 _ (List.mem_of_getElem? (i := 11) rfl)
theorem zw_708 : Cond.methodLink RL 76 yX10_sun ∈ wsL_law := zr_30 _ (List.mem_of_getElem? (i := 12) rfl)
theorem zw_709 : Cond.instanceMethod yX10_sun ∈ wsL_law := zr_30 _ (List.mem_of_getElem? (i := 13) rfl)
theorem zw_710 : Cond.selects RX10 yX10_sun yX10_sun ∈ wsL_law := zr_30 _ (List.mem_of_getElem? (i := 14) rfl)
theorem zw_711 : Cond.code yX10_sun cX10_sun 3 (some .int) ∈ wsL_law := zr_30 _ (List.mem_of_getElem? (i := 15) rfl)
theorem zw_712 : Cond.methodLink RX10 177 yX1_firstMinute ∈ wsL_law := zr_30 _ (List.mem_of_getElem? (i := 16) rfl)
theorem zw_713 : Cond.instanceMethod yX1_firstMinute ∈ wsL_law := zr_30 _ (List.mem_of_getElem? (i := 17) rfl)
theorem zw_714 : Cond.selects RX1 yX1_firstMinute yX1_firstMinute ∈ wsL_law := zr_30 _ (List.mem_of_getElem? (i := 18) rfl)
theorem zw_715 : Cond.code yX1_firstMinute cX1_firstMinute 4 (some .int) ∈ wsL_law := zr_30 _ (List.mem_of_getElem? (i := 19) rfl)
theorem zw_716 : Cond.methodLink RL 79 yX11_sun ∈ wsL_law := zr_30 _ (List.mem_of_getElem? (i := 20) rfl)
theorem zw_717 : Cond.instanceMethod yX11_sun ∈ wsL_law := zr_30 _ (List.mem_of_getElem? (i := 21) rfl)
theorem zw_718 : Cond.selects RX11 yX11_sun yX11_sun ∈ wsL_law := zr_30 _ (List.mem_of_getElem? (i := 22) rfl)
theorem zw_719 : Cond.code yX11_sun cX11_sun 3 (some .int) ∈ wsL_law := zr_30 _ (List.mem_of_getElem? (i := 23) rfl)
theorem zw_720 : Cond.methodLink RX11 237 yX11_first ∈ wsL_law := zr_31 _ (List.mem_of_getElem? (i := 0) rfl)
theorem zw_721 : Cond.instanceMethod yX11_first ∈ wsL_law := zr_31 _ (List.mem_of_getElem? (i := 1) rfl)
theorem zw_722 : Cond.selects RX11 yX11_first yX11_first ∈ wsL_law := zr_31 _ (List.mem_of_getElem? (i := 2) rfl)
theorem zw_723 : Cond.code yX11_first cX11_first 4 (some .int) ∈ wsL_law := zr_31 _ (List.mem_of_getElem? (i := 3) rfl)
theorem zw_724 : Cond.methodLink RL 80 yX10_letter ∈ wsL_law := zr_31 _ (List.mem_of_getElem? (i := 4) rfl)
theorem zw_725 : Cond.instanceMethod yX10_letter ∈ wsL_law := zr_31 _ (List.mem_of_getElem? (i := 5) rfl)
theorem zw_726 : Cond.selects RX10 yX10_letter yX10_letter ∈ wsL_law := zr_31 _ (List.mem_of_getElem? (i := 6) rfl)
theorem zw_727 : Cond.code yX10_letter cX10_letter 5 (some .int) ∈ wsL_law := zr_31 _ (List.mem_of_getElem? (i := 7) rfl)
theorem zw_728 : Cond.methodLink RL 83 yX11_letter ∈ wsL_law := zr_31 _ (List.mem_of_getElem? (i := 8) rfl)
theorem zw_729 : Cond.instanceMethod yX11_letter ∈ wsL_law := zr_31 _ (List.mem_of_getElem? (i := 9) rfl)
theorem zw_730 : Cond.selects RX11 yX11_letter yX11_letter ∈ wsL_law := zr_31 _ (List.mem_of_getElem? (i := 10) rfl)
theorem zw_731 : Cond.code yX11_letter cX11_letter 5 (some .int) ∈ wsL_law := zr_31 _ (List.mem_of_getElem? (i := 11) rfl)
theorem zw_732 : Cond.methodLink RL 84 yX10_turns ∈ wsL_law := zr_31 _ (List.mem_of_getElem? (i := 12) rfl)
theorem zw_733 : Cond.instanceMethod yX10_turns ∈ wsL_law := zr_31 _ (List.mem_of_getElem? (i := 13) rfl)
theorem zw_734 : Cond.selects RX10 yX10_turns yX10_turns ∈ wsL_law := zr_31 _ (List.mem_of_getElem? (i := 14) rfl)
theorem zw_735 : Cond.code yX10_turns cX10_turns 2 (some .int) ∈ wsL_law := zr_31 _ (List.mem_of_getElem? (i := 15) rfl)
theorem zw_736 : Cond.methodLink RX10 180 yX1_firstMissedTurn ∈ wsL_law := zr_31 _ (List.mem_of_getElem? (i := 16) rfl)
theorem zw_737 : Cond.instanceMethod yX1_firstMissedTurn ∈ wsL_law := zr_31 _ (List.mem_of_getElem? (i := 17) rfl)
theorem zw_738 : Cond.selects RX1 yX1_firstMissedTurn yX1_firstMissedTurn ∈ wsL_law := zr_31 _ (List.mem_of_getElem? (i := 18) rfl)
theorem zw_739 : Cond.code yX1_firstMissedTurn cX1_firstMissedTurn 5 (some .int) ∈ wsL_law := zr_31 _ (List.mem_of_getElem? (i := 19) rfl)
theorem zw_740 : Cond.methodLink RX1 74 yX7_greatest ∈ wsL_law := zr_31 _ (List.mem_of_getElem? (i := 20) rfl)
theorem zw_741 : Cond.instanceMethod yX7_greatest ∈ wsL_law := zr_31 _ (List.mem_of_getElem? (i := 21) rfl)
theorem zw_742 : Cond.selects RX7 yX7_greatest yX7_greatest ∈ wsL_law := zr_31 _ (List.mem_of_getElem? (i := 22) rfl)
theorem zw_743 : Cond.code yX7_greatest cX7_greatest 4 (some .int) ∈ wsL_law := zr_31 _ (List.mem_of_getElem? (i := 23) rfl)
theorem zw_744 : Cond.methodLink RX7 44 yX7_at ∈ wsL_law := zr_32 _ (List.mem_of_getElem? (i := 0) rfl)
theorem zw_745 : Cond.methodLink RX1 78 yX1_countedOf ∈ wsL_law := zr_32 _ (List.mem_of_getElem? (i := 1) rfl)
theorem zw_746 : Cond.methodLink RL 87 yX11_turns ∈ wsL_law := zr_32 _ (List.mem_of_getElem? (i := 2) rfl)
theorem zw_747 : Cond.instanceMethod yX11_turns ∈ wsL_law := zr_32 _ (List.mem_of_getElem? (i := 3) rfl)
theorem zw_748 : Cond.selects RX11 yX11_turns yX11_turns ∈ wsL_law := zr_32 _ (List.mem_of_getElem? (i := 4) rfl)
theorem zw_749 : Cond.code yX11_turns cX11_turns 4 (some .int) ∈ wsL_law := zr_32 _ (List.mem_of_getElem? (i := 5) rfl)
theorem zw_750 : Cond.constantLong RX11 241 (60) ∈ wsL_law := zr_32 _ (List.mem_of_getElem? (i := 6) rfl)
theorem zw_751 : Cond.methodLink RL 88 yX10_paid ∈ wsL_law := zr_32 _ (List.mem_of_getElem? (i := 7) rfl)
theorem zw_752 : Cond.instanceMethod yX10_paid ∈ wsL_law := zr_32 _ (List.mem_of_getElem? (i := 8) rfl)
theorem zw_753 : Cond.selects RX10 yX10_paid yX10_paid ∈ wsL_law := zr_32 _ (List.mem_of_getElem? (i := 9) rfl)
theorem zw_754 : Cond.code yX10_paid cX10_paid 4 (some .int) ∈ wsL_law := zr_32 _ (List.mem_of_getElem? (i := 10) rfl)
theorem zw_755 : Cond.fieldLink RX10 183 "SpokenClock$State" "dues" "LSpokenClock$Rows;" ∈ wsL_law := zr_32 _ (List.mem_of_getElem? (i := 11) rfl)
theorem zw_756 : Cond.methodLink RX10 186 yX10_refuseWorth ∈ wsL_law := zr_32 _ (List.mem_of_getElem? (i := 12) rfl)
theorem zw_757 : Cond.instanceMethod yX10_refuseWorth ∈ wsL_law := zr_32 _ (List.mem_of_getElem? (i := 13) rfl)
theorem zw_758 : Cond.selects RX10 yX10_refuseWorth yX10_refuseWorth ∈ wsL_law := zr_32 _ (List.mem_of_getElem? (i := 14) rfl)
theorem zw_759 : Cond.code yX10_refuseWorth cX10_refuseWorth 1 (some .int) ∈ wsL_law := zr_32 _ (List.mem_of_getElem? (i := 15) rfl)
theorem zw_760 : Cond.methodLink RX10 189 yX10_isPaid ∈ wsL_law := zr_32 _ (List.mem_of_getElem? (i := 16) rfl)
theorem zw_761 : Cond.instanceMethod yX10_isPaid ∈ wsL_law := zr_32 _ (List.mem_of_getElem? (i := 17) rfl)
theorem zw_762 : Cond.selects RX10 yX10_isPaid yX10_isPaid ∈ wsL_law := zr_32 _ (List.mem_of_getElem? (i := 18) rfl)
theorem zw_763 : Cond.code yX10_isPaid cX10_isPaid 2 (some .boolean) ∈ wsL_law := zr_32 _ (List.mem_of_getElem? (i := 19) rfl)
theorem zw_764 : Cond.methodLink RX10 192 yX7_at ∈ wsL_law := zr_32 _ (List.mem_of_getElem? (i := 20) rfl)
theorem zw_765 : Cond.methodLink RL 91 yX11_paid ∈ wsL_law := zr_32 _ (List.mem_of_getElem? (i := 21) rfl)
theorem zw_766 : Cond.instanceMethod yX11_paid ∈ wsL_law := zr_32 _ (List.mem_of_getElem? (i := 22) rfl)
theorem zw_767 : Cond.selects RX11 yX11_paid yX11_paid ∈ wsL_law := zr_32 _ (List.mem_of_getElem? (i := 23) rfl)
theorem zw_768 : Cond.code yX11_paid cX11_paid 5 (some .int) ∈ wsL_law := zr_33 _ (List.mem_of_getElem? (i := 0) rfl)
theorem zw_769 : Cond.methodLink RX11 243 yX11_worse ∈ wsL_law := zr_33 _ (List.mem_of_getElem? (i := 1) rfl)
theorem zw_770 : Cond.instanceMethod yX11_worse ∈ wsL_law := zr_33 _ (List.mem_of_getElem? (i := 2) rfl)
theorem zw_771 : Cond.selects RX11 yX11_worse yX11_worse ∈ wsL_law := zr_33 _ (List.mem_of_getElem? (i := 3) rfl)
theorem zw_772 : Cond.code yX11_worse cX11_worse 1 (some .int) ∈ wsL_law := zr_33 _ (List.mem_of_getElem? (i := 4) rfl)
theorem zw_773 : Cond.methodLink RL 92 yX10_best ∈ wsL_law := zr_33 _ (List.mem_of_getElem? (i := 5) rfl)
theorem zw_774 : Cond.instanceMethod yX10_best ∈ wsL_law := zr_33 _ (List.mem_of_getElem? (i := 6) rfl)
theorem zw_775 : Cond.selects RX10 yX10_best yX10_best ∈ wsL_law := zr_33 _ (List.mem_of_getElem? (i := 7) rfl)
theorem zw_776 : Cond.code yX10_best cX10_best 2 (some .int) ∈ wsL_law := zr_33 _ (List.mem_of_getElem? (i := 8) rfl)
theorem zw_777 : Cond.methodLink RX10 195 yX10_isPrice ∈ wsL_law := zr_33 _ (List.mem_of_getElem? (i := 9) rfl)
theorem zw_778 : Cond.static yX10_isPrice ∈ wsL_law := zr_33 _ (List.mem_of_getElem? (i := 10) rfl)
theorem zw_779 : Cond.code yX10_isPrice cX10_isPrice 1 (some .boolean) ∈ wsL_law := zr_33 _ (List.mem_of_getElem? (i := 11) rfl)
theorem zw_780 : Cond.methodLink RX10 198 yX4_mostFrom ∈ wsL_law := zr_33 _ (List.mem_of_getElem? (i := 12) rfl)
theorem zw_781 : Cond.instanceMethod yX4_mostFrom ∈ wsL_law := zr_33 _ (List.mem_of_getElem? (i := 13) rfl)
theorem zw_782 : Cond.selects RX4 yX4_mostFrom yX4_mostFrom ∈ wsL_law := zr_33 _ (List.mem_of_getElem? (i := 14) rfl)
theorem zw_783 : Cond.code yX4_mostFrom cX4_mostFrom 3 (some .int) ∈ wsL_law := zr_33 _ (List.mem_of_getElem? (i := 15) rfl)
theorem zw_784 : Cond.methodLink RX4 27 yX4_refresh ∈ wsL_law := zr_33 _ (List.mem_of_getElem? (i := 16) rfl)
theorem zw_785 : Cond.instanceMethod yX4_refresh ∈ wsL_law := zr_33 _ (List.mem_of_getElem? (i := 17) rfl)
theorem zw_786 : Cond.selects RX4 yX4_refresh yX4_refresh ∈ wsL_law := zr_33 _ (List.mem_of_getElem? (i := 18) rfl)
theorem zw_787 : Cond.code yX4_refresh cX4_refresh 5 none ∈ wsL_law := zr_33 _ (List.mem_of_getElem? (i := 19) rfl)
theorem zw_788 : Cond.fieldLink RX4 44 "SpokenClock$Plan" "price" "I" ∈ wsL_law := zr_33 _ (List.mem_of_getElem? (i := 20) rfl)
theorem zw_789 : Cond.fieldLink RX4 57 "SpokenClock$State" "dues" "LSpokenClock$Rows;" ∈ wsL_law := zr_33 _ (List.mem_of_getElem? (i := 21) rfl)
theorem zw_790 : Cond.methodLink RX4 39 Lib.Math.min.name ∈ wsL_law := zr_33 _ (List.mem_of_getElem? (i := 22) rfl)
theorem zw_791 : Cond.methodLink RX4 48 yJ7_fill_53178 ∈ wsL_law := zr_33 _ (List.mem_of_getElem? (i := 23) rfl)
theorem zw_792 : Cond.methodLink RX4 54 yJ7_fill_d0a16 ∈ wsL_law := zr_34 _ (List.mem_of_getElem? (i := 0) rfl)
theorem zw_793 : Cond.static yJ7_fill_d0a16 ∈ wsL_law := zr_34 _ (List.mem_of_getElem? (i := 1) rfl)
theorem zw_794 : Cond.code yJ7_fill_d0a16 cJ7_fill_d0a16 5 none ∈ wsL_law := zr_34 _ (List.mem_of_getElem? (i := 2) rfl)
theorem zw_795 : Cond.methodLink RX4 63 yX7_greatest ∈ wsL_law := zr_34 _ (List.mem_of_getElem? (i := 3) rfl)
theorem zw_796 : Cond.methodLink RX4 69 yX4_payDues ∈ wsL_law := zr_34 _ (List.mem_of_getElem? (i := 4) rfl)
theorem zw_797 : Cond.instanceMethod yX4_payDues ∈ wsL_law := zr_34 _ (List.mem_of_getElem? (i := 5) rfl)
theorem zw_798 : Cond.selects RX4 yX4_payDues yX4_payDues ∈ wsL_law := zr_34 _ (List.mem_of_getElem? (i := 6) rfl)
theorem zw_799 : Cond.code yX4_payDues cX4_payDues 5 none ∈ wsL_law := zr_34 _ (List.mem_of_getElem? (i := 7) rfl)
theorem zw_800 : Cond.methodLink RX4 83 Lib.Math.max.name ∈ wsL_law := zr_34 _ (List.mem_of_getElem? (i := 8) rfl)
theorem zw_801 : Cond.methodLink RX4 76 yX7_size ∈ wsL_law := zr_34 _ (List.mem_of_getElem? (i := 9) rfl)
theorem zw_802 : Cond.methodLink RX4 80 yX7_at ∈ wsL_law := zr_34 _ (List.mem_of_getElem? (i := 10) rfl)
theorem zw_803 : Cond.methodLink RX4 72 yX4_chooseSteps ∈ wsL_law := zr_34 _ (List.mem_of_getElem? (i := 11) rfl)
theorem zw_804 : Cond.instanceMethod yX4_chooseSteps ∈ wsL_law := zr_34 _ (List.mem_of_getElem? (i := 12) rfl)
theorem zw_805 : Cond.selects RX4 yX4_chooseSteps yX4_chooseSteps ∈ wsL_law := zr_34 _ (List.mem_of_getElem? (i := 13) rfl)
theorem zw_806 : Cond.code yX4_chooseSteps cX4_chooseSteps 10 none ∈ wsL_law := zr_34 _ (List.mem_of_getElem? (i := 14) rfl)
theorem zw_807 : Cond.fieldLink RX4 86 "SpokenClock$State" "settings" "[I" ∈ wsL_law := zr_34 _ (List.mem_of_getElem? (i := 15) rfl)
theorem zw_808 : Cond.methodLink RX4 89 yX4_keepStep ∈ wsL_law := zr_34 _ (List.mem_of_getElem? (i := 16) rfl)
theorem zw_809 : Cond.instanceMethod yX4_keepStep ∈ wsL_law := zr_34 _ (List.mem_of_getElem? (i := 17) rfl)
theorem zw_810 : Cond.selects RX4 yX4_keepStep yX4_keepStep ∈ wsL_law := zr_34 _ (List.mem_of_getElem? (i := 18) rfl)
theorem zw_811 : Cond.code yX4_keepStep cX4_keepStep 5 none ∈ wsL_law := zr_34 _ (List.mem_of_getElem? (i := 19) rfl)
theorem zw_812 : Cond.methodLink RL 95 yX11_best ∈ wsL_law := zr_34 _ (List.mem_of_getElem? (i := 20) rfl)
theorem zw_813 : Cond.instanceMethod yX11_best ∈ wsL_law := zr_34 _ (List.mem_of_getElem? (i := 21) rfl)
theorem zw_814 : Cond.selects RX11 yX11_best yX11_best ∈ wsL_law := zr_34 _ (List.mem_of_getElem? (i := 22) rfl)
theorem zw_815 : Cond.code yX11_best cX11_best 2 (some .int) ∈ wsL_law := zr_34 _ (List.mem_of_getElem? (i := 23) rfl)
theorem zw_816 : Cond.constantLong RX11 246 (9) ∈ wsL_law := zr_35 _ (List.mem_of_getElem? (i := 0) rfl)
theorem zw_817 : Cond.methodLink RX11 248 yX11_plans ∈ wsL_law := zr_35 _ (List.mem_of_getElem? (i := 1) rfl)
theorem zw_818 : Cond.instanceMethod yX11_plans ∈ wsL_law := zr_35 _ (List.mem_of_getElem? (i := 2) rfl)
theorem zw_819 : Cond.selects RX11 yX11_plans yX11_plans ∈ wsL_law := zr_35 _ (List.mem_of_getElem? (i := 3) rfl)
theorem zw_820 : Cond.code yX11_plans cX11_plans 7 none ∈ wsL_law := zr_35 _ (List.mem_of_getElem? (i := 4) rfl)
theorem zw_821 : Cond.methodLink RL 96 yX10_step ∈ wsL_law := zr_35 _ (List.mem_of_getElem? (i := 5) rfl)
theorem zw_822 : Cond.instanceMethod yX10_step ∈ wsL_law := zr_35 _ (List.mem_of_getElem? (i := 6) rfl)
theorem zw_823 : Cond.selects RX10 yX10_step yX10_step ∈ wsL_law := zr_35 _ (List.mem_of_getElem? (i := 7) rfl)
theorem zw_824 : Cond.code yX10_step cX10_step 3 (some .int) ∈ wsL_law := zr_35 _ (List.mem_of_getElem? (i := 8) rfl)
theorem zw_825 : Cond.methodLink RX10 201 yX4_stepIn ∈ wsL_law := zr_35 _ (List.mem_of_getElem? (i := 9) rfl)
theorem zw_826 : Cond.instanceMethod yX4_stepIn ∈ wsL_law := zr_35 _ (List.mem_of_getElem? (i := 10) rfl)
theorem zw_827 : Cond.selects RX4 yX4_stepIn yX4_stepIn ∈ wsL_law := zr_35 _ (List.mem_of_getElem? (i := 11) rfl)
theorem zw_828 : Cond.code yX4_stepIn cX4_stepIn 5 (some .int) ∈ wsL_law := zr_35 _ (List.mem_of_getElem? (i := 12) rfl)
theorem zw_829 : Cond.methodLink RX4 35 yX4_stepAt ∈ wsL_law := zr_35 _ (List.mem_of_getElem? (i := 13) rfl)
theorem zw_830 : Cond.instanceMethod yX4_stepAt ∈ wsL_law := zr_35 _ (List.mem_of_getElem? (i := 14) rfl)
theorem zw_831 : Cond.selects RX4 yX4_stepAt yX4_stepAt ∈ wsL_law := zr_35 _ (List.mem_of_getElem? (i := 15) rfl)
theorem zw_832 : Cond.code yX4_stepAt cX4_stepAt 4 (some .int) ∈ wsL_law := zr_35 _ (List.mem_of_getElem? (i := 16) rfl)
theorem zw_833 : Cond.methodLink RL 99 yX11_step ∈ wsL_law := zr_35 _ (List.mem_of_getElem? (i := 17) rfl)
theorem zw_834 : Cond.instanceMethod yX11_step ∈ wsL_law := zr_35 _ (List.mem_of_getElem? (i := 18) rfl)
theorem zw_835 : Cond.selects RX11 yX11_step yX11_step ∈ wsL_law := zr_35 _ (List.mem_of_getElem? (i := 19) rfl)
theorem zw_836 : Cond.code yX11_step cX11_step 9 (some .int) ∈ wsL_law := zr_35 _ (List.mem_of_getElem? (i := 20) rfl)
theorem zw_837 : Cond.constantLong RX11 251 (98) ∈ wsL_law := zr_35 _ (List.mem_of_getElem? (i := 21) rfl)
theorem zw_838 : Cond.methodLink RL 100 yX10_minute ∈ wsL_law := zr_35 _ (List.mem_of_getElem? (i := 22) rfl)
theorem zw_839 : Cond.instanceMethod yX10_minute ∈ wsL_law := zr_35 _ (List.mem_of_getElem? (i := 23) rfl)
theorem zw_840 : Cond.selects RX10 yX10_minute yX10_minute ∈ wsL_law := zr_36 _ (List.mem_of_getElem? (i := 0) rfl)
theorem zw_841 : Cond.code yX10_minute cX10_minute 2 (some .int) ∈ wsL_law := zr_36 _ (List.mem_of_getElem? (i := 1) rfl)
theorem zw_842 : Cond.methodLink RL 103 yX11_minute ∈ wsL_law := zr_36 _ (List.mem_of_getElem? (i := 2) rfl)
theorem zw_843 : Cond.instanceMethod yX11_minute ∈ wsL_law := zr_36 _ (List.mem_of_getElem? (i := 3) rfl)
theorem zw_844 : Cond.selects RX11 yX11_minute yX11_minute ∈ wsL_law := zr_36 _ (List.mem_of_getElem? (i := 4) rfl)
theorem zw_845 : Cond.code yX11_minute cX11_minute 2 (some .int) ∈ wsL_law := zr_36 _ (List.mem_of_getElem? (i := 5) rfl)
theorem zw_846 : Cond.methodLink RL 104 yX10_stake ∈ wsL_law := zr_36 _ (List.mem_of_getElem? (i := 6) rfl)
theorem zw_847 : Cond.instanceMethod yX10_stake ∈ wsL_law := zr_36 _ (List.mem_of_getElem? (i := 7) rfl)
theorem zw_848 : Cond.selects RX10 yX10_stake yX10_stake ∈ wsL_law := zr_36 _ (List.mem_of_getElem? (i := 8) rfl)
theorem zw_849 : Cond.code yX10_stake cX10_stake 6 (some .int) ∈ wsL_law := zr_36 _ (List.mem_of_getElem? (i := 9) rfl)
theorem zw_850 : Cond.fieldLink RX10 204 "SpokenClock$State" "stake" "[I" ∈ wsL_law := zr_36 _ (List.mem_of_getElem? (i := 10) rfl)
theorem zw_851 : Cond.methodLink RL 108 yX11_stake ∈ wsL_law := zr_36 _ (List.mem_of_getElem? (i := 11) rfl)
theorem zw_852 : Cond.instanceMethod yX11_stake ∈ wsL_law := zr_36 _ (List.mem_of_getElem? (i := 12) rfl)
theorem zw_853 : Cond.selects RX11 yX11_stake yX11_stake ∈ wsL_law := zr_36 _ (List.mem_of_getElem? (i := 13) rfl)
theorem zw_854 : Cond.code yX11_stake cX11_stake 6 (some .int) ∈ wsL_law := zr_36 _ (List.mem_of_getElem? (i := 14) rfl)
theorem zw_855 : Cond.constantLong RX11 253 (20) ∈ wsL_law := zr_36 _ (List.mem_of_getElem? (i := 15) rfl)
theorem zw_856 : Cond.methodLink RL 109 yX10_silence ∈ wsL_law := zr_36 _ (List.mem_of_getElem? (i := 16) rfl)
theorem zw_857 : Cond.instanceMethod yX10_silence ∈ wsL_law := zr_36 _ (List.mem_of_getElem? (i := 17) rfl)
theorem zw_858 : Cond.selects RX10 yX10_silence yX10_silence ∈ wsL_law := zr_36 _ (List.mem_of_getElem? (i := 18) rfl)
theorem zw_859 : Cond.code yX10_silence cX10_silence 4 (some .int) ∈ wsL_law := zr_36 _ (List.mem_of_getElem? (i := 19) rfl)
theorem zw_860 : Cond.methodLink RX10 207 yX5_play ∈ wsL_law := zr_36 _ (List.mem_of_getElem? (i := 20) rfl)
theorem zw_861 : Cond.instanceMethod yX5_play ∈ wsL_law := zr_36 _ (List.mem_of_getElem? (i := 21) rfl)
theorem zw_862 : Cond.selects RX5 yX5_play yX5_play ∈ wsL_law := zr_36 _ (List.mem_of_getElem? (i := 22) rfl)
theorem zw_863 : Cond.code yX5_play cX5_play 5 none ∈ wsL_law := zr_36 _ (List.mem_of_getElem? (i := 23) rfl)
theorem zw_864 : Cond.fieldLink RX5 35 "SpokenClock$Quarrel" "firstTalk" "I" ∈ wsL_law := zr_37 _ (List.mem_of_getElem? (i := 0) rfl)
theorem zw_865 : Cond.fieldLink RX5 39 "SpokenClock$Quarrel" "gone" "I" ∈ wsL_law := zr_37 _ (List.mem_of_getElem? (i := 1) rfl)
theorem zw_866 : Cond.methodLink RX5 25 yJ7_fill_53178 ∈ wsL_law := zr_37 _ (List.mem_of_getElem? (i := 2) rfl)
theorem zw_867 : Cond.methodLink RX5 31 yX5_weigh ∈ wsL_law := zr_37 _ (List.mem_of_getElem? (i := 3) rfl)
theorem zw_868 : Cond.instanceMethod yX5_weigh ∈ wsL_law := zr_37 _ (List.mem_of_getElem? (i := 4) rfl)
theorem zw_869 : Cond.selects RX5 yX5_weigh yX5_weigh ∈ wsL_law := zr_37 _ (List.mem_of_getElem? (i := 5) rfl)
theorem zw_870 : Cond.code yX5_weigh cX5_weigh 11 none ∈ wsL_law := zr_37 _ (List.mem_of_getElem? (i := 6) rfl)
theorem zw_871 : Cond.methodLink RX10 211 yX5_end ∈ wsL_law := zr_37 _ (List.mem_of_getElem? (i := 7) rfl)
theorem zw_872 : Cond.instanceMethod yX5_end ∈ wsL_law := zr_37 _ (List.mem_of_getElem? (i := 8) rfl)
theorem zw_873 : Cond.selects RX5 yX5_end yX5_end ∈ wsL_law := zr_37 _ (List.mem_of_getElem? (i := 9) rfl)
theorem zw_874 : Cond.code yX5_end cX5_end 2 (some .int) ∈ wsL_law := zr_37 _ (List.mem_of_getElem? (i := 10) rfl)
theorem zw_875 : Cond.methodLink RL 112 yX11_silence ∈ wsL_law := zr_37 _ (List.mem_of_getElem? (i := 11) rfl)
theorem zw_876 : Cond.instanceMethod yX11_silence ∈ wsL_law := zr_37 _ (List.mem_of_getElem? (i := 12) rfl)
theorem zw_877 : Cond.selects RX11 yX11_silence yX11_silence ∈ wsL_law := zr_37 _ (List.mem_of_getElem? (i := 13) rfl)
theorem zw_878 : Cond.code yX11_silence cX11_silence 12 (some .int) ∈ wsL_law := zr_37 _ (List.mem_of_getElem? (i := 14) rfl)
theorem zw_879 : Cond.constantLong RX11 255 (40) ∈ wsL_law := zr_37 _ (List.mem_of_getElem? (i := 15) rfl)
theorem zw_880 : Cond.constantLong RX11 257 (3) ∈ wsL_law := zr_37 _ (List.mem_of_getElem? (i := 16) rfl)
theorem zw_881 : Cond.methodLink RL 113 yX10_night ∈ wsL_law := zr_37 _ (List.mem_of_getElem? (i := 17) rfl)
theorem zw_882 : Cond.instanceMethod yX10_night ∈ wsL_law := zr_37 _ (List.mem_of_getElem? (i := 18) rfl)
theorem zw_883 : Cond.selects RX10 yX10_night yX10_night ∈ wsL_law := zr_37 _ (List.mem_of_getElem? (i := 19) rfl)
theorem zw_884 : Cond.code yX10_night cX10_night 4 (some .int) ∈ wsL_law := zr_37 _ (List.mem_of_getElem? (i := 20) rfl)
theorem zw_885 : Cond.methodLink RX10 214 yX2_toChance ∈ wsL_law := zr_37 _ (List.mem_of_getElem? (i := 21) rfl)
theorem zw_886 : Cond.instanceMethod yX2_toChance ∈ wsL_law := zr_37 _ (List.mem_of_getElem? (i := 22) rfl)
theorem zw_887 : Cond.selects RX2 yX2_toChance yX2_toChance ∈ wsL_law := zr_37 _ (List.mem_of_getElem? (i := 23) rfl)
theorem zw_888 : Cond.code yX2_toChance cX2_toChance 6 none ∈ wsL_law := zr_38 _ (List.mem_of_getElem? (i := 0) rfl)
theorem zw_889 : Cond.methodLink RX2 41 yX0_become ∈ wsL_law := zr_38 _ (List.mem_of_getElem? (i := 1) rfl)
theorem zw_890 : Cond.instanceMethod yX0_become ∈ wsL_law := zr_38 _ (List.mem_of_getElem? (i := 2) rfl)
theorem zw_891 : Cond.selects RX0 yX0_become yX0_become ∈ wsL_law := zr_38 _ (List.mem_of_getElem? (i := 3) rfl)
theorem zw_892 : Cond.code yX0_become cX0_become 2 none ∈ wsL_law := zr_38 _ (List.mem_of_getElem? (i := 4) rfl)
theorem zw_893 : Cond.methodLink RX0 15 yJ7_fill_53178 ∈ wsL_law := zr_38 _ (List.mem_of_getElem? (i := 5) rfl)
theorem zw_894 : Cond.methodLink RX2 44 yX0_times ∈ wsL_law := zr_38 _ (List.mem_of_getElem? (i := 6) rfl)
theorem zw_895 : Cond.instanceMethod yX0_times ∈ wsL_law := zr_38 _ (List.mem_of_getElem? (i := 7) rfl)
theorem zw_896 : Cond.selects RX0 yX0_times yX0_times ∈ wsL_law := zr_38 _ (List.mem_of_getElem? (i := 8) rfl)
theorem zw_897 : Cond.code yX0_times cX0_times 5 none ∈ wsL_law := zr_38 _ (List.mem_of_getElem? (i := 9) rfl)
theorem zw_898 : Cond.constantLong RX0 25 (1073741823) ∈ wsL_law := zr_38 _ (List.mem_of_getElem? (i := 10) rfl)
theorem zw_899 : Cond.methodLink RX2 47 yX0_plus ∈ wsL_law := zr_38 _ (List.mem_of_getElem? (i := 11) rfl)
theorem zw_900 : Cond.instanceMethod yX0_plus ∈ wsL_law := zr_38 _ (List.mem_of_getElem? (i := 12) rfl)
theorem zw_901 : Cond.selects RX0 yX0_plus yX0_plus ∈ wsL_law := zr_38 _ (List.mem_of_getElem? (i := 13) rfl)
theorem zw_902 : Cond.code yX0_plus cX0_plus 5 none ∈ wsL_law := zr_38 _ (List.mem_of_getElem? (i := 14) rfl)
theorem zw_903 : Cond.methodLink RX2 51 yX0_divide ∈ wsL_law := zr_38 _ (List.mem_of_getElem? (i := 15) rfl)
theorem zw_904 : Cond.instanceMethod yX0_divide ∈ wsL_law := zr_38 _ (List.mem_of_getElem? (i := 16) rfl)
theorem zw_905 : Cond.selects RX0 yX0_divide yX0_divide ∈ wsL_law := zr_38 _ (List.mem_of_getElem? (i := 17) rfl)
theorem zw_906 : Cond.code yX0_divide cX0_divide 7 none ∈ wsL_law := zr_38 _ (List.mem_of_getElem? (i := 18) rfl)
theorem zw_907 : Cond.methodLink RX2 54 yX2_reduce ∈ wsL_law := zr_38 _ (List.mem_of_getElem? (i := 19) rfl)
theorem zw_908 : Cond.instanceMethod yX2_reduce ∈ wsL_law := zr_38 _ (List.mem_of_getElem? (i := 20) rfl)
theorem zw_909 : Cond.selects RX2 yX2_reduce yX2_reduce ∈ wsL_law := zr_38 _ (List.mem_of_getElem? (i := 21) rfl)
theorem zw_910 : Cond.code yX2_reduce cX2_reduce 4 none ∈ wsL_law := zr_38 _ (List.mem_of_getElem? (i := 22) rfl)
theorem zw_911 : Cond.methodLink RX2 58 yX0_isDivided ∈ wsL_law := zr_38 _ (List.mem_of_getElem? (i := 23) rfl)
theorem zw_912 : Cond.instanceMethod yX0_isDivided ∈ wsL_law := zr_39 _ (List.mem_of_getElem? (i := 0) rfl)
theorem zw_913 : Cond.selects RX0 yX0_isDivided yX0_isDivided ∈ wsL_law := zr_39 _ (List.mem_of_getElem? (i := 1) rfl)
theorem zw_914 : Cond.code yX0_isDivided cX0_isDivided 5 (some .boolean) ∈ wsL_law := zr_39 _ (List.mem_of_getElem? (i := 2) rfl)
theorem zw_915 : Cond.methodLink RL 116 yX11_night ∈ wsL_law := zr_39 _ (List.mem_of_getElem? (i := 3) rfl)
theorem zw_916 : Cond.instanceMethod yX11_night ∈ wsL_law := zr_39 _ (List.mem_of_getElem? (i := 4) rfl)
theorem zw_917 : Cond.selects RX11 yX11_night yX11_night ∈ wsL_law := zr_39 _ (List.mem_of_getElem? (i := 5) rfl)
theorem zw_918 : Cond.code yX11_night cX11_night 6 (some .int) ∈ wsL_law := zr_39 _ (List.mem_of_getElem? (i := 6) rfl)
theorem zw_919 : Cond.constantLong RX11 268 (6) ∈ wsL_law := zr_39 _ (List.mem_of_getElem? (i := 7) rfl)
theorem zw_920 : Cond.fieldLink RX11 278 "SpokenClockModel" "manyAbove" "I" ∈ wsL_law := zr_39 _ (List.mem_of_getElem? (i := 8) rfl)
theorem zw_921 : Cond.fieldLink RX11 281 "SpokenClockModel" "sign" "I" ∈ wsL_law := zr_39 _ (List.mem_of_getElem? (i := 9) rfl)
theorem zw_922 : Cond.methodLink RX11 261 yX11_mixes ∈ wsL_law := zr_39 _ (List.mem_of_getElem? (i := 10) rfl)
theorem zw_923 : Cond.instanceMethod yX11_mixes ∈ wsL_law := zr_39 _ (List.mem_of_getElem? (i := 11) rfl)
theorem zw_924 : Cond.selects RX11 yX11_mixes yX11_mixes ∈ wsL_law := zr_39 _ (List.mem_of_getElem? (i := 12) rfl)
theorem zw_925 : Cond.code yX11_mixes cX11_mixes 10 none ∈ wsL_law := zr_39 _ (List.mem_of_getElem? (i := 13) rfl)
theorem zw_926 : Cond.constantLong RX11 259 (1073741824) ∈ wsL_law := zr_39 _ (List.mem_of_getElem? (i := 14) rfl)
theorem zw_927 : Cond.methodLink RX11 265 yX11_limbs ∈ wsL_law := zr_39 _ (List.mem_of_getElem? (i := 15) rfl)
theorem zw_928 : Cond.instanceMethod yX11_limbs ∈ wsL_law := zr_39 _ (List.mem_of_getElem? (i := 16) rfl)
theorem zw_929 : Cond.selects RX11 yX11_limbs yX11_limbs ∈ wsL_law := zr_39 _ (List.mem_of_getElem? (i := 17) rfl)
theorem zw_930 : Cond.code yX11_limbs cX11_limbs 3 (some .int) ∈ wsL_law := zr_39 _ (List.mem_of_getElem? (i := 18) rfl)
theorem zw_931 : Cond.methodLink RX11 270 yX11_restOf ∈ wsL_law := zr_39 _ (List.mem_of_getElem? (i := 19) rfl)
theorem zw_932 : Cond.instanceMethod yX11_restOf ∈ wsL_law := zr_39 _ (List.mem_of_getElem? (i := 20) rfl)
theorem zw_933 : Cond.selects RX11 yX11_restOf yX11_restOf ∈ wsL_law := zr_39 _ (List.mem_of_getElem? (i := 21) rfl)
theorem zw_934 : Cond.code yX11_restOf cX11_restOf 7 (some .long) ∈ wsL_law := zr_39 _ (List.mem_of_getElem? (i := 22) rfl)
theorem zw_935 : Cond.methodLink RX11 274 yX11_shares ∈ wsL_law := zr_39 _ (List.mem_of_getElem? (i := 23) rfl)
theorem zw_936 : Cond.instanceMethod yX11_shares ∈ wsL_law := zr_40 _ (List.mem_of_getElem? (i := 0) rfl)
theorem zw_937 : Cond.selects RX11 yX11_shares yX11_shares ∈ wsL_law := zr_40 _ (List.mem_of_getElem? (i := 1) rfl)
theorem zw_938 : Cond.code yX11_shares cX11_shares 9 none ∈ wsL_law := zr_40 _ (List.mem_of_getElem? (i := 2) rfl)
theorem zw_939 : Cond.methodLink RL 117 yX10_who ∈ wsL_law := zr_40 _ (List.mem_of_getElem? (i := 3) rfl)
theorem zw_940 : Cond.instanceMethod yX10_who ∈ wsL_law := zr_40 _ (List.mem_of_getElem? (i := 4) rfl)
theorem zw_941 : Cond.selects RX10 yX10_who yX10_who ∈ wsL_law := zr_40 _ (List.mem_of_getElem? (i := 5) rfl)
theorem zw_942 : Cond.code yX10_who cX10_who 2 (some .int) ∈ wsL_law := zr_40 _ (List.mem_of_getElem? (i := 6) rfl)
theorem zw_943 : Cond.methodLink RX10 218 yX3_refresh ∈ wsL_law := zr_40 _ (List.mem_of_getElem? (i := 7) rfl)
theorem zw_944 : Cond.instanceMethod yX3_refresh ∈ wsL_law := zr_40 _ (List.mem_of_getElem? (i := 8) rfl)
theorem zw_945 : Cond.selects RX3 yX3_refresh yX3_refresh ∈ wsL_law := zr_40 _ (List.mem_of_getElem? (i := 9) rfl)
theorem zw_946 : Cond.code yX3_refresh cX3_refresh 4 none ∈ wsL_law := zr_40 _ (List.mem_of_getElem? (i := 10) rfl)
theorem zw_947 : Cond.fieldLink RX3 27 "SpokenClock$Guess" "sets" "I" ∈ wsL_law := zr_40 _ (List.mem_of_getElem? (i := 11) rfl)
theorem zw_948 : Cond.fieldLink RX3 31 "SpokenClock$Guess" "least" "I" ∈ wsL_law := zr_40 _ (List.mem_of_getElem? (i := 12) rfl)
theorem zw_949 : Cond.fieldLink RX3 34 "SpokenClock$Guess" "surely" "I" ∈ wsL_law := zr_40 _ (List.mem_of_getElem? (i := 13) rfl)
theorem zw_950 : Cond.fieldLink RX3 41 "SpokenClock$State" "sights" "LSpokenClock$Rows;" ∈ wsL_law := zr_40 _ (List.mem_of_getElem? (i := 14) rfl)
theorem zw_951 : Cond.methodLink RX3 37 yX3_noteSights ∈ wsL_law := zr_40 _ (List.mem_of_getElem? (i := 15) rfl)
theorem zw_952 : Cond.instanceMethod yX3_noteSights ∈ wsL_law := zr_40 _ (List.mem_of_getElem? (i := 16) rfl)
theorem zw_953 : Cond.selects RX3 yX3_noteSights yX3_noteSights ∈ wsL_law := zr_40 _ (List.mem_of_getElem? (i := 17) rfl)
theorem zw_954 : Cond.code yX3_noteSights cX3_noteSights 4 (some .boolean) ∈ wsL_law := zr_40 _ (List.mem_of_getElem? (i := 18) rfl)
theorem zw_955 : Cond.methodLink RX3 61 yJ7_fill_53178 ∈ wsL_law := zr_40 _ (List.mem_of_getElem? (i := 19) rfl)
theorem zw_956 : Cond.methodLink RX3 67 yX7_size ∈ wsL_law := zr_40 _ (List.mem_of_getElem? (i := 20) rfl)
theorem zw_957 : Cond.methodLink RX3 70 yX7_at ∈ wsL_law := zr_40 _ (List.mem_of_getElem? (i := 21) rfl)
theorem zw_958 : Cond.methodLink RX3 47 yX7_greatest ∈ wsL_law := zr_40 _ (List.mem_of_getElem? (i := 22) rfl)
theorem zw_959 : Cond.methodLink RX3 53 yX3_peopleThere ∈ wsL_law := zr_40 _ (List.mem_of_getElem? (i := 23) rfl)
theorem zw_960 : Cond.instanceMethod yX3_peopleThere ∈ wsL_law := zr_41 _ (List.mem_of_getElem? (i := 0) rfl)
theorem zw_961 : Cond.selects RX3 yX3_peopleThere yX3_peopleThere ∈ wsL_law := zr_41 _ (List.mem_of_getElem? (i := 1) rfl)
theorem zw_962 : Cond.code yX3_peopleThere cX3_peopleThere 3 (some .int) ∈ wsL_law := zr_41 _ (List.mem_of_getElem? (i := 2) rfl)
theorem zw_963 : Cond.fieldLink RX3 78 "SpokenClock$State" "people" "LSpokenClock$Rows;" ∈ wsL_law := zr_41 _ (List.mem_of_getElem? (i := 3) rfl)
theorem zw_964 : Cond.methodLink RX3 57 yX3_fits ∈ wsL_law := zr_41 _ (List.mem_of_getElem? (i := 4) rfl)
theorem zw_965 : Cond.instanceMethod yX3_fits ∈ wsL_law := zr_41 _ (List.mem_of_getElem? (i := 5) rfl)
theorem zw_966 : Cond.selects RX3 yX3_fits yX3_fits ∈ wsL_law := zr_41 _ (List.mem_of_getElem? (i := 6) rfl)
theorem zw_967 : Cond.code yX3_fits cX3_fits 6 (some .boolean) ∈ wsL_law := zr_41 _ (List.mem_of_getElem? (i := 7) rfl)
theorem zw_968 : Cond.fieldLink RX3 87 "SpokenClock$State" "settings" "[I" ∈ wsL_law := zr_41 _ (List.mem_of_getElem? (i := 8) rfl)
theorem zw_969 : Cond.methodLink RX3 90 Lib.Math.min.name ∈ wsL_law := zr_41 _ (List.mem_of_getElem? (i := 9) rfl)
theorem zw_970 : Cond.methodLink RX3 81 yX1_together ∈ wsL_law := zr_41 _ (List.mem_of_getElem? (i := 10) rfl)
theorem zw_971 : Cond.methodLink RX10 219 yX3_told ∈ wsL_law := zr_41 _ (List.mem_of_getElem? (i := 11) rfl)
theorem zw_972 : Cond.instanceMethod yX3_told ∈ wsL_law := zr_41 _ (List.mem_of_getElem? (i := 12) rfl)
theorem zw_973 : Cond.selects RX3 yX3_told yX3_told ∈ wsL_law := zr_41 _ (List.mem_of_getElem? (i := 13) rfl)
theorem zw_974 : Cond.code yX3_told cX3_told 2 (some .int) ∈ wsL_law := zr_41 _ (List.mem_of_getElem? (i := 14) rfl)
theorem zw_975 : Cond.methodLink RL 120 yX11_who ∈ wsL_law := zr_41 _ (List.mem_of_getElem? (i := 15) rfl)
theorem zw_976 : Cond.instanceMethod yX11_who ∈ wsL_law := zr_41 _ (List.mem_of_getElem? (i := 16) rfl)
theorem zw_977 : Cond.selects RX11 yX11_who yX11_who ∈ wsL_law := zr_41 _ (List.mem_of_getElem? (i := 17) rfl)
theorem zw_978 : Cond.code yX11_who cX11_who 9 (some .int) ∈ wsL_law := zr_41 _ (List.mem_of_getElem? (i := 18) rfl)
theorem zw_979 : Cond.methodLink RL 121 yX10_sign ∈ wsL_law := zr_41 _ (List.mem_of_getElem? (i := 19) rfl)
theorem zw_980 : Cond.instanceMethod yX10_sign ∈ wsL_law := zr_41 _ (List.mem_of_getElem? (i := 20) rfl)
theorem zw_981 : Cond.selects RX10 yX10_sign yX10_sign ∈ wsL_law := zr_41 _ (List.mem_of_getElem? (i := 21) rfl)
theorem zw_982 : Cond.code yX10_sign cX10_sign 2 (some .int) ∈ wsL_law := zr_41 _ (List.mem_of_getElem? (i := 22) rfl)
theorem zw_983 : Cond.methodLink RX10 222 yX2_shape ∈ wsL_law := zr_41 _ (List.mem_of_getElem? (i := 23) rfl)
theorem zw_984 : Cond.instanceMethod yX2_shape ∈ wsL_law := zr_42 _ (List.mem_of_getElem? (i := 0) rfl)
theorem zw_985 : Cond.selects RX2 yX2_shape yX2_shape ∈ wsL_law := zr_42 _ (List.mem_of_getElem? (i := 1) rfl)
theorem zw_986 : Cond.code yX2_shape cX2_shape 2 (some .int) ∈ wsL_law := zr_42 _ (List.mem_of_getElem? (i := 2) rfl)
theorem zw_987 : Cond.methodLink RX2 24 yX0_size ∈ wsL_law := zr_42 _ (List.mem_of_getElem? (i := 3) rfl)
theorem zw_988 : Cond.instanceMethod yX0_size ∈ wsL_law := zr_42 _ (List.mem_of_getElem? (i := 4) rfl)
theorem zw_989 : Cond.selects RX0 yX0_size yX0_size ∈ wsL_law := zr_42 _ (List.mem_of_getElem? (i := 5) rfl)
theorem zw_990 : Cond.code yX0_size cX0_size 2 (some .int) ∈ wsL_law := zr_42 _ (List.mem_of_getElem? (i := 6) rfl)
theorem zw_991 : Cond.methodLink RL 124 yX11_sign ∈ wsL_law := zr_42 _ (List.mem_of_getElem? (i := 7) rfl)
theorem zw_992 : Cond.instanceMethod yX11_sign ∈ wsL_law := zr_42 _ (List.mem_of_getElem? (i := 8) rfl)
theorem zw_993 : Cond.selects RX11 yX11_sign yX11_sign ∈ wsL_law := zr_42 _ (List.mem_of_getElem? (i := 9) rfl)
theorem zw_994 : Cond.code yX11_sign cX11_sign 2 (some .int) ∈ wsL_law := zr_42 _ (List.mem_of_getElem? (i := 10) rfl)
theorem zw_995 : Cond.methodLink RL 125 yX10_limb ∈ wsL_law := zr_42 _ (List.mem_of_getElem? (i := 11) rfl)
theorem zw_996 : Cond.instanceMethod yX10_limb ∈ wsL_law := zr_42 _ (List.mem_of_getElem? (i := 12) rfl)
theorem zw_997 : Cond.selects RX10 yX10_limb yX10_limb ∈ wsL_law := zr_42 _ (List.mem_of_getElem? (i := 13) rfl)
theorem zw_998 : Cond.code yX10_limb cX10_limb 3 (some .int) ∈ wsL_law := zr_42 _ (List.mem_of_getElem? (i := 14) rfl)
theorem zw_999 : Cond.methodLink RX10 225 yX2_limbOf ∈ wsL_law := zr_42 _ (List.mem_of_getElem? (i := 15) rfl)
theorem zw_1000 : Cond.instanceMethod yX2_limbOf ∈ wsL_law := zr_42 _ (List.mem_of_getElem? (i := 16) rfl)
theorem zw_1001 : Cond.selects RX2 yX2_limbOf yX2_limbOf ∈ wsL_law := zr_42 _ (List.mem_of_getElem? (i := 17) rfl)
theorem zw_1002 : Cond.code yX2_limbOf cX2_limbOf 3 (some .int) ∈ wsL_law := zr_42 _ (List.mem_of_getElem? (i := 18) rfl)
theorem zw_1003 : Cond.methodLink RX2 28 yX0_limbAt ∈ wsL_law := zr_42 _ (List.mem_of_getElem? (i := 19) rfl)
theorem zw_1004 : Cond.instanceMethod yX0_limbAt ∈ wsL_law := zr_42 _ (List.mem_of_getElem? (i := 20) rfl)
theorem zw_1005 : Cond.selects RX0 yX0_limbAt yX0_limbAt ∈ wsL_law := zr_42 _ (List.mem_of_getElem? (i := 21) rfl)
theorem zw_1006 : Cond.code yX0_limbAt cX0_limbAt 2 (some .int) ∈ wsL_law := zr_42 _ (List.mem_of_getElem? (i := 22) rfl)
theorem zw_1007 : Cond.methodLink RX0 21 yX0_size ∈ wsL_law := zr_42 _ (List.mem_of_getElem? (i := 23) rfl)
theorem zw_1008 : Cond.methodLink RL 128 yX11_limb ∈ wsL_law := zr_43 _ (List.mem_of_getElem? (i := 0) rfl)
theorem zw_1009 : Cond.instanceMethod yX11_limb ∈ wsL_law := zr_43 _ (List.mem_of_getElem? (i := 1) rfl)
theorem zw_1010 : Cond.selects RX11 yX11_limb yX11_limb ∈ wsL_law := zr_43 _ (List.mem_of_getElem? (i := 2) rfl)
theorem zw_1011 : Cond.code yX11_limb cX11_limb 3 (some .int) ∈ wsL_law := zr_43 _ (List.mem_of_getElem? (i := 3) rfl)
theorem zw_1012 : Cond.methodLink RL 129 yX10_image ∈ wsL_law := zr_43 _ (List.mem_of_getElem? (i := 4) rfl)
theorem zw_1013 : Cond.instanceMethod yX10_image ∈ wsL_law := zr_43 _ (List.mem_of_getElem? (i := 5) rfl)
theorem zw_1014 : Cond.selects RX10 yX10_image yX10_image ∈ wsL_law := zr_43 _ (List.mem_of_getElem? (i := 6) rfl)
theorem zw_1015 : Cond.code yX10_image cX10_image 2 (some .int) ∈ wsL_law := zr_43 _ (List.mem_of_getElem? (i := 7) rfl)
theorem zw_1016 : Cond.methodLink RX10 228 yX10_imageOf ∈ wsL_law := zr_43 _ (List.mem_of_getElem? (i := 8) rfl)
theorem zw_1017 : Cond.instanceMethod yX10_imageOf ∈ wsL_law := zr_43 _ (List.mem_of_getElem? (i := 9) rfl)
theorem zw_1018 : Cond.selects RX10 yX10_imageOf yX10_imageOf ∈ wsL_law := zr_43 _ (List.mem_of_getElem? (i := 10) rfl)
theorem zw_1019 : Cond.code yX10_imageOf cX10_imageOf 2 (some (.object "SpokenClock$State")) ∈ wsL_law := zr_43 _ (List.mem_of_getElem? (i := 11) rfl)
theorem zw_1020 : Cond.methodLink RL 132 yX11_image ∈ wsL_law := zr_43 _ (List.mem_of_getElem? (i := 12) rfl)
theorem zw_1021 : Cond.instanceMethod yX11_image ∈ wsL_law := zr_43 _ (List.mem_of_getElem? (i := 13) rfl)
theorem zw_1022 : Cond.selects RX11 yX11_image yX11_image ∈ wsL_law := zr_43 _ (List.mem_of_getElem? (i := 14) rfl)
theorem zw_1023 : Cond.code yX11_image cX11_image 3 (some .int) ∈ wsL_law := zr_43 _ (List.mem_of_getElem? (i := 15) rfl)
theorem zw_1024 : Cond.methodLink RL 133 yX10_from ∈ wsL_law := zr_43 _ (List.mem_of_getElem? (i := 16) rfl)
theorem zw_1025 : Cond.instanceMethod yX10_from ∈ wsL_law := zr_43 _ (List.mem_of_getElem? (i := 17) rfl)
theorem zw_1026 : Cond.selects RX10 yX10_from yX10_from ∈ wsL_law := zr_43 _ (List.mem_of_getElem? (i := 18) rfl)
theorem zw_1027 : Cond.code yX10_from cX10_from 2 (some .int) ∈ wsL_law := zr_43 _ (List.mem_of_getElem? (i := 19) rfl)
theorem zw_1028 : Cond.methodLink RL 136 yX11_from ∈ wsL_law := zr_43 _ (List.mem_of_getElem? (i := 20) rfl)
theorem zw_1029 : Cond.instanceMethod yX11_from ∈ wsL_law := zr_43 _ (List.mem_of_getElem? (i := 21) rfl)
theorem zw_1030 : Cond.selects RX11 yX11_from yX11_from ∈ wsL_law := zr_43 _ (List.mem_of_getElem? (i := 22) rfl)
theorem zw_1031 : Cond.code yX11_from cX11_from 3 (some .int) ∈ wsL_law := zr_43 _ (List.mem_of_getElem? (i := 23) rfl)
theorem zw_1032 : Cond.methodLink RL 137 yX10_status ∈ wsL_law := zr_44 _ (List.mem_of_getElem? (i := 0) rfl)
theorem zw_1033 : Cond.instanceMethod yX10_status ∈ wsL_law := zr_44 _ (List.mem_of_getElem? (i := 1) rfl)
theorem zw_1034 : Cond.selects RX10 yX10_status yX10_status ∈ wsL_law := zr_44 _ (List.mem_of_getElem? (i := 2) rfl)
theorem zw_1035 : Cond.code yX10_status cX10_status 2 (some .int) ∈ wsL_law := zr_44 _ (List.mem_of_getElem? (i := 3) rfl)
theorem zw_1036 : Cond.methodLink RL 140 yX11_status ∈ wsL_law := zr_44 _ (List.mem_of_getElem? (i := 4) rfl)
theorem zw_1037 : Cond.instanceMethod yX11_status ∈ wsL_law := zr_44 _ (List.mem_of_getElem? (i := 5) rfl)
theorem zw_1038 : Cond.selects RX11 yX11_status yX11_status ∈ wsL_law := zr_44 _ (List.mem_of_getElem? (i := 6) rfl)
theorem zw_1039 : Cond.code yX11_status cX11_status 2 (some .int) ∈ wsL_law := zr_44 _ (List.mem_of_getElem? (i := 7) rfl)
theorem zw_1040 : Cond.methodLink RL 141 yX10_count ∈ wsL_law := zr_44 _ (List.mem_of_getElem? (i := 8) rfl)
theorem zw_1041 : Cond.instanceMethod yX10_count ∈ wsL_law := zr_44 _ (List.mem_of_getElem? (i := 9) rfl)
theorem zw_1042 : Cond.selects RX10 yX10_count yX10_count ∈ wsL_law := zr_44 _ (List.mem_of_getElem? (i := 10) rfl)
theorem zw_1043 : Cond.code yX10_count cX10_count 2 (some .int) ∈ wsL_law := zr_44 _ (List.mem_of_getElem? (i := 11) rfl)
theorem zw_1044 : Cond.methodLink RX10 232 yX10_sizeOf ∈ wsL_law := zr_44 _ (List.mem_of_getElem? (i := 12) rfl)
theorem zw_1045 : Cond.instanceMethod yX10_sizeOf ∈ wsL_law := zr_44 _ (List.mem_of_getElem? (i := 13) rfl)
theorem zw_1046 : Cond.selects RX10 yX10_sizeOf yX10_sizeOf ∈ wsL_law := zr_44 _ (List.mem_of_getElem? (i := 14) rfl)
theorem zw_1047 : Cond.code yX10_sizeOf cX10_sizeOf 2 (some .int) ∈ wsL_law := zr_44 _ (List.mem_of_getElem? (i := 15) rfl)
theorem zw_1048 : Cond.fieldLink RX10 254 "SpokenClock$State" "talks" "LSpokenClock$Rows;" ∈ wsL_law := zr_44 _ (List.mem_of_getElem? (i := 16) rfl)
theorem zw_1049 : Cond.fieldLink RX10 257 "SpokenClock$State" "sights" "LSpokenClock$Rows;" ∈ wsL_law := zr_44 _ (List.mem_of_getElem? (i := 17) rfl)
theorem zw_1050 : Cond.methodLink RL 144 yX11_count ∈ wsL_law := zr_44 _ (List.mem_of_getElem? (i := 18) rfl)
theorem zw_1051 : Cond.instanceMethod yX11_count ∈ wsL_law := zr_44 _ (List.mem_of_getElem? (i := 19) rfl)
theorem zw_1052 : Cond.selects RX11 yX11_count yX11_count ∈ wsL_law := zr_44 _ (List.mem_of_getElem? (i := 20) rfl)
theorem zw_1053 : Cond.code yX11_count cX11_count 2 (some .int) ∈ wsL_law := zr_44 _ (List.mem_of_getElem? (i := 21) rfl)
theorem zw_1054 : Cond.methodLink RX11 284 yX11_counted ∈ wsL_law := zr_44 _ (List.mem_of_getElem? (i := 22) rfl)
theorem zw_1055 : Cond.instanceMethod yX11_counted ∈ wsL_law := zr_44 _ (List.mem_of_getElem? (i := 23) rfl)
theorem zw_1056 : Cond.selects RX11 yX11_counted yX11_counted ∈ wsL_law := zr_45 _ (List.mem_of_getElem? (i := 0) rfl)
theorem zw_1057 : Cond.code yX11_counted cX11_counted 2 (some .int) ∈ wsL_law := zr_45 _ (List.mem_of_getElem? (i := 1) rfl)
theorem zw_1058 : Cond.methodLink RL 145 yX10_digest ∈ wsL_law := zr_45 _ (List.mem_of_getElem? (i := 2) rfl)
theorem zw_1059 : Cond.instanceMethod yX10_digest ∈ wsL_law := zr_45 _ (List.mem_of_getElem? (i := 3) rfl)
theorem zw_1060 : Cond.selects RX10 yX10_digest yX10_digest ∈ wsL_law := zr_45 _ (List.mem_of_getElem? (i := 4) rfl)
theorem zw_1061 : Cond.code yX10_digest cX10_digest 4 (some .long) ∈ wsL_law := zr_45 _ (List.mem_of_getElem? (i := 5) rfl)
theorem zw_1062 : Cond.constantLong RX10 235 (701) ∈ wsL_law := zr_45 _ (List.mem_of_getElem? (i := 6) rfl)
theorem zw_1063 : Cond.constantLong RX10 237 (31) ∈ wsL_law := zr_45 _ (List.mem_of_getElem? (i := 7) rfl)
theorem zw_1064 : Cond.methodLink RX10 239 yX9_mixed ∈ wsL_law := zr_45 _ (List.mem_of_getElem? (i := 8) rfl)
theorem zw_1065 : Cond.instanceMethod yX9_mixed ∈ wsL_law := zr_45 _ (List.mem_of_getElem? (i := 9) rfl)
theorem zw_1066 : Cond.selects RX9 yX9_mixed yX9_mixed ∈ wsL_law := zr_45 _ (List.mem_of_getElem? (i := 10) rfl)
theorem zw_1067 : Cond.code yX9_mixed cX9_mixed 5 (some .long) ∈ wsL_law := zr_45 _ (List.mem_of_getElem? (i := 11) rfl)
theorem zw_1068 : Cond.methodLink RX9 65 yX9_mixedWith ∈ wsL_law := zr_45 _ (List.mem_of_getElem? (i := 12) rfl)
theorem zw_1069 : Cond.static yX9_mixedWith ∈ wsL_law := zr_45 _ (List.mem_of_getElem? (i := 13) rfl)
theorem zw_1070 : Cond.code yX9_mixedWith cX9_mixedWith 9 (some .long) ∈ wsL_law := zr_45 _ (List.mem_of_getElem? (i := 14) rfl)
theorem zw_1071 : Cond.constantLong RX9 73 (31) ∈ wsL_law := zr_45 _ (List.mem_of_getElem? (i := 15) rfl)
theorem zw_1072 : Cond.methodLink RX9 69 yX7_mixed ∈ wsL_law := zr_45 _ (List.mem_of_getElem? (i := 16) rfl)
theorem zw_1073 : Cond.instanceMethod yX7_mixed ∈ wsL_law := zr_45 _ (List.mem_of_getElem? (i := 17) rfl)
theorem zw_1074 : Cond.selects RX7 yX7_mixed yX7_mixed ∈ wsL_law := zr_45 _ (List.mem_of_getElem? (i := 18) rfl)
theorem zw_1075 : Cond.code yX7_mixed cX7_mixed 6 (some .long) ∈ wsL_law := zr_45 _ (List.mem_of_getElem? (i := 19) rfl)
theorem zw_1076 : Cond.constantLong RX7 47 (31) ∈ wsL_law := zr_45 _ (List.mem_of_getElem? (i := 20) rfl)
theorem zw_1077 : Cond.methodLink RX10 243 yX2_mixed ∈ wsL_law := zr_45 _ (List.mem_of_getElem? (i := 21) rfl)
theorem zw_1078 : Cond.instanceMethod yX2_mixed ∈ wsL_law := zr_45 _ (List.mem_of_getElem? (i := 22) rfl)
theorem zw_1079 : Cond.selects RX2 yX2_mixed yX2_mixed ∈ wsL_law := zr_45 _ (List.mem_of_getElem? (i := 23) rfl)
theorem zw_1080 : Cond.code yX2_mixed cX2_mixed 6 (some .long) ∈ wsL_law := zr_46 _ (List.mem_of_getElem? (i := 0) rfl)
theorem zw_1081 : Cond.constantLong RX2 32 (31) ∈ wsL_law := zr_46 _ (List.mem_of_getElem? (i := 1) rfl)
theorem zw_1082 : Cond.methodLink RX2 34 yX2_shape ∈ wsL_law := zr_46 _ (List.mem_of_getElem? (i := 2) rfl)
theorem zw_1083 : Cond.methodLink RX2 37 yX0_mixed ∈ wsL_law := zr_46 _ (List.mem_of_getElem? (i := 3) rfl)
theorem zw_1084 : Cond.instanceMethod yX0_mixed ∈ wsL_law := zr_46 _ (List.mem_of_getElem? (i := 4) rfl)
theorem zw_1085 : Cond.selects RX0 yX0_mixed yX0_mixed ∈ wsL_law := zr_46 _ (List.mem_of_getElem? (i := 5) rfl)
theorem zw_1086 : Cond.code yX0_mixed cX0_mixed 6 (some .long) ∈ wsL_law := zr_46 _ (List.mem_of_getElem? (i := 6) rfl)
theorem zw_1087 : Cond.constantLong RX0 27 (31) ∈ wsL_law := zr_46 _ (List.mem_of_getElem? (i := 7) rfl)
theorem zw_1088 : Cond.methodLink RL 149 yX11_digest ∈ wsL_law := zr_46 _ (List.mem_of_getElem? (i := 8) rfl)
theorem zw_1089 : Cond.instanceMethod yX11_digest ∈ wsL_law := zr_46 _ (List.mem_of_getElem? (i := 9) rfl)
theorem zw_1090 : Cond.selects RX11 yX11_digest yX11_digest ∈ wsL_law := zr_46 _ (List.mem_of_getElem? (i := 10) rfl)
theorem zw_1091 : Cond.code yX11_digest cX11_digest 4 (some .long) ∈ wsL_law := zr_46 _ (List.mem_of_getElem? (i := 11) rfl)
theorem zw_1092 : Cond.constantLong RX11 289 (701) ∈ wsL_law := zr_46 _ (List.mem_of_getElem? (i := 12) rfl)
theorem zw_1093 : Cond.methodLink RX11 291 yX11_mixed ∈ wsL_law := zr_46 _ (List.mem_of_getElem? (i := 13) rfl)
theorem zw_1094 : Cond.static yX11_mixed ∈ wsL_law := zr_46 _ (List.mem_of_getElem? (i := 14) rfl)
theorem zw_1095 : Cond.code yX11_mixed cX11_mixed 4 (some .long) ∈ wsL_law := zr_46 _ (List.mem_of_getElem? (i := 15) rfl)
theorem zw_1096 : Cond.constantLong RX11 287 (31) ∈ wsL_law := zr_46 _ (List.mem_of_getElem? (i := 16) rfl)
