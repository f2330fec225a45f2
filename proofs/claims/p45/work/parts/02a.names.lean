def RX0 : String := "Linkwright$Bars"
def TX0 : u_T := fun k => match k with
  | _ => ("", "", "", false)
def tyX0 : Nat → FieldType := fun k => match k with
  | _ => .int
abbrev wsX00 : List Cond := u_ws RX0 TX0 0
theorem nmX0 : ∀ a, a < 0 → ∀ b, b < 0 → a ≠ b → (TX0 a).2.1 ≠ (TX0 b).2.1 := by decide +kernel
theorem tyX0_ok : ∀ k, k < 0 → parseFieldDescriptor (TX0 k).2.2.1 = some (tyX0 k) := by decide +kernel
def RX1 : String := "Linkwright$Cam"
def TX1 : u_T := fun k => match k with
  | _ => ("", "", "", false)
def tyX1 : Nat → FieldType := fun k => match k with
  | _ => .int
abbrev wsX10 : List Cond := u_ws RX1 TX1 0
theorem nmX1 : ∀ a, a < 0 → ∀ b, b < 0 → a ≠ b → (TX1 a).2.1 ≠ (TX1 b).2.1 := by decide +kernel
theorem tyX1_ok : ∀ k, k < 0 → parseFieldDescriptor (TX1 k).2.2.1 = some (tyX1 k) := by decide +kernel
abbrev cX1_isWhole : ByteArray := prog_3_method_2_code
def yX1_isWhole : MethodName := ⟨RX1, "isWhole", "()Z"⟩
abbrev cX1_startOf : ByteArray := prog_3_method_5_code
def yX1_startOf : MethodName := ⟨RX1, "startOf", "(I)I"⟩
abbrev cX1_heightAt : ByteArray := prog_3_method_6_code
def yX1_heightAt : MethodName := ⟨RX1, "heightAt", "(I)LLinkwright$Fraction;"⟩
abbrev cX1_heightWithin : ByteArray := prog_3_method_7_code
def yX1_heightWithin : MethodName := ⟨RX1, "heightWithin", "(II)LLinkwright$Fraction;"⟩
def RX2 : String := "Linkwright$Drum"
def TX2 : u_T := fun k => match k with
  | _ => ("", "", "", false)
def tyX2 : Nat → FieldType := fun k => match k with
  | _ => .int
abbrev wsX20 : List Cond := u_ws RX2 TX2 0
theorem nmX2 : ∀ a, a < 0 → ∀ b, b < 0 → a ≠ b → (TX2 a).2.1 ≠ (TX2 b).2.1 := by decide +kernel
theorem tyX2_ok : ∀ k, k < 0 → parseFieldDescriptor (TX2 k).2.2.1 = some (tyX2 k) := by decide +kernel
abbrev cX2_pass : ByteArray := prog_4_method_3_code
def yX2_pass : MethodName := ⟨RX2, "pass", "(JJ)V"⟩
abbrev cX2_strikePart : ByteArray := prog_4_method_4_code
def yX2_strikePart : MethodName := ⟨RX2, "strikePart", "(I)V"⟩
def RX3 : String := "Linkwright$Fraction"
def TX3 : u_T := fun k => match k with
  | 0 => ("Linkwright$Fraction", "over", "J", true)
  | _ => ("Linkwright$Fraction", "under", "J", true)
def tyX3 : Nat → FieldType := fun k => match k with
  | 0 => .long
  | _ => .long
abbrev wsX30 : List Cond := u_ws RX3 TX3 2
theorem nmX3 : ∀ a, a < 2 → ∀ b, b < 2 → a ≠ b → (TX3 a).2.1 ≠ (TX3 b).2.1 := by decide +kernel
theorem tyX3_ok : ∀ k, k < 2 → parseFieldDescriptor (TX3 k).2.2.1 = some (tyX3 k) := by decide +kernel
abbrev cX3_init : ByteArray := prog_5_method_1_code
def yX3_init : MethodName := ⟨RX3, "<init>", "(JJ)V"⟩
abbrev cX3_isSame : ByteArray := prog_5_method_2_code
def yX3_isSame : MethodName := ⟨RX3, "isSame", "(LLinkwright$Fraction;)Z"⟩
abbrev cX3_commonOf : ByteArray := prog_5_method_3_code
def yX3_commonOf : MethodName := ⟨RX3, "commonOf", "(JJ)J"⟩
def RX4 : String := "Linkwright$FractionRow"
def TX4 : u_T := fun k => match k with
  | 0 => ("Linkwright$FractionRow", "overs", "[J", true)
  | _ => ("Linkwright$FractionRow", "unders", "[J", true)
def tyX4 : Nat → FieldType := fun k => match k with
  | 0 => .array .long
  | _ => .array .long
abbrev wsX40 : List Cond := u_ws RX4 TX4 2
theorem nmX4 : ∀ a, a < 2 → ∀ b, b < 2 → a ≠ b → (TX4 a).2.1 ≠ (TX4 b).2.1 := by decide +kernel
theorem tyX4_ok : ∀ k, k < 2 → parseFieldDescriptor (TX4 k).2.2.1 = some (tyX4 k) := by decide +kernel
abbrev cX4_init : ByteArray := prog_6_method_1_code
def yX4_init : MethodName := ⟨RX4, "<init>", "(I)V"⟩
abbrev cX4_has : ByteArray := prog_6_method_2_code
def yX4_has : MethodName := ⟨RX4, "has", "(I)Z"⟩
abbrev cX4_overAt : ByteArray := prog_6_method_3_code
def yX4_overAt : MethodName := ⟨RX4, "overAt", "(I)J"⟩
abbrev cX4_underAt : ByteArray := prog_6_method_4_code
def yX4_underAt : MethodName := ⟨RX4, "underAt", "(I)J"⟩
abbrev cX4_isMoving : ByteArray := prog_6_method_5_code
def yX4_isMoving : MethodName := ⟨RX4, "isMoving", "(I)Z"⟩
abbrev cX4_isSame : ByteArray := prog_6_method_6_code
def yX4_isSame : MethodName := ⟨RX4, "isSame", "(ILLinkwright$FractionRow;)Z"⟩
abbrev cX4_reset : ByteArray := prog_6_method_7_code
def yX4_reset : MethodName := ⟨RX4, "reset", "()V"⟩
abbrev cX4_copyFrom : ByteArray := prog_6_method_8_code
def yX4_copyFrom : MethodName := ⟨RX4, "copyFrom", "(LLinkwright$FractionRow;)V"⟩
abbrev cX4_put : ByteArray := prog_6_method_9_code
def yX4_put : MethodName := ⟨RX4, "put", "(IJJ)V"⟩
abbrev cX4_add : ByteArray := prog_6_method_10_code
def yX4_add : MethodName := ⟨RX4, "add", "(IJJ)V"⟩
abbrev cX4_isWholeTimes : ByteArray := prog_6_method_11_code
def yX4_isWholeTimes : MethodName := ⟨RX4, "isWholeTimes", "(IJ)Z"⟩
abbrev cX4_wholeTimes : ByteArray := prog_6_method_12_code
def yX4_wholeTimes : MethodName := ⟨RX4, "wholeTimes", "(IJ)J"⟩
def RX5 : String := "Linkwright$Link"
def TX5 : u_T := fun k => match k with
  | 0 => ("Linkwright$Link", "number", "I", true)
  | 1 => ("Linkwright$Link", "kind", "C", true)
  | 2 => ("Linkwright$Link", "first", "I", true)
  | 3 => ("Linkwright$Link", "second", "I", true)
  | 4 => ("Linkwright$Link", "to", "I", true)
  | 5 => ("Linkwright$Link", "a", "I", true)
  | 6 => ("Linkwright$Link", "b", "I", true)
  | 7 => ("Linkwright$Link", "engaged", "Z", false)
  | 8 => ("Linkwright$Link", "broken", "Z", false)
  | 9 => ("Linkwright$Link", "turnsToLive", "I", false)
  | _ => ("Linkwright$Link", "ownSlack", "I", false)
def tyX5 : Nat → FieldType := fun k => match k with
  | 0 => .int
  | 1 => .char
  | 2 => .int
  | 3 => .int
  | 4 => .int
  | 5 => .int
  | 6 => .int
  | 7 => .boolean
  | 8 => .boolean
  | 9 => .int
  | _ => .int
abbrev wsX50 : List Cond := u_ws RX5 TX5 11
theorem nmX5 : ∀ a, a < 11 → ∀ b, b < 11 → a ≠ b → (TX5 a).2.1 ≠ (TX5 b).2.1 := by decide +kernel
theorem tyX5_ok : ∀ k, k < 11 → parseFieldDescriptor (TX5 k).2.2.1 = some (tyX5 k) := by decide +kernel
abbrev cX5_init : ByteArray := prog_7_method_1_code
def yX5_init : MethodName := ⟨RX5, "<init>", "(ICIIIII)V"⟩
abbrev cX5_hasSecond : ByteArray := prog_7_method_2_code
def yX5_hasSecond : MethodName := ⟨RX5, "hasSecond", "()Z"⟩
abbrev cX5_doesAct : ByteArray := prog_7_method_3_code
def yX5_doesAct : MethodName := ⟨RX5, "doesAct", "()Z"⟩
abbrev cX5_over : ByteArray := prog_7_method_5_code
def yX5_over : MethodName := ⟨RX5, "over", "()I"⟩
abbrev cX5_under : ByteArray := prog_7_method_6_code
def yX5_under : MethodName := ⟨RX5, "under", "()I"⟩
abbrev cX5_carry : ByteArray := prog_7_method_7_code
def yX5_carry : MethodName := ⟨RX5, "carry", "(LLinkwright$FractionRow;I)V"⟩
def RX6 : String := "Linkwright$Motion"
def TX6 : u_T := fun k => match k with
  | 0 => ("Linkwright$Motion", "place", "LLinkwright$FractionRow;", true)
  | 1 => ("Linkwright$Motion", "before", "LLinkwright$FractionRow;", true)
  | 2 => ("Linkwright$Motion", "turned", "LLinkwright$FractionRow;", true)
  | 3 => ("Linkwright$Motion", "marks", "[J", true)
  | _ => ("Linkwright$Motion", "acts", "[Z", true)
def tyX6 : Nat → FieldType := fun k => match k with
  | 0 => .object "Linkwright$FractionRow"
  | 1 => .object "Linkwright$FractionRow"
  | 2 => .object "Linkwright$FractionRow"
  | 3 => .array .long
  | _ => .array .boolean
abbrev wsX60 : List Cond := u_ws RX6 TX6 5
theorem nmX6 : ∀ a, a < 5 → ∀ b, b < 5 → a ≠ b → (TX6 a).2.1 ≠ (TX6 b).2.1 := by decide +kernel
theorem tyX6_ok : ∀ k, k < 5 → parseFieldDescriptor (TX6 k).2.2.1 = some (tyX6 k) := by decide +kernel
abbrev cX6_init : ByteArray := prog_8_method_1_code
def yX6_init : MethodName := ⟨RX6, "<init>", "()V"⟩
abbrev cX6_copyFrom : ByteArray := prog_8_method_2_code
def yX6_copyFrom : MethodName := ⟨RX6, "copyFrom", "(LLinkwright$Motion;)V"⟩
abbrev cX6_has : ByteArray := prog_8_method_3_code
def yX6_has : MethodName := ⟨RX6, "has", "(LLinkwright$Link;)Z"⟩
abbrev cX6_doesAct : ByteArray := prog_8_method_4_code
def yX6_doesAct : MethodName := ⟨RX6, "doesAct", "(LLinkwright$Link;)Z"⟩
abbrev cX6_setActs : ByteArray := prog_8_method_5_code
def yX6_setActs : MethodName := ⟨RX6, "setActs", "(LLinkwright$Link;Z)V"⟩
abbrev cX6_begin : ByteArray := prog_8_method_6_code
def yX6_begin : MethodName := ⟨RX6, "begin", "(LLinkwright$Link;)V"⟩
abbrev cX6_turnInput : ByteArray := prog_8_method_7_code
def yX6_turnInput : MethodName := ⟨RX6, "turnInput", "(II)V"⟩
abbrev cX6_follow : ByteArray := prog_8_method_8_code
def yX6_follow : MethodName := ⟨RX6, "follow", "(LLinkwright$Link;)V"⟩
abbrev cX6_followRatchet : ByteArray := prog_8_method_9_code
def yX6_followRatchet : MethodName := ⟨RX6, "followRatchet", "(LLinkwright$Link;)V"⟩
def RX7 : String := "Linkwright"
def TX7 : u_T := fun k => match k with
  | 0 => ("Linkwright", "links", "Ljava/util/ArrayList;", true)
  | 1 => ("Linkwright", "linksByLevel", "Ljava/util/ArrayList;", true)
  | 2 => ("Linkwright", "cams", "Ljava/util/ArrayList;", true)
  | 3 => ("Linkwright", "drums", "Ljava/util/ArrayList;", true)
  | 4 => ("Linkwright", "driverOf", "[I", true)
  | 5 => ("Linkwright", "levels", "[I", true)
  | 6 => ("Linkwright", "reached", "[Z", true)
  | 7 => ("Linkwright", "blocked", "[Z", true)
  | 8 => ("Linkwright", "shares", "LLinkwright$FractionRow;", true)
  | 9 => ("Linkwright", "wear", "LLinkwright$FractionRow;", true)
  | 10 => ("Linkwright", "now", "LLinkwright$Motion;", true)
  | 11 => ("Linkwright", "ahead", "LLinkwright$Motion;", true)
  | 12 => ("Linkwright", "anew", "LLinkwright$Motion;", true)
  | 13 => ("Linkwright", "shaftCount", "I", false)
  | 14 => ("Linkwright", "lastInput", "I", false)
  | _ => ("Linkwright", "lastSteps", "I", false)
def tyX7 : Nat → FieldType := fun k => match k with
  | 0 => .object "java/util/ArrayList"
  | 1 => .object "java/util/ArrayList"
  | 2 => .object "java/util/ArrayList"
  | 3 => .object "java/util/ArrayList"
  | 4 => .array .int
  | 5 => .array .int
  | 6 => .array .boolean
  | 7 => .array .boolean
  | 8 => .object "Linkwright$FractionRow"
  | 9 => .object "Linkwright$FractionRow"
  | 10 => .object "Linkwright$Motion"
  | 11 => .object "Linkwright$Motion"
  | 12 => .object "Linkwright$Motion"
  | 13 => .int
  | 14 => .int
  | _ => .int
abbrev wsX70 : List Cond := u_ws RX7 TX7 16
theorem nmX7 : ∀ a, a < 16 → ∀ b, b < 16 → a ≠ b → (TX7 a).2.1 ≠ (TX7 b).2.1 := by decide +kernel
theorem tyX7_ok : ∀ k, k < 16 → parseFieldDescriptor (TX7 k).2.2.1 = some (tyX7 k) := by decide +kernel
abbrev cX7_init : ByteArray := prog_1_method_1_code
def yX7_init : MethodName := ⟨RX7, "<init>", "()V"⟩
abbrev cX7_shaft : ByteArray := prog_1_method_2_code
def yX7_shaft : MethodName := ⟨RX7, "shaft", "()I"⟩
abbrev cX7_link : ByteArray := prog_1_method_3_code
def yX7_link : MethodName := ⟨RX7, "link", "(CIIII)I"⟩
abbrev cX7_planets : ByteArray := prog_1_method_4_code
def yX7_planets : MethodName := ⟨RX7, "planets", "(IIIII)I"⟩
abbrev cX7_turn : ByteArray := prog_1_method_8_code
def yX7_turn : MethodName := ⟨RX7, "turn", "(II)I"⟩
abbrev cX7_placeOver : ByteArray := prog_1_method_9_code
def yX7_placeOver : MethodName := ⟨RX7, "placeOver", "(I)J"⟩
abbrev cX7_placeUnder : ByteArray := prog_1_method_10_code
def yX7_placeUnder : MethodName := ⟨RX7, "placeUnder", "(I)J"⟩
abbrev cX7_driver : ByteArray := prog_1_method_13_code
def yX7_driver : MethodName := ⟨RX7, "driver", "(I)I"⟩
abbrev cX7_freedom : ByteArray := prog_1_method_14_code
def yX7_freedom : MethodName := ⟨RX7, "freedom", "()I"⟩
abbrev cX7_wornOver : ByteArray := prog_1_method_15_code
def yX7_wornOver : MethodName := ⟨RX7, "wornOver", "(I)J"⟩
abbrev cX7_wornUnder : ByteArray := prog_1_method_16_code
def yX7_wornUnder : MethodName := ⟨RX7, "wornUnder", "(I)J"⟩
abbrev cX7_isBroken : ByteArray := prog_1_method_17_code
def yX7_isBroken : MethodName := ⟨RX7, "isBroken", "(I)Z"⟩
abbrev cX7_drivenShare : ByteArray := prog_1_method_41_code
def yX7_drivenShare : MethodName := ⟨RX7, "drivenShare", "()F"⟩
abbrev cX7_isSound : ByteArray := prog_1_method_43_code
def yX7_isSound : MethodName := ⟨RX7, "isSound", "()Z"⟩
abbrev cX7_checkShaft : ByteArray := prog_1_method_44_code
def yX7_checkShaft : MethodName := ⟨RX7, "checkShaft", "(I)V"⟩
abbrev cX7_checkLink : ByteArray := prog_1_method_45_code
def yX7_checkLink : MethodName := ⟨RX7, "checkLink", "(I)V"⟩
abbrev cX7_linkAt : ByteArray := prog_1_method_46_code
def yX7_linkAt : MethodName := ⟨RX7, "linkAt", "(I)LLinkwright$Link;"⟩
abbrev cX7_checkRange : ByteArray := prog_1_method_50_code
def yX7_checkRange : MethodName := ⟨RX7, "checkRange", "(III)V"⟩
abbrev cX7_hasMeaning : ByteArray := prog_1_method_52_code
def yX7_hasMeaning : MethodName := ⟨RX7, "hasMeaning", "(CII)Z"⟩
abbrev cX7_isWithin : ByteArray := prog_1_method_53_code
def yX7_isWithin : MethodName := ⟨RX7, "isWithin", "(III)Z"⟩
abbrev cX7_addLink : ByteArray := prog_1_method_54_code
def yX7_addLink : MethodName := ⟨RX7, "addLink", "(LLinkwright$Link;)I"⟩
abbrev cX7_areLevelsFit : ByteArray := prog_1_method_55_code
def yX7_areLevelsFit : MethodName := ⟨RX7, "areLevelsFit", "(LLinkwright$Link;)Z"⟩
abbrev cX7_raiseLevel : ByteArray := prog_1_method_56_code
def yX7_raiseLevel : MethodName := ⟨RX7, "raiseLevel", "(LLinkwright$Link;)V"⟩
abbrev cX7_sortLinks : ByteArray := prog_1_method_57_code
def yX7_sortLinks : MethodName := ⟨RX7, "sortLinks", "()V"⟩
abbrev cX7_countDriven : ByteArray := prog_1_method_58_code
def yX7_countDriven : MethodName := ⟨RX7, "countDriven", "()I"⟩
abbrev cX7_takeStep : ByteArray := prog_1_method_63_code
def yX7_takeStep : MethodName := ⟨RX7, "takeStep", "(LLinkwright$Motion;II)V"⟩
abbrev cX7_countWear : ByteArray := prog_1_method_64_code
def yX7_countWear : MethodName := ⟨RX7, "countWear", "()V"⟩
abbrev cX7_wearBy : ByteArray := prog_1_method_65_code
def yX7_wearBy : MethodName := ⟨RX7, "wearBy", "(II)V"⟩
abbrev cX7_strikePins : ByteArray := prog_1_method_66_code
def yX7_strikePins : MethodName := ⟨RX7, "strikePins", "()V"⟩
abbrev cX7_breakWornLinks : ByteArray := prog_1_method_67_code
def yX7_breakWornLinks : MethodName := ⟨RX7, "breakWornLinks", "()V"⟩
abbrev cX7_countMoved : ByteArray := prog_1_method_68_code
def yX7_countMoved : MethodName := ⟨RX7, "countMoved", "()I"⟩
abbrev cX7_isLastTurningSame : ByteArray := prog_1_method_69_code
def yX7_isLastTurningSame : MethodName := ⟨RX7, "isLastTurningSame", "()Z"⟩
abbrev cX7_areInputsWhole : ByteArray := prog_1_method_70_code
def yX7_areInputsWhole : MethodName := ⟨RX7, "areInputsWhole", "()Z"⟩
abbrev cX7_areCamsClosed : ByteArray := prog_1_method_71_code
def yX7_areCamsClosed : MethodName := ⟨RX7, "areCamsClosed", "()Z"⟩
def RX8 : String := "LinkwrightModel"
def TX8 : u_T := fun k => match k with
  | _ => ("", "", "", false)
def tyX8 : Nat → FieldType := fun k => match k with
  | _ => .int
abbrev wsX80 : List Cond := u_ws RX8 TX8 0
theorem nmX8 : ∀ a, a < 0 → ∀ b, b < 0 → a ≠ b → (TX8 a).2.1 ≠ (TX8 b).2.1 := by decide +kernel
theorem tyX8_ok : ∀ k, k < 0 → parseFieldDescriptor (TX8 k).2.2.1 = some (tyX8 k) := by decide +kernel
def RJx145de : String := "java/io/Serializable"
def TJx145de : u_T := fun k => match k with
  | _ => ("", "", "", false)
def tyJx145de : Nat → FieldType := fun k => match k with
  | _ => .int
abbrev wsJx145de0 : List Cond := u_ws RJx145de TJx145de 0
theorem nmJx145de : ∀ a, a < 0 → ∀ b, b < 0 → a ≠ b → (TJx145de a).2.1 ≠ (TJx145de b).2.1 := by decide +kernel
theorem tyJx145de_ok : ∀ k, k < 0 → parseFieldDescriptor (TJx145de k).2.2.1 = some (tyJx145de k) := by decide +kernel
def RJx00060 : String := "java/lang/ArrayIndexOutOfBoundsException"
def TJx00060 : u_T := fun k => match k with
  | 0 => ("java/lang/Throwable", "backtrace", "Ljava/lang/Object;", false)
  | 1 => ("java/lang/Throwable", "detailMessage", "Ljava/lang/String;", false)
  | 2 => ("java/lang/Throwable", "cause", "Ljava/lang/Throwable;", false)
  | 3 => ("java/lang/Throwable", "stackTrace", "[Ljava/lang/StackTraceElement;", false)
  | 4 => ("java/lang/Throwable", "depth", "I", false)
  | _ => ("java/lang/Throwable", "suppressedExceptions", "Ljava/util/List;", false)
def tyJx00060 : Nat → FieldType := fun k => match k with
  | 0 => .object "java/lang/Object"
  | 1 => .object "java/lang/String"
  | 2 => .object "java/lang/Throwable"
  | 3 => .array (.object "java/lang/StackTraceElement")
  | 4 => .int
  | _ => .object "java/util/List"
abbrev wsJx000600 : List Cond := u_ws RJx00060 TJx00060 6
theorem nmJx00060 : ∀ a, a < 6 → ∀ b, b < 6 → a ≠ b → (TJx00060 a).2.1 ≠ (TJx00060 b).2.1 := by decide +kernel
theorem tyJx00060_ok : ∀ k, k < 6 → parseFieldDescriptor (TJx00060 k).2.2.1 = some (tyJx00060 k) := by decide +kernel
abbrev cJx00060_init_a7421 : ByteArray := prog_13_method_2_code
def yJx00060_init_a7421 : MethodName := ⟨RJx00060, "<init>", "(Ljava/lang/String;)V"⟩
def RJx8e188 : String := "java/lang/Cloneable"
def TJx8e188 : u_T := fun k => match k with
  | _ => ("", "", "", false)
def tyJx8e188 : Nat → FieldType := fun k => match k with
  | _ => .int
abbrev wsJx8e1880 : List Cond := u_ws RJx8e188 TJx8e188 0
theorem nmJx8e188 : ∀ a, a < 0 → ∀ b, b < 0 → a ≠ b → (TJx8e188 a).2.1 ≠ (TJx8e188 b).2.1 := by decide +kernel
theorem tyJx8e188_ok : ∀ k, k < 0 → parseFieldDescriptor (TJx8e188 k).2.2.1 = some (tyJx8e188 k) := by decide +kernel
def RJxab1ab : String := "java/lang/Iterable"
def TJxab1ab : u_T := fun k => match k with
  | _ => ("", "", "", false)
def tyJxab1ab : Nat → FieldType := fun k => match k with
  | _ => .int
abbrev wsJxab1ab0 : List Cond := u_ws RJxab1ab TJxab1ab 0
theorem nmJxab1ab : ∀ a, a < 0 → ∀ b, b < 0 → a ≠ b → (TJxab1ab a).2.1 ≠ (TJxab1ab b).2.1 := by decide +kernel
theorem tyJxab1ab_ok : ∀ k, k < 0 → parseFieldDescriptor (TJxab1ab k).2.2.1 = some (tyJxab1ab k) := by decide +kernel
def RJ9 : String := "java/lang/Math"
def TJ9 : u_T := fun k => match k with
  | _ => ("", "", "", false)
def tyJ9 : Nat → FieldType := fun k => match k with
  | _ => .int
abbrev wsJ90 : List Cond := u_ws RJ9 TJ9 0
theorem nmJ9 : ∀ a, a < 0 → ∀ b, b < 0 → a ≠ b → (TJ9 a).2.1 ≠ (TJ9 b).2.1 := by decide +kernel
theorem tyJ9_ok : ∀ k, k < 0 → parseFieldDescriptor (TJ9 k).2.2.1 = some (tyJ9 k) := by decide +kernel
abbrev cJ9_floorDiv_f86c9 : ByteArray := prog_20_method_49_code
def yJ9_floorDiv_f86c9 : MethodName := ⟨RJ9, "floorDiv", "(JJ)J"⟩
abbrev cJ9_floorMod_f86c9 : ByteArray := prog_20_method_52_code
def yJ9_floorMod_f86c9 : MethodName := ⟨RJ9, "floorMod", "(JJ)J"⟩
abbrev cJ9_abs_0f7a4 : ByteArray := prog_20_method_59_code
def yJ9_abs_0f7a4 : MethodName := ⟨RJ9, "abs", "(I)I"⟩
abbrev cJ9_abs_067f4 : ByteArray := prog_20_method_61_code
def yJ9_abs_067f4 : MethodName := ⟨RJ9, "abs", "(J)J"⟩
abbrev cJ9_max_7cf53 : ByteArray := prog_20_method_65_code
def yJ9_max_7cf53 : MethodName := ⟨RJ9, "max", "(II)I"⟩
abbrev cJ9_max_f86c9 : ByteArray := prog_20_method_66_code
def yJ9_max_f86c9 : MethodName := ⟨RJ9, "max", "(JJ)J"⟩
abbrev cJ9_min_7cf53 : ByteArray := prog_20_method_69_code
def yJ9_min_7cf53 : MethodName := ⟨RJ9, "min", "(II)I"⟩
abbrev cJ9_min_f86c9 : ByteArray := prog_20_method_70_code
def yJ9_min_f86c9 : MethodName := ⟨RJ9, "min", "(JJ)J"⟩
def RJ0 : String := "java/lang/String"
def TJ0 : u_T := fun k => match k with
  | 0 => ("java/lang/String", "value", "[B", true)
  | _ => ("java/lang/String", "coder", "B", true)
def tyJ0 : Nat → FieldType := fun k => match k with
  | 0 => .array .byte
  | _ => .byte
abbrev wsJ00 : List Cond := u_ws RJ0 TJ0 2
theorem nmJ0 : ∀ a, a < 2 → ∀ b, b < 2 → a ≠ b → (TJ0 a).2.1 ≠ (TJ0 b).2.1 := by decide +kernel
theorem tyJ0_ok : ∀ k, k < 2 → parseFieldDescriptor (TJ0 k).2.2.1 = some (tyJ0 k) := by decide +kernel
def RJ10 : String := "java/lang/System"
def TJ10 : u_T := fun k => match k with
  | _ => ("", "", "", false)
def tyJ10 : Nat → FieldType := fun k => match k with
  | _ => .int
abbrev wsJ100 : List Cond := u_ws RJ10 TJ10 0
theorem nmJ10 : ∀ a, a < 0 → ∀ b, b < 0 → a ≠ b → (TJ10 a).2.1 ≠ (TJ10 b).2.1 := by decide +kernel
theorem tyJ10_ok : ∀ k, k < 0 → parseFieldDescriptor (TJ10 k).2.2.1 = some (tyJ10 k) := by decide +kernel
def RJxa1e45 : String := "java/util/AbstractCollection"
def TJxa1e45 : u_T := fun k => match k with
  | _ => ("", "", "", false)
def tyJxa1e45 : Nat → FieldType := fun k => match k with
  | _ => .int
abbrev wsJxa1e450 : List Cond := u_ws RJxa1e45 TJxa1e45 0
theorem nmJxa1e45 : ∀ a, a < 0 → ∀ b, b < 0 → a ≠ b → (TJxa1e45 a).2.1 ≠ (TJxa1e45 b).2.1 := by decide +kernel
theorem tyJxa1e45_ok : ∀ k, k < 0 → parseFieldDescriptor (TJxa1e45 k).2.2.1 = some (tyJxa1e45 k) := by decide +kernel
abbrev cJxa1e45_init_da8c8 : ByteArray := prog_26_method_1_code
def yJxa1e45_init_da8c8 : MethodName := ⟨RJxa1e45, "<init>", "()V"⟩
def RJxc12de : String := "java/util/AbstractList"
def TJxc12de : u_T := fun k => match k with
  | _ => ("", "", "", false)
def tyJxc12de : Nat → FieldType := fun k => match k with
  | _ => .int
abbrev wsJxc12de0 : List Cond := u_ws RJxc12de TJxc12de 0
theorem nmJxc12de : ∀ a, a < 0 → ∀ b, b < 0 → a ≠ b → (TJxc12de a).2.1 ≠ (TJxc12de b).2.1 := by decide +kernel
theorem tyJxc12de_ok : ∀ k, k < 0 → parseFieldDescriptor (TJxc12de k).2.2.1 = some (tyJxc12de k) := by decide +kernel
abbrev cJxc12de_init_da8c8 : ByteArray := prog_27_method_1_code
def yJxc12de_init_da8c8 : MethodName := ⟨RJxc12de, "<init>", "()V"⟩
def RJx4a65c : String := "java/util/ArrayList"
def TJx4a65c : u_T := fun k => match k with
  | 0 => ("java/util/AbstractList", "modCount", "I", false)
  | 1 => ("java/util/ArrayList", "elementData", "[Ljava/lang/Object;", false)
  | _ => ("java/util/ArrayList", "size", "I", false)
def tyJx4a65c : Nat → FieldType := fun k => match k with
  | 0 => .int
  | 1 => .array (.object "java/lang/Object")
  | _ => .int
abbrev wsJx4a65c0 : List Cond := u_ws RJx4a65c TJx4a65c 3
theorem nmJx4a65c : ∀ a, a < 3 → ∀ b, b < 3 → a ≠ b → (TJx4a65c a).2.1 ≠ (TJx4a65c b).2.1 := by decide +kernel
theorem tyJx4a65c_ok : ∀ k, k < 3 → parseFieldDescriptor (TJx4a65c k).2.2.1 = some (tyJx4a65c k) := by decide +kernel
abbrev cJx4a65c_init_da8c8 : ByteArray := prog_28_method_2_code
def yJx4a65c_init_da8c8 : MethodName := ⟨RJx4a65c, "<init>", "()V"⟩
abbrev cJx4a65c_grow_92f84 : ByteArray := prog_28_method_6_code
def yJx4a65c_grow_92f84 : MethodName := ⟨RJx4a65c, "grow", "(I)[Ljava/lang/Object;"⟩
abbrev cJx4a65c_grow_d5877 : ByteArray := prog_28_method_7_code
def yJx4a65c_grow_d5877 : MethodName := ⟨RJx4a65c, "grow", "()[Ljava/lang/Object;"⟩
abbrev cJx4a65c_size_8abf5 : ByteArray := prog_28_method_8_code
def yJx4a65c_size_8abf5 : MethodName := ⟨RJx4a65c, "size", "()I"⟩
abbrev cJx4a65c_elementData_915e3 : ByteArray := prog_28_method_18_code
def yJx4a65c_elementData_915e3 : MethodName := ⟨RJx4a65c, "elementData", "(I)Ljava/lang/Object;"⟩
abbrev cJx4a65c_get_915e3 : ByteArray := prog_28_method_20_code
def yJx4a65c_get_915e3 : MethodName := ⟨RJx4a65c, "get", "(I)Ljava/lang/Object;"⟩
abbrev cJx4a65c_add_72be8 : ByteArray := prog_28_method_24_code
def yJx4a65c_add_72be8 : MethodName := ⟨RJx4a65c, "add", "(Ljava/lang/Object;[Ljava/lang/Object;I)V"⟩
abbrev cJx4a65c_add_9ea2d : ByteArray := prog_28_method_25_code
def yJx4a65c_add_9ea2d : MethodName := ⟨RJx4a65c, "add", "(Ljava/lang/Object;)Z"⟩
abbrev cJx4a65c_clear_da8c8 : ByteArray := prog_28_method_40_code
def yJx4a65c_clear_da8c8 : MethodName := ⟨RJx4a65c, "clear", "()V"⟩
def RJ7 : String := "java/util/Arrays"
def TJ7 : u_T := fun k => match k with
  | _ => ("", "", "", false)
def tyJ7 : Nat → FieldType := fun k => match k with
  | _ => .int
abbrev wsJ70 : List Cond := u_ws RJ7 TJ7 0
theorem nmJ7 : ∀ a, a < 0 → ∀ b, b < 0 → a ≠ b → (TJ7 a).2.1 ≠ (TJ7 b).2.1 := by decide +kernel
theorem tyJ7_ok : ∀ k, k < 0 → parseFieldDescriptor (TJ7 k).2.2.1 = some (tyJ7 k) := by decide +kernel
abbrev cJ7_fill_d0a16 : ByteArray := prog_29_method_101_code
def yJ7_fill_d0a16 : MethodName := ⟨RJ7, "fill", "([JJ)V"⟩
abbrev cJ7_fill_53178 : ByteArray := prog_29_method_103_code
def yJ7_fill_53178 : MethodName := ⟨RJ7, "fill", "([II)V"⟩
abbrev cJ7_copyOf_1904c : ByteArray := prog_29_method_119_code
def yJ7_copyOf_1904c : MethodName := ⟨RJ7, "copyOf", "([Ljava/lang/Object;I)[Ljava/lang/Object;"⟩
abbrev cJ7_copyOf_6403c : ByteArray := prog_29_method_120_code
def yJ7_copyOf_6403c : MethodName := ⟨RJ7, "copyOf", "([Ljava/lang/Object;ILjava/lang/Class;)[Ljava/lang/Object;"⟩
def RJx5ef63 : String := "java/util/Collection"
def TJx5ef63 : u_T := fun k => match k with
  | _ => ("", "", "", false)
def tyJx5ef63 : Nat → FieldType := fun k => match k with
  | _ => .int
abbrev wsJx5ef630 : List Cond := u_ws RJx5ef63 TJx5ef63 0
theorem nmJx5ef63 : ∀ a, a < 0 → ∀ b, b < 0 → a ≠ b → (TJx5ef63 a).2.1 ≠ (TJx5ef63 b).2.1 := by decide +kernel
theorem tyJx5ef63_ok : ∀ k, k < 0 → parseFieldDescriptor (TJx5ef63 k).2.2.1 = some (tyJx5ef63 k) := by decide +kernel
def RJxbd725 : String := "java/util/List"
def TJxbd725 : u_T := fun k => match k with
  | _ => ("", "", "", false)
def tyJxbd725 : Nat → FieldType := fun k => match k with
  | _ => .int
abbrev wsJxbd7250 : List Cond := u_ws RJxbd725 TJxbd725 0
theorem nmJxbd725 : ∀ a, a < 0 → ∀ b, b < 0 → a ≠ b → (TJxbd725 a).2.1 ≠ (TJxbd725 b).2.1 := by decide +kernel
theorem tyJxbd725_ok : ∀ k, k < 0 → parseFieldDescriptor (TJxbd725 k).2.2.1 = some (tyJxbd725 k) := by decide +kernel
def RJ15 : String := "java/util/Objects"
def TJ15 : u_T := fun k => match k with
  | _ => ("", "", "", false)
def tyJ15 : Nat → FieldType := fun k => match k with
  | _ => .int
abbrev wsJ150 : List Cond := u_ws RJ15 TJ15 0
theorem nmJ15 : ∀ a, a < 0 → ∀ b, b < 0 → a ≠ b → (TJ15 a).2.1 ≠ (TJ15 b).2.1 := by decide +kernel
theorem tyJ15_ok : ∀ k, k < 0 → parseFieldDescriptor (TJ15 k).2.2.1 = some (tyJ15 k) := by decide +kernel
abbrev cJ15_checkIndex_7cf53 : ByteArray := prog_33_method_17_code
def yJ15_checkIndex_7cf53 : MethodName := ⟨RJ15, "checkIndex", "(II)I"⟩
def RJxf0a74 : String := "java/util/RandomAccess"
def TJxf0a74 : u_T := fun k => match k with
  | _ => ("", "", "", false)
def tyJxf0a74 : Nat → FieldType := fun k => match k with
  | _ => .int
abbrev wsJxf0a740 : List Cond := u_ws RJxf0a74 TJxf0a74 0
theorem nmJxf0a74 : ∀ a, a < 0 → ∀ b, b < 0 → a ≠ b → (TJxf0a74 a).2.1 ≠ (TJxf0a74 b).2.1 := by decide +kernel
theorem tyJxf0a74_ok : ∀ k, k < 0 → parseFieldDescriptor (TJxf0a74 k).2.2.1 = some (tyJxf0a74 k) := by decide +kernel
def RJxa66e6 : String := "java/util/SequencedCollection"
def TJxa66e6 : u_T := fun k => match k with
  | _ => ("", "", "", false)
def tyJxa66e6 : Nat → FieldType := fun k => match k with
  | _ => .int
abbrev wsJxa66e60 : List Cond := u_ws RJxa66e6 TJxa66e6 0
theorem nmJxa66e6 : ∀ a, a < 0 → ∀ b, b < 0 → a ≠ b → (TJxa66e6 a).2.1 ≠ (TJxa66e6 b).2.1 := by decide +kernel
theorem tyJxa66e6_ok : ∀ k, k < 0 → parseFieldDescriptor (TJxa66e6 k).2.2.1 = some (tyJxa66e6 k) := by decide +kernel
def RJ8 : String := "jdk/internal/util/ArraysSupport"
def TJ8 : u_T := fun k => match k with
  | _ => ("", "", "", false)
def tyJ8 : Nat → FieldType := fun k => match k with
  | _ => .int
abbrev wsJ80 : List Cond := u_ws RJ8 TJ8 0
theorem nmJ8 : ∀ a, a < 0 → ∀ b, b < 0 → a ≠ b → (TJ8 a).2.1 ≠ (TJ8 b).2.1 := by decide +kernel
theorem tyJ8_ok : ∀ k, k < 0 → parseFieldDescriptor (TJ8 k).2.2.1 = some (tyJ8 k) := by decide +kernel
abbrev cJ8_newLength_cabcc : ByteArray := prog_36_method_27_code
def yJ8_newLength_cabcc : MethodName := ⟨RJ8, "newLength", "(III)I"⟩
abbrev cJ8_hugeLength_7cf53 : ByteArray := prog_36_method_28_code
def yJ8_hugeLength_7cf53 : MethodName := ⟨RJ8, "hugeLength", "(II)I"⟩
def RJ3 : String := "jdk/internal/util/Preconditions"
def TJ3 : u_T := fun k => match k with
  | _ => ("", "", "", false)
def tyJ3 : Nat → FieldType := fun k => match k with
  | _ => .int
abbrev wsJ30 : List Cond := u_ws RJ3 TJ3 0
theorem nmJ3 : ∀ a, a < 0 → ∀ b, b < 0 → a ≠ b → (TJ3 a).2.1 ≠ (TJ3 b).2.1 := by decide +kernel
theorem tyJ3_ok : ∀ k, k < 0 → parseFieldDescriptor (TJ3 k).2.2.1 = some (tyJ3 k) := by decide +kernel
abbrev cJ3_checkIndex_8e157 : ByteArray := prog_37_method_11_code
def yJ3_checkIndex_8e157 : MethodName := ⟨RJ3, "checkIndex", "(IILjava/util/function/BiFunction;)I"⟩
def RL : String := "LinkwrightLaw"
abbrev cL_cell : ByteArray := method_2_code
def yL_cell : MethodName := ⟨RL, "cell", "([II)I"⟩
abbrev cL_shaft : ByteArray := method_3_code
def yL_shaft : MethodName := ⟨RL, "shaft", "(LLinkwright;)I"⟩
abbrev cL_link : ByteArray := method_4_code
def yL_link : MethodName := ⟨RL, "link", "(LLinkwright;CIIII)I"⟩
abbrev cL_planets : ByteArray := method_5_code
def yL_planets : MethodName := ⟨RL, "planets", "(LLinkwright;IIIII)I"⟩
abbrev cL_turn : ByteArray := method_6_code
def yL_turn : MethodName := ⟨RL, "turn", "(LLinkwright;II)I"⟩
abbrev cL_driver : ByteArray := method_7_code
def yL_driver : MethodName := ⟨RL, "driver", "(LLinkwright;I)I"⟩
abbrev cL_placeOver : ByteArray := method_8_code
def yL_placeOver : MethodName := ⟨RL, "placeOver", "(LLinkwright;I)J"⟩
abbrev cL_placeUnder : ByteArray := method_9_code
def yL_placeUnder : MethodName := ⟨RL, "placeUnder", "(LLinkwright;I)J"⟩
abbrev cL_wornOver : ByteArray := method_10_code
def yL_wornOver : MethodName := ⟨RL, "wornOver", "(LLinkwright;I)J"⟩
abbrev cL_wornUnder : ByteArray := method_11_code
def yL_wornUnder : MethodName := ⟨RL, "wornUnder", "(LLinkwright;I)J"⟩
abbrev cL_in : ByteArray := method_12_code
def yL_in : MethodName := ⟨RL, "in", "([III)I"⟩
abbrev cL_common : ByteArray := method_13_code
def yL_common : MethodName := ⟨RL, "common", "(JJ)J"⟩
abbrev cL_law : ByteArray := code
def yL_law : MethodName := ⟨RL, "law", "([I)Z"⟩
abbrev vwCl : List vw_C := [(RJ0, TJ0, 2), (RJx00060, TJx00060, 6), (RJx4a65c, TJx4a65c, 3), (RX1, TX1, 0), (RX2, TX2, 0), (RX3, TX3, 2), (RX4, TX4, 2), (RX5, TX5, 11), (RX6, TX6, 5), (RX7, TX7, 16)]
