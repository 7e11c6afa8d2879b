/-! ===== BEGIN printed: names, fields, word lists, decode rows ===== -/
def RX0 : String := "GameArbiter"
def TX0 : u_T := fun k => match k with
  | 0 => ("GameArbiter", "given", "[J", true)
  | 1 => ("GameArbiter", "told", "[J", true)
  | 2 => ("GameArbiter", "facts", "[I", true)
  | _ => ("GameArbiter", "positions", "I", false)
def tyX0 : Nat → FieldType := fun k => match k with
  | 0 => .array .long
  | 1 => .array .long
  | 2 => .array .int
  | _ => .int
abbrev wsX00 : List Cond := u_ws RX0 TX0 4
theorem nmX0 : ∀ a, a < 4 → ∀ b, b < 4 → a ≠ b → (TX0 a).2.1 ≠ (TX0 b).2.1 := by decide +kernel
theorem tyX0_ok : ∀ k, k < 4 → parseFieldDescriptor (TX0 k).2.2.1 = some (tyX0 k) := by decide +kernel
abbrev cX0_init : ByteArray := prog_1_method_1_code
def yX0_init : MethodName := ⟨RX0, "<init>", "()V"⟩
abbrev cX0_squares : ByteArray := prog_1_method_2_code
def yX0_squares : MethodName := ⟨RX0, "squares", "(IJ)Z"⟩
abbrev cX0_begin : ByteArray := prog_1_method_3_code
def yX0_begin : MethodName := ⟨RX0, "begin", "(IIZI)I"⟩
abbrev cX0_next : ByteArray := prog_1_method_4_code
def yX0_next : MethodName := ⟨RX0, "next", "(IIZZ)I"⟩
abbrev cX0_back : ByteArray := prog_1_method_5_code
def yX0_back : MethodName := ⟨RX0, "back", "()Z"⟩
abbrev cX0_verdict : ByteArray := prog_1_method_6_code
def yX0_verdict : MethodName := ⟨RX0, "verdict", "()I"⟩
abbrev cX0_of : ByteArray := prog_1_method_7_code
def yX0_of : MethodName := ⟨RX0, "of", "(II)I"⟩
abbrev cX0_men : ByteArray := prog_1_method_8_code
def yX0_men : MethodName := ⟨RX0, "men", "(II)J"⟩
abbrev cX0_times : ByteArray := prog_1_method_9_code
def yX0_times : MethodName := ⟨RX0, "times", "(I)I"⟩
abbrev cX0_look : ByteArray := prog_1_method_10_code
def yX0_look : MethodName := ⟨RX0, "look", "(I)I"⟩
abbrev cX0_isPart : ByteArray := prog_1_method_11_code
def yX0_isPart : MethodName := ⟨RX0, "isPart", "(I)Z"⟩
abbrev cX0_isMoves : ByteArray := prog_1_method_12_code
def yX0_isMoves : MethodName := ⟨RX0, "isMoves", "(I)Z"⟩
abbrev cX0_isClock : ByteArray := prog_1_method_13_code
def yX0_isClock : MethodName := ⟨RX0, "isClock", "(I)Z"⟩
abbrev cX0_isState : ByteArray := prog_1_method_14_code
def yX0_isState : MethodName := ⟨RX0, "isState", "(I)Z"⟩
abbrev cX0_isPosition : ByteArray := prog_1_method_15_code
def yX0_isPosition : MethodName := ⟨RX0, "isPosition", "(I)Z"⟩
abbrev cX0_areMen : ByteArray := prog_1_method_16_code
def yX0_areMen : MethodName := ⟨RX0, "areMen", "(J)Z"⟩
abbrev cX0_manOfPart : ByteArray := prog_1_method_17_code
def yX0_manOfPart : MethodName := ⟨RX0, "manOfPart", "(JI)I"⟩
abbrev cX0_takesAnother : ByteArray := prog_1_method_18_code
def yX0_takesAnother : MethodName := ⟨RX0, "takesAnother", "()Z"⟩
abbrev cX0_factOf : ByteArray := prog_1_method_19_code
def yX0_factOf : MethodName := ⟨RX0, "factOf", "(II)I"⟩
abbrev cX0_append : ByteArray := prog_1_method_20_code
def yX0_append : MethodName := ⟨RX0, "append", "(IIZI)I"⟩
abbrev cX0_lastSame : ByteArray := prog_1_method_21_code
def yX0_lastSame : MethodName := ⟨RX0, "lastSame", "(I)I"⟩
abbrev cX0_hasGivenSquares : ByteArray := prog_1_method_22_code
def yX0_hasGivenSquares : MethodName := ⟨RX0, "hasGivenSquares", "(I)Z"⟩
abbrev cX0_countUpTo : ByteArray := prog_1_method_23_code
def yX0_countUpTo : MethodName := ⟨RX0, "countUpTo", "(I)I"⟩
abbrev cX0_judge : ByteArray := prog_1_method_24_code
def yX0_judge : MethodName := ⟨RX0, "judge", "(IZZII)I"⟩
abbrev cX0_isGivenDead : ByteArray := prog_1_method_25_code
def yX0_isGivenDead : MethodName := ⟨RX0, "isGivenDead", "(I)Z"⟩
abbrev cX0_countGiven : ByteArray := prog_1_method_26_code
def yX0_countGiven : MethodName := ⟨RX0, "countGiven", "(I)I"⟩
abbrev cX0_firstSquareGiven : ByteArray := prog_1_method_27_code
def yX0_firstSquareGiven : MethodName := ⟨RX0, "firstSquareGiven", "(I)I"⟩
abbrev cX0_manGiven : ByteArray := prog_1_method_28_code
def yX0_manGiven : MethodName := ⟨RX0, "manGiven", "(I)I"⟩
abbrev cX0_colourOf : ByteArray := prog_1_method_29_code
def yX0_colourOf : MethodName := ⟨RX0, "colourOf", "(I)I"⟩
abbrev cX0_differentPositions : ByteArray := prog_1_method_30_code
def yX0_differentPositions : MethodName := ⟨RX0, "differentPositions", "()I"⟩
abbrev cX0_greatest : ByteArray := prog_1_method_31_code
def yX0_greatest : MethodName := ⟨RX0, "greatest", "(I)I"⟩
def RX1 : String := "GameArbiterModel"
def TX1 : u_T := fun k => match k with
  | 0 => ("GameArbiterModel", "thrown", "I", false)
  | 1 => ("GameArbiterModel", "next", "[I", true)
  | 2 => ("GameArbiterModel", "many", "I", false)
  | 3 => ("GameArbiterModel", "men", "[I", true)
  | 4 => ("GameArbiterModel", "states", "[I", true)
  | 5 => ("GameArbiterModel", "clocks", "[I", true)
  | _ => ("GameArbiterModel", "verdicts", "[I", true)
def tyX1 : Nat → FieldType := fun k => match k with
  | 0 => .int
  | 1 => .array .int
  | 2 => .int
  | 3 => .array .int
  | 4 => .array .int
  | 5 => .array .int
  | _ => .array .int
abbrev wsX10 : List Cond := u_ws RX1 TX1 7
theorem nmX1 : ∀ a, a < 7 → ∀ b, b < 7 → a ≠ b → (TX1 a).2.1 ≠ (TX1 b).2.1 := by decide +kernel
theorem tyX1_ok : ∀ k, k < 7 → parseFieldDescriptor (TX1 k).2.2.1 = some (tyX1 k) := by decide +kernel
abbrev cX1_init : ByteArray := prog_3_method_1_code
def yX1_init : MethodName := ⟨RX1, "<init>", "()V"⟩
abbrev cX1_thrown : ByteArray := prog_3_method_2_code
def yX1_thrown : MethodName := ⟨RX1, "thrown", "()I"⟩
abbrev cX1_squares : ByteArray := prog_3_method_3_code
def yX1_squares : MethodName := ⟨RX1, "squares", "(IJ)Z"⟩
abbrev cX1_isState : ByteArray := prog_3_method_4_code
def yX1_isState : MethodName := ⟨RX1, "isState", "(I)Z"⟩
abbrev cX1_isSame : ByteArray := prog_3_method_5_code
def yX1_isSame : MethodName := ⟨RX1, "isSame", "(II)Z"⟩
abbrev cX1_isNext : ByteArray := prog_3_method_6_code
def yX1_isNext : MethodName := ⟨RX1, "isNext", "(II)Z"⟩
abbrev cX1_countOf : ByteArray := prog_3_method_7_code
def yX1_countOf : MethodName := ⟨RX1, "countOf", "(I)I"⟩
abbrev cX1_howMany : ByteArray := prog_3_method_8_code
def yX1_howMany : MethodName := ⟨RX1, "howMany", "(II)I"⟩
abbrev cX1_colour : ByteArray := prog_3_method_9_code
def yX1_colour : MethodName := ⟨RX1, "colour", "(II)I"⟩
abbrev cX1_isDead : ByteArray := prog_3_method_10_code
def yX1_isDead : MethodName := ⟨RX1, "isDead", "(I)Z"⟩
abbrev cX1_verdictOf : ByteArray := prog_3_method_11_code
def yX1_verdictOf : MethodName := ⟨RX1, "verdictOf", "(IIZ)I"⟩
abbrev cX1_add : ByteArray := prog_3_method_12_code
def yX1_add : MethodName := ⟨RX1, "add", "(IIZI)I"⟩
abbrev cX1_begin : ByteArray := prog_3_method_13_code
def yX1_begin : MethodName := ⟨RX1, "begin", "(IIZI)I"⟩
abbrev cX1_next : ByteArray := prog_3_method_14_code
def yX1_next : MethodName := ⟨RX1, "next", "(IIZZ)I"⟩
abbrev cX1_back : ByteArray := prog_3_method_15_code
def yX1_back : MethodName := ⟨RX1, "back", "()Z"⟩
abbrev cX1_verdict : ByteArray := prog_3_method_16_code
def yX1_verdict : MethodName := ⟨RX1, "verdict", "()I"⟩
abbrev cX1_isIn : ByteArray := prog_3_method_17_code
def yX1_isIn : MethodName := ⟨RX1, "isIn", "(I)Z"⟩
abbrev cX1_of : ByteArray := prog_3_method_18_code
def yX1_of : MethodName := ⟨RX1, "of", "(II)I"⟩
abbrev cX1_men : ByteArray := prog_3_method_19_code
def yX1_men : MethodName := ⟨RX1, "men", "(II)J"⟩
abbrev cX1_times : ByteArray := prog_3_method_20_code
def yX1_times : MethodName := ⟨RX1, "times", "(I)I"⟩
abbrev cX1_look : ByteArray := prog_3_method_21_code
def yX1_look : MethodName := ⟨RX1, "look", "(I)I"⟩
def RJ9 : String := "java/lang/Math"
def TJ9 : u_T := fun k => match k with
  | _ => ("", "", "", false)
def tyJ9 : Nat → FieldType := fun k => match k with
  | _ => .int
abbrev wsJ90 : List Cond := u_ws RJ9 TJ9 0
theorem nmJ9 : ∀ a, a < 0 → ∀ b, b < 0 → a ≠ b → (TJ9 a).2.1 ≠ (TJ9 b).2.1 := by decide +kernel
theorem tyJ9_ok : ∀ k, k < 0 → parseFieldDescriptor (TJ9 k).2.2.1 = some (tyJ9 k) := by decide +kernel
abbrev cJ9_max_7cf53 : ByteArray := prog_8_method_65_code
def yJ9_max_7cf53 : MethodName := ⟨RJ9, "max", "(II)I"⟩
def RJ0 : String := "java/lang/String"
def TJ0 : u_T := fun k => match k with
  | _ => ("", "", "", false)
def tyJ0 : Nat → FieldType := fun k => match k with
  | _ => .int
abbrev wsJ00 : List Cond := u_ws RJ0 TJ0 0
theorem nmJ0 : ∀ a, a < 0 → ∀ b, b < 0 → a ≠ b → (TJ0 a).2.1 ≠ (TJ0 b).2.1 := by decide +kernel
theorem tyJ0_ok : ∀ k, k < 0 → parseFieldDescriptor (TJ0 k).2.2.1 = some (tyJ0 k) := by decide +kernel
def RJ10 : String := "java/lang/System"
def TJ10 : u_T := fun k => match k with
  | _ => ("", "", "", false)
def tyJ10 : Nat → FieldType := fun k => match k with
  | _ => .int
abbrev wsJ100 : List Cond := u_ws RJ10 TJ10 0
theorem nmJ10 : ∀ a, a < 0 → ∀ b, b < 0 → a ≠ b → (TJ10 a).2.1 ≠ (TJ10 b).2.1 := by decide +kernel
theorem tyJ10_ok : ∀ k, k < 0 → parseFieldDescriptor (TJ10 k).2.2.1 = some (tyJ10 k) := by decide +kernel
def RL : String := "GameArbiterLaw"
abbrev cL_begin : ByteArray := method_3_code
def yL_begin : MethodName := ⟨RL, "begin", "(LGameArbiter;IIZI[J)I"⟩
abbrev cL_next : ByteArray := method_4_code
def yL_next : MethodName := ⟨RL, "next", "(LGameArbiter;IIZZ[J)I"⟩
abbrev cL_of : ByteArray := method_5_code
def yL_of : MethodName := ⟨RL, "of", "(LGameArbiter;II[J)I"⟩
abbrev cL_men : ByteArray := method_6_code
def yL_men : MethodName := ⟨RL, "men", "(LGameArbiter;II[J)I"⟩
abbrev cL_times : ByteArray := method_7_code
def yL_times : MethodName := ⟨RL, "times", "(LGameArbiter;I[J)I"⟩
abbrev cL_law : ByteArray := code
def yL_law : MethodName := ⟨RL, "law", "([I)Z"⟩
def wsX0_init : List Cond := .code yX0_init cX0_init 1 none :: ([.methodLink RX0 1 objectInit, .instanceMethod objectInit, .code objectInit ⟨#[0xb1]⟩ 1 none, .arrayClass .long, .fieldLink RX0 9 "GameArbiter" "given" "[J", .fieldLink RX0 13 "GameArbiter" "told" "[J", .arrayClass .int, .fieldLink RX0 16 "GameArbiter" "facts" "[I", .fieldLink RX0 20 "GameArbiter" "positions" "I"] ++ wsX00)
def wsX0_isPart : List Cond := .code yX0_isPart cX0_isPart 1 (some .boolean) :: ([])
def wsX0_manOfPart : List Cond := .code yX0_manOfPart cX0_manOfPart 4 (some .int) :: ([])
def wsX0_areMen : List Cond := .code yX0_areMen cX0_areMen 3 (some .boolean) :: ([.methodLink RX0 93 yX0_manOfPart, .static yX0_manOfPart, .initialized RX0, .code yX0_manOfPart cX0_manOfPart 4 (some .int)])
def wsX0_squares : List Cond := .code yX0_squares cX0_squares 4 (some .boolean) :: ([.fieldLink RX0 9 "GameArbiter" "given" "[J", .methodLink RX0 24 yX0_isPart, .static yX0_isPart, .initialized RX0, .code yX0_isPart cX0_isPart 1 (some .boolean), .methodLink RX0 28 yX0_areMen, .static yX0_areMen, .code yX0_areMen cX0_areMen 3 (some .boolean), .methodLink RX0 93 yX0_manOfPart, .static yX0_manOfPart, .code yX0_manOfPart cX0_manOfPart 4 (some .int)] ++ wsX00)
def wsX0_isState : List Cond := .code yX0_isState cX0_isState 2 (some .boolean) :: ([])
def wsX0_isMoves : List Cond := .code yX0_isMoves cX0_isMoves 1 (some .boolean) :: ([])
def wsX0_isClock : List Cond := .code yX0_isClock cX0_isClock 1 (some .boolean) :: ([])
def wsX0_factOf : List Cond := .code yX0_factOf cX0_factOf 3 (some .int) :: ([.fieldLink RX0 16 "GameArbiter" "facts" "[I"] ++ wsX00)
def wsX0_hasGivenSquares : List Cond := .code yX0_hasGivenSquares cX0_hasGivenSquares 3 (some .boolean) :: ([.fieldLink RX0 13 "GameArbiter" "told" "[J", .fieldLink RX0 9 "GameArbiter" "given" "[J"] ++ wsX00)
def wsX0_lastSame : List Cond := .code yX0_lastSame cX0_lastSame 3 (some .int) :: ([.fieldLink RX0 20 "GameArbiter" "positions" "I", .methodLink RX0 63 yX0_factOf, .instanceMethod yX0_factOf, .selects RX0 yX0_factOf yX0_factOf, .initialized RX0, .code yX0_factOf cX0_factOf 3 (some .int), .fieldLink RX0 16 "GameArbiter" "facts" "[I", .methodLink RX0 113 yX0_hasGivenSquares, .instanceMethod yX0_hasGivenSquares, .selects RX0 yX0_hasGivenSquares yX0_hasGivenSquares, .code yX0_hasGivenSquares cX0_hasGivenSquares 3 (some .boolean), .fieldLink RX0 13 "GameArbiter" "told" "[J", .fieldLink RX0 9 "GameArbiter" "given" "[J"] ++ wsX00)
def wsX0_isPosition : List Cond := .code yX0_isPosition cX0_isPosition 2 (some .boolean) :: ([.fieldLink RX0 20 "GameArbiter" "positions" "I"] ++ wsX00)
def wsX0_countUpTo : List Cond := .code yX0_countUpTo cX0_countUpTo 2 (some .int) :: ([.methodLink RX0 67 yX0_isPosition, .instanceMethod yX0_isPosition, .selects RX0 yX0_isPosition yX0_isPosition, .initialized RX0, .code yX0_isPosition cX0_isPosition 2 (some .boolean), .fieldLink RX0 20 "GameArbiter" "positions" "I", .methodLink RX0 63 yX0_factOf, .instanceMethod yX0_factOf, .selects RX0 yX0_factOf yX0_factOf, .code yX0_factOf cX0_factOf 3 (some .int), .fieldLink RX0 16 "GameArbiter" "facts" "[I"] ++ wsX00)
def wsX0_manGiven : List Cond := .code yX0_manGiven cX0_manGiven 2 (some .int) :: ([.fieldLink RX0 9 "GameArbiter" "given" "[J", .methodLink RX0 93 yX0_manOfPart, .static yX0_manOfPart, .initialized RX0, .code yX0_manOfPart cX0_manOfPart 4 (some .int)] ++ wsX00)
def wsX0_countGiven : List Cond := .code yX0_countGiven cX0_countGiven 4 (some .int) :: ([.methodLink RX0 122 yX0_manGiven, .instanceMethod yX0_manGiven, .selects RX0 yX0_manGiven yX0_manGiven, .initialized RX0, .code yX0_manGiven cX0_manGiven 2 (some .int), .fieldLink RX0 9 "GameArbiter" "given" "[J", .methodLink RX0 93 yX0_manOfPart, .static yX0_manOfPart, .code yX0_manOfPart cX0_manOfPart 4 (some .int)] ++ wsX00)
def wsX0_firstSquareGiven : List Cond := .code yX0_firstSquareGiven cX0_firstSquareGiven 3 (some .int) :: ([.methodLink RX0 122 yX0_manGiven, .instanceMethod yX0_manGiven, .selects RX0 yX0_manGiven yX0_manGiven, .initialized RX0, .code yX0_manGiven cX0_manGiven 2 (some .int), .fieldLink RX0 9 "GameArbiter" "given" "[J", .methodLink RX0 93 yX0_manOfPart, .static yX0_manOfPart, .code yX0_manOfPart cX0_manOfPart 4 (some .int)] ++ wsX00)
def wsX0_colourOf : List Cond := .code yX0_colourOf cX0_colourOf 3 (some .int) :: ([])
def wsX0_isGivenDead : List Cond := .code yX0_isGivenDead cX0_isGivenDead 4 (some .boolean) :: ([.methodLink RX0 97 yX0_countGiven, .instanceMethod yX0_countGiven, .selects RX0 yX0_countGiven yX0_countGiven, .initialized RX0, .code yX0_countGiven cX0_countGiven 4 (some .int), .methodLink RX0 122 yX0_manGiven, .instanceMethod yX0_manGiven, .selects RX0 yX0_manGiven yX0_manGiven, .code yX0_manGiven cX0_manGiven 2 (some .int), .fieldLink RX0 9 "GameArbiter" "given" "[J", .methodLink RX0 93 yX0_manOfPart, .static yX0_manOfPart, .code yX0_manOfPart cX0_manOfPart 4 (some .int), .methodLink RX0 116 yX0_firstSquareGiven, .instanceMethod yX0_firstSquareGiven, .selects RX0 yX0_firstSquareGiven yX0_firstSquareGiven, .code yX0_firstSquareGiven cX0_firstSquareGiven 3 (some .int), .methodLink RX0 119 yX0_colourOf, .static yX0_colourOf, .code yX0_colourOf cX0_colourOf 3 (some .int)] ++ wsX00)
def wsX0_judge : List Cond := .code yX0_judge cX0_judge 5 (some .int) :: ([])
def wsX0_append_r1 : List Cond := [Cond.fieldLink RX0 20 "GameArbiter" "positions" "I", Cond.fieldLink RX0 16 "GameArbiter" "facts" "[I", Cond.fieldLink RX0 9 "GameArbiter" "given" "[J", Cond.fieldLink RX0 13 "GameArbiter" "told" "[J", Cond.methodLink RX0 107 arraycopyName, Cond.native arraycopyName, Cond.static arraycopyName, Cond.initialized "java/lang/System", Cond.methodLink RX0 79 yX0_lastSame, Cond.instanceMethod yX0_lastSame, Cond.selects RX0 yX0_lastSame yX0_lastSame, Cond.initialized RX0, Cond.code yX0_lastSame cX0_lastSame 3 (some .int), Cond.methodLink RX0 63 yX0_factOf, Cond.instanceMethod yX0_factOf, Cond.selects RX0 yX0_factOf yX0_factOf, Cond.code yX0_factOf cX0_factOf 3 (some .int), Cond.methodLink RX0 113 yX0_hasGivenSquares, Cond.instanceMethod yX0_hasGivenSquares, Cond.selects RX0 yX0_hasGivenSquares yX0_hasGivenSquares, Cond.code yX0_hasGivenSquares cX0_hasGivenSquares 3 (some .boolean), Cond.methodLink RX0 83 yX0_countUpTo, Cond.instanceMethod yX0_countUpTo, Cond.selects RX0 yX0_countUpTo yX0_countUpTo]
def wsX0_append_r2 : List Cond := [Cond.code yX0_countUpTo cX0_countUpTo 2 (some .int), Cond.methodLink RX0 67 yX0_isPosition, Cond.instanceMethod yX0_isPosition, Cond.selects RX0 yX0_isPosition yX0_isPosition, Cond.code yX0_isPosition cX0_isPosition 2 (some .boolean), Cond.methodLink RX0 97 yX0_countGiven, Cond.instanceMethod yX0_countGiven, Cond.selects RX0 yX0_countGiven yX0_countGiven, Cond.code yX0_countGiven cX0_countGiven 4 (some .int), Cond.methodLink RX0 122 yX0_manGiven, Cond.instanceMethod yX0_manGiven, Cond.selects RX0 yX0_manGiven yX0_manGiven, Cond.code yX0_manGiven cX0_manGiven 2 (some .int), Cond.methodLink RX0 93 yX0_manOfPart, Cond.static yX0_manOfPart, Cond.code yX0_manOfPart cX0_manOfPart 4 (some .int), Cond.methodLink RX0 100 yX0_isGivenDead, Cond.instanceMethod yX0_isGivenDead, Cond.selects RX0 yX0_isGivenDead yX0_isGivenDead, Cond.code yX0_isGivenDead cX0_isGivenDead 4 (some .boolean), Cond.methodLink RX0 116 yX0_firstSquareGiven, Cond.instanceMethod yX0_firstSquareGiven, Cond.selects RX0 yX0_firstSquareGiven yX0_firstSquareGiven, Cond.code yX0_firstSquareGiven cX0_firstSquareGiven 3 (some .int)]
def wsX0_append_r3 : List Cond := [Cond.methodLink RX0 119 yX0_colourOf, Cond.static yX0_colourOf, Cond.code yX0_colourOf cX0_colourOf 3 (some .int), Cond.methodLink RX0 103 yX0_judge, Cond.static yX0_judge, Cond.code yX0_judge cX0_judge 5 (some .int)]
def wsX0_append : List Cond := .code yX0_append cX0_append 12 (some .int) :: ((wsX0_append_r1 ++ (wsX0_append_r2 ++ wsX0_append_r3)) ++ wsX00)
def wsX0_begin_r1 : List Cond := [Cond.classLink RX0 41 "java/lang/IllegalArgumentException", Cond.initialized "java/lang/IllegalArgumentException", Cond.fieldLink RX0 20 "GameArbiter" "positions" "I", Cond.methodLink RX0 32 yX0_isState, Cond.static yX0_isState, Cond.initialized RX0, Cond.code yX0_isState cX0_isState 2 (some .boolean), Cond.methodLink RX0 35 yX0_isMoves, Cond.static yX0_isMoves, Cond.code yX0_isMoves cX0_isMoves 1 (some .boolean), Cond.methodLink RX0 38 yX0_isClock, Cond.static yX0_isClock, Cond.code yX0_isClock cX0_isClock 1 (some .boolean), Cond.methodLink RX0 48 yX0_append, Cond.instanceMethod yX0_append, Cond.selects RX0 yX0_append yX0_append, Cond.code yX0_append cX0_append 12 (some .int), Cond.fieldLink RX0 16 "GameArbiter" "facts" "[I", Cond.fieldLink RX0 9 "GameArbiter" "given" "[J", Cond.fieldLink RX0 13 "GameArbiter" "told" "[J", Cond.methodLink RX0 107 arraycopyName, Cond.native arraycopyName, Cond.static arraycopyName, Cond.initialized "java/lang/System"]
def wsX0_begin_r2 : List Cond := [Cond.methodLink RX0 79 yX0_lastSame, Cond.instanceMethod yX0_lastSame, Cond.selects RX0 yX0_lastSame yX0_lastSame, Cond.code yX0_lastSame cX0_lastSame 3 (some .int), Cond.methodLink RX0 63 yX0_factOf, Cond.instanceMethod yX0_factOf, Cond.selects RX0 yX0_factOf yX0_factOf, Cond.code yX0_factOf cX0_factOf 3 (some .int), Cond.methodLink RX0 113 yX0_hasGivenSquares, Cond.instanceMethod yX0_hasGivenSquares, Cond.selects RX0 yX0_hasGivenSquares yX0_hasGivenSquares, Cond.code yX0_hasGivenSquares cX0_hasGivenSquares 3 (some .boolean), Cond.methodLink RX0 83 yX0_countUpTo, Cond.instanceMethod yX0_countUpTo, Cond.selects RX0 yX0_countUpTo yX0_countUpTo, Cond.code yX0_countUpTo cX0_countUpTo 2 (some .int), Cond.methodLink RX0 67 yX0_isPosition, Cond.instanceMethod yX0_isPosition, Cond.selects RX0 yX0_isPosition yX0_isPosition, Cond.code yX0_isPosition cX0_isPosition 2 (some .boolean), Cond.methodLink RX0 97 yX0_countGiven, Cond.instanceMethod yX0_countGiven, Cond.selects RX0 yX0_countGiven yX0_countGiven, Cond.code yX0_countGiven cX0_countGiven 4 (some .int)]
def wsX0_begin_r3 : List Cond := [Cond.methodLink RX0 122 yX0_manGiven, Cond.instanceMethod yX0_manGiven, Cond.selects RX0 yX0_manGiven yX0_manGiven, Cond.code yX0_manGiven cX0_manGiven 2 (some .int), Cond.methodLink RX0 93 yX0_manOfPart, Cond.static yX0_manOfPart, Cond.code yX0_manOfPart cX0_manOfPart 4 (some .int), Cond.methodLink RX0 100 yX0_isGivenDead, Cond.instanceMethod yX0_isGivenDead, Cond.selects RX0 yX0_isGivenDead yX0_isGivenDead, Cond.code yX0_isGivenDead cX0_isGivenDead 4 (some .boolean), Cond.methodLink RX0 116 yX0_firstSquareGiven, Cond.instanceMethod yX0_firstSquareGiven, Cond.selects RX0 yX0_firstSquareGiven yX0_firstSquareGiven, Cond.code yX0_firstSquareGiven cX0_firstSquareGiven 3 (some .int), Cond.methodLink RX0 119 yX0_colourOf, Cond.static yX0_colourOf, Cond.code yX0_colourOf cX0_colourOf 3 (some .int), Cond.methodLink RX0 103 yX0_judge, Cond.static yX0_judge, Cond.code yX0_judge cX0_judge 5 (some .int)]
def wsX0_begin : List Cond := .code yX0_begin cX0_begin 5 (some .int) :: ((wsX0_begin_r1 ++ (wsX0_begin_r2 ++ wsX0_begin_r3)) ++ wsX00 ++ (vx_atS RX0 45 "java/lang/IllegalArgumentException" ["java/lang/RuntimeException", "java/lang/Exception"]).filter goodWord)
def wsX0_takesAnother : List Cond := .code yX0_takesAnother cX0_takesAnother 2 (some .boolean) :: ([.fieldLink RX0 20 "GameArbiter" "positions" "I", .methodLink RX0 63 yX0_factOf, .instanceMethod yX0_factOf, .selects RX0 yX0_factOf yX0_factOf, .initialized RX0, .code yX0_factOf cX0_factOf 3 (some .int), .fieldLink RX0 16 "GameArbiter" "facts" "[I"] ++ wsX00)
def wsX0_next_r1 : List Cond := [Cond.classLink RX0 56 "java/lang/IllegalStateException", Cond.initialized "java/lang/IllegalStateException", Cond.classLink RX0 41 "java/lang/IllegalArgumentException", Cond.initialized "java/lang/IllegalArgumentException", Cond.fieldLink RX0 20 "GameArbiter" "positions" "I", Cond.methodLink RX0 52 yX0_takesAnother, Cond.instanceMethod yX0_takesAnother, Cond.selects RX0 yX0_takesAnother yX0_takesAnother, Cond.initialized RX0, Cond.code yX0_takesAnother cX0_takesAnother 2 (some .boolean), Cond.methodLink RX0 63 yX0_factOf, Cond.instanceMethod yX0_factOf, Cond.selects RX0 yX0_factOf yX0_factOf, Cond.code yX0_factOf cX0_factOf 3 (some .int), Cond.fieldLink RX0 16 "GameArbiter" "facts" "[I", Cond.methodLink RX0 32 yX0_isState, Cond.static yX0_isState, Cond.code yX0_isState cX0_isState 2 (some .boolean), Cond.methodLink RX0 35 yX0_isMoves, Cond.static yX0_isMoves, Cond.code yX0_isMoves cX0_isMoves 1 (some .boolean), Cond.methodLink RX0 48 yX0_append, Cond.instanceMethod yX0_append, Cond.selects RX0 yX0_append yX0_append]
def wsX0_next_r2 : List Cond := [Cond.code yX0_append cX0_append 12 (some .int), Cond.fieldLink RX0 9 "GameArbiter" "given" "[J", Cond.fieldLink RX0 13 "GameArbiter" "told" "[J", Cond.methodLink RX0 107 arraycopyName, Cond.native arraycopyName, Cond.static arraycopyName, Cond.initialized "java/lang/System", Cond.methodLink RX0 79 yX0_lastSame, Cond.instanceMethod yX0_lastSame, Cond.selects RX0 yX0_lastSame yX0_lastSame, Cond.code yX0_lastSame cX0_lastSame 3 (some .int), Cond.methodLink RX0 113 yX0_hasGivenSquares, Cond.instanceMethod yX0_hasGivenSquares, Cond.selects RX0 yX0_hasGivenSquares yX0_hasGivenSquares, Cond.code yX0_hasGivenSquares cX0_hasGivenSquares 3 (some .boolean), Cond.methodLink RX0 83 yX0_countUpTo, Cond.instanceMethod yX0_countUpTo, Cond.selects RX0 yX0_countUpTo yX0_countUpTo, Cond.code yX0_countUpTo cX0_countUpTo 2 (some .int), Cond.methodLink RX0 67 yX0_isPosition, Cond.instanceMethod yX0_isPosition, Cond.selects RX0 yX0_isPosition yX0_isPosition, Cond.code yX0_isPosition cX0_isPosition 2 (some .boolean), Cond.methodLink RX0 97 yX0_countGiven]
def wsX0_next_r3 : List Cond := [Cond.instanceMethod yX0_countGiven, Cond.selects RX0 yX0_countGiven yX0_countGiven, Cond.code yX0_countGiven cX0_countGiven 4 (some .int), Cond.methodLink RX0 122 yX0_manGiven, Cond.instanceMethod yX0_manGiven, Cond.selects RX0 yX0_manGiven yX0_manGiven, Cond.code yX0_manGiven cX0_manGiven 2 (some .int), Cond.methodLink RX0 93 yX0_manOfPart, Cond.static yX0_manOfPart, Cond.code yX0_manOfPart cX0_manOfPart 4 (some .int), Cond.methodLink RX0 100 yX0_isGivenDead, Cond.instanceMethod yX0_isGivenDead, Cond.selects RX0 yX0_isGivenDead yX0_isGivenDead, Cond.code yX0_isGivenDead cX0_isGivenDead 4 (some .boolean), Cond.methodLink RX0 116 yX0_firstSquareGiven, Cond.instanceMethod yX0_firstSquareGiven, Cond.selects RX0 yX0_firstSquareGiven yX0_firstSquareGiven, Cond.code yX0_firstSquareGiven cX0_firstSquareGiven 3 (some .int), Cond.methodLink RX0 119 yX0_colourOf, Cond.static yX0_colourOf, Cond.code yX0_colourOf cX0_colourOf 3 (some .int), Cond.methodLink RX0 103 yX0_judge, Cond.static yX0_judge, Cond.code yX0_judge cX0_judge 5 (some .int)]
def wsX0_next : List Cond := .code yX0_next cX0_next 6 (some .int) :: ((wsX0_next_r1 ++ (wsX0_next_r2 ++ wsX0_next_r3)) ++ wsX00 ++ (vx_atS RX0 60 "java/lang/IllegalStateException" ["java/lang/RuntimeException", "java/lang/Exception"]).filter goodWord ++ (vx_atS RX0 45 "java/lang/IllegalArgumentException" ["java/lang/RuntimeException", "java/lang/Exception"]).filter goodWord)
def wsX0_back : List Cond := .code yX0_back cX0_back 1 (some .boolean) :: ([.fieldLink RX0 20 "GameArbiter" "positions" "I"] ++ wsX00)
def wsX0_verdict : List Cond := .code yX0_verdict cX0_verdict 1 (some .int) :: ([.fieldLink RX0 20 "GameArbiter" "positions" "I", .methodLink RX0 63 yX0_factOf, .instanceMethod yX0_factOf, .selects RX0 yX0_factOf yX0_factOf, .initialized RX0, .code yX0_factOf cX0_factOf 3 (some .int), .fieldLink RX0 16 "GameArbiter" "facts" "[I"] ++ wsX00)
def wsX0_of : List Cond := .code yX0_of cX0_of 3 (some .int) :: ([.classLink RX0 70 "java/lang/IndexOutOfBoundsException", .initialized "java/lang/IndexOutOfBoundsException", .methodLink RX0 67 yX0_isPosition, .instanceMethod yX0_isPosition, .selects RX0 yX0_isPosition yX0_isPosition, .initialized RX0, .code yX0_isPosition cX0_isPosition 2 (some .boolean), .fieldLink RX0 20 "GameArbiter" "positions" "I", .methodLink RX0 63 yX0_factOf, .instanceMethod yX0_factOf, .selects RX0 yX0_factOf yX0_factOf, .code yX0_factOf cX0_factOf 3 (some .int), .fieldLink RX0 16 "GameArbiter" "facts" "[I"] ++ wsX00 ++ (vx_atS RX0 74 "java/lang/IndexOutOfBoundsException" ["java/lang/RuntimeException", "java/lang/Exception"]).filter goodWord)
def wsX0_men : List Cond := .code yX0_men cX0_men 3 (some .long) :: ([.classLink RX0 70 "java/lang/IndexOutOfBoundsException", .initialized "java/lang/IndexOutOfBoundsException", .fieldLink RX0 13 "GameArbiter" "told" "[J", .methodLink RX0 67 yX0_isPosition, .instanceMethod yX0_isPosition, .selects RX0 yX0_isPosition yX0_isPosition, .initialized RX0, .code yX0_isPosition cX0_isPosition 2 (some .boolean), .fieldLink RX0 20 "GameArbiter" "positions" "I", .methodLink RX0 24 yX0_isPart, .static yX0_isPart, .code yX0_isPart cX0_isPart 1 (some .boolean)] ++ wsX00 ++ (vx_atS RX0 74 "java/lang/IndexOutOfBoundsException" ["java/lang/RuntimeException", "java/lang/Exception"]).filter goodWord)
def wsX0_times_r1 : List Cond := [Cond.classLink RX0 41 "java/lang/IllegalArgumentException", Cond.initialized "java/lang/IllegalArgumentException", Cond.methodLink RX0 32 yX0_isState, Cond.static yX0_isState, Cond.initialized RX0, Cond.code yX0_isState cX0_isState 2 (some .boolean), Cond.methodLink RX0 79 yX0_lastSame, Cond.instanceMethod yX0_lastSame, Cond.selects RX0 yX0_lastSame yX0_lastSame, Cond.code yX0_lastSame cX0_lastSame 3 (some .int), Cond.fieldLink RX0 20 "GameArbiter" "positions" "I", Cond.methodLink RX0 63 yX0_factOf, Cond.instanceMethod yX0_factOf, Cond.selects RX0 yX0_factOf yX0_factOf, Cond.code yX0_factOf cX0_factOf 3 (some .int), Cond.fieldLink RX0 16 "GameArbiter" "facts" "[I", Cond.methodLink RX0 113 yX0_hasGivenSquares, Cond.instanceMethod yX0_hasGivenSquares, Cond.selects RX0 yX0_hasGivenSquares yX0_hasGivenSquares, Cond.code yX0_hasGivenSquares cX0_hasGivenSquares 3 (some .boolean), Cond.fieldLink RX0 13 "GameArbiter" "told" "[J", Cond.fieldLink RX0 9 "GameArbiter" "given" "[J", Cond.methodLink RX0 83 yX0_countUpTo, Cond.instanceMethod yX0_countUpTo]
def wsX0_times_r2 : List Cond := [Cond.selects RX0 yX0_countUpTo yX0_countUpTo, Cond.code yX0_countUpTo cX0_countUpTo 2 (some .int), Cond.methodLink RX0 67 yX0_isPosition, Cond.instanceMethod yX0_isPosition, Cond.selects RX0 yX0_isPosition yX0_isPosition, Cond.code yX0_isPosition cX0_isPosition 2 (some .boolean)]
def wsX0_times : List Cond := .code yX0_times cX0_times 2 (some .int) :: ((wsX0_times_r1 ++ wsX0_times_r2) ++ wsX00 ++ (vx_atS RX0 45 "java/lang/IllegalArgumentException" ["java/lang/RuntimeException", "java/lang/Exception"]).filter goodWord)
def wsX0_differentPositions : List Cond := .code yX0_differentPositions cX0_differentPositions 3 (some .int) :: ([.fieldLink RX0 20 "GameArbiter" "positions" "I", .methodLink RX0 63 yX0_factOf, .instanceMethod yX0_factOf, .selects RX0 yX0_factOf yX0_factOf, .initialized RX0, .code yX0_factOf cX0_factOf 3 (some .int), .fieldLink RX0 16 "GameArbiter" "facts" "[I"] ++ wsX00)
def wsX0_greatest : List Cond := .code yX0_greatest cX0_greatest 4 (some .int) :: ([.fieldLink RX0 20 "GameArbiter" "positions" "I", .methodLink RX0 125 Lib.Math.max.name, .static Lib.Math.max.name, .initialized "java/lang/Math", .code Lib.Math.max.name Lib.Math.max.code 2 (some .int), .methodLink RX0 63 yX0_factOf, .instanceMethod yX0_factOf, .selects RX0 yX0_factOf yX0_factOf, .initialized RX0, .code yX0_factOf cX0_factOf 3 (some .int), .fieldLink RX0 16 "GameArbiter" "facts" "[I"] ++ wsX00)
def wsX0_look : List Cond := .code yX0_look cX0_look 2 (some .int) :: ([.fieldLink RX0 20 "GameArbiter" "positions" "I", .methodLink RX0 86 yX0_differentPositions, .instanceMethod yX0_differentPositions, .selects RX0 yX0_differentPositions yX0_differentPositions, .initialized RX0, .code yX0_differentPositions cX0_differentPositions 3 (some .int), .methodLink RX0 63 yX0_factOf, .instanceMethod yX0_factOf, .selects RX0 yX0_factOf yX0_factOf, .code yX0_factOf cX0_factOf 3 (some .int), .fieldLink RX0 16 "GameArbiter" "facts" "[I", .methodLink RX0 90 yX0_greatest, .instanceMethod yX0_greatest, .selects RX0 yX0_greatest yX0_greatest, .code yX0_greatest cX0_greatest 4 (some .int), .methodLink RX0 125 Lib.Math.max.name, .static Lib.Math.max.name, .initialized "java/lang/Math", .code Lib.Math.max.name Lib.Math.max.code 2 (some .int)] ++ wsX00)
def wsX1_init : List Cond := .code yX1_init cX1_init 1 none :: ([.methodLink RX1 1 objectInit, .instanceMethod objectInit, .code objectInit ⟨#[0xb1]⟩ 1 none, .arrayClass .int, .fieldLink RX1 7 "GameArbiterModel" "next" "[I", .constant RX1 13 (40960), .fieldLink RX1 14 "GameArbiterModel" "men" "[I", .fieldLink RX1 17 "GameArbiterModel" "states" "[I", .fieldLink RX1 20 "GameArbiterModel" "clocks" "[I", .fieldLink RX1 23 "GameArbiterModel" "verdicts" "[I"] ++ wsX10)
def wsX1_thrown : List Cond := .code yX1_thrown cX1_thrown 1 (some .int) :: ([.fieldLink RX1 26 "GameArbiterModel" "thrown" "I"] ++ wsX10)
def wsX1_squares : List Cond := .code yX1_squares cX1_squares 5 (some .boolean) :: ([.fieldLink RX1 26 "GameArbiterModel" "thrown" "I", .constantLong RX1 30 (15), .constantLong RX1 32 (12), .fieldLink RX1 7 "GameArbiterModel" "next" "[I"] ++ wsX10)
def wsX1_isState : List Cond := .code yX1_isState cX1_isState 2 (some .boolean) :: ([])
def wsX1_isSame : List Cond := .code yX1_isSame cX1_isSame 5 (some .boolean) :: ([.fieldLink RX1 17 "GameArbiterModel" "states" "[I", .fieldLink RX1 14 "GameArbiterModel" "men" "[I"] ++ wsX10)
def wsX1_isNext : List Cond := .code yX1_isNext cX1_isNext 5 (some .boolean) :: ([.fieldLink RX1 17 "GameArbiterModel" "states" "[I", .fieldLink RX1 14 "GameArbiterModel" "men" "[I", .fieldLink RX1 7 "GameArbiterModel" "next" "[I"] ++ wsX10)
def wsX1_countOf : List Cond := .code yX1_countOf cX1_countOf 4 (some .int) :: ([.methodLink RX1 34 yX1_isSame, .instanceMethod yX1_isSame, .selects RX1 yX1_isSame yX1_isSame, .initialized RX1, .code yX1_isSame cX1_isSame 5 (some .boolean), .fieldLink RX1 17 "GameArbiterModel" "states" "[I", .fieldLink RX1 14 "GameArbiterModel" "men" "[I"] ++ wsX10)
def wsX1_howMany : List Cond := .code yX1_howMany cX1_howMany 5 (some .int) :: ([.fieldLink RX1 14 "GameArbiterModel" "men" "[I"] ++ wsX10)
def wsX1_colour : List Cond := .code yX1_colour cX1_colour 5 (some .int) :: ([.fieldLink RX1 14 "GameArbiterModel" "men" "[I"] ++ wsX10)
def wsX1_isDead : List Cond := .code yX1_isDead cX1_isDead 6 (some .boolean) :: ([.methodLink RX1 38 yX1_howMany, .instanceMethod yX1_howMany, .selects RX1 yX1_howMany yX1_howMany, .initialized RX1, .code yX1_howMany cX1_howMany 5 (some .int), .fieldLink RX1 14 "GameArbiterModel" "men" "[I", .methodLink RX1 42 yX1_colour, .instanceMethod yX1_colour, .selects RX1 yX1_colour yX1_colour, .code yX1_colour cX1_colour 5 (some .int)] ++ wsX10)
def wsX1_verdictOf : List Cond := .code yX1_verdictOf cX1_verdictOf 5 (some .int) :: ([.fieldLink RX1 20 "GameArbiterModel" "clocks" "[I", .methodLink RX1 45 yX1_countOf, .instanceMethod yX1_countOf, .selects RX1 yX1_countOf yX1_countOf, .initialized RX1, .code yX1_countOf cX1_countOf 4 (some .int), .methodLink RX1 34 yX1_isSame, .instanceMethod yX1_isSame, .selects RX1 yX1_isSame yX1_isSame, .code yX1_isSame cX1_isSame 5 (some .boolean), .fieldLink RX1 17 "GameArbiterModel" "states" "[I", .fieldLink RX1 14 "GameArbiterModel" "men" "[I", .methodLink RX1 49 yX1_isDead, .instanceMethod yX1_isDead, .selects RX1 yX1_isDead yX1_isDead, .code yX1_isDead cX1_isDead 6 (some .boolean), .methodLink RX1 38 yX1_howMany, .instanceMethod yX1_howMany, .selects RX1 yX1_howMany yX1_howMany, .code yX1_howMany cX1_howMany 5 (some .int), .methodLink RX1 42 yX1_colour, .instanceMethod yX1_colour, .selects RX1 yX1_colour yX1_colour, .code yX1_colour cX1_colour 5 (some .int)] ++ wsX10)
def wsX1_add_r1 : List Cond := [Cond.fieldLink RX1 14 "GameArbiterModel" "men" "[I", Cond.fieldLink RX1 53 "GameArbiterModel" "many" "I", Cond.fieldLink RX1 7 "GameArbiterModel" "next" "[I", Cond.fieldLink RX1 17 "GameArbiterModel" "states" "[I", Cond.fieldLink RX1 20 "GameArbiterModel" "clocks" "[I", Cond.fieldLink RX1 23 "GameArbiterModel" "verdicts" "[I", Cond.methodLink RX1 56 yX1_verdictOf, Cond.instanceMethod yX1_verdictOf, Cond.selects RX1 yX1_verdictOf yX1_verdictOf, Cond.initialized RX1, Cond.code yX1_verdictOf cX1_verdictOf 5 (some .int), Cond.methodLink RX1 45 yX1_countOf, Cond.instanceMethod yX1_countOf, Cond.selects RX1 yX1_countOf yX1_countOf, Cond.code yX1_countOf cX1_countOf 4 (some .int), Cond.methodLink RX1 34 yX1_isSame, Cond.instanceMethod yX1_isSame, Cond.selects RX1 yX1_isSame yX1_isSame, Cond.code yX1_isSame cX1_isSame 5 (some .boolean), Cond.methodLink RX1 49 yX1_isDead, Cond.instanceMethod yX1_isDead, Cond.selects RX1 yX1_isDead yX1_isDead, Cond.code yX1_isDead cX1_isDead 6 (some .boolean), Cond.methodLink RX1 38 yX1_howMany]
def wsX1_add_r2 : List Cond := [Cond.instanceMethod yX1_howMany, Cond.selects RX1 yX1_howMany yX1_howMany, Cond.code yX1_howMany cX1_howMany 5 (some .int), Cond.methodLink RX1 42 yX1_colour, Cond.instanceMethod yX1_colour, Cond.selects RX1 yX1_colour yX1_colour, Cond.code yX1_colour cX1_colour 5 (some .int)]
def wsX1_add : List Cond := .code yX1_add cX1_add 6 (some .int) :: ((wsX1_add_r1 ++ wsX1_add_r2) ++ wsX10)
def wsX1_begin_r1 : List Cond := [Cond.fieldLink RX1 26 "GameArbiterModel" "thrown" "I", Cond.fieldLink RX1 53 "GameArbiterModel" "many" "I", Cond.methodLink RX1 60 yX1_isState, Cond.static yX1_isState, Cond.initialized RX1, Cond.code yX1_isState cX1_isState 2 (some .boolean), Cond.methodLink RX1 63 yX1_add, Cond.instanceMethod yX1_add, Cond.selects RX1 yX1_add yX1_add, Cond.code yX1_add cX1_add 6 (some .int), Cond.fieldLink RX1 14 "GameArbiterModel" "men" "[I", Cond.fieldLink RX1 7 "GameArbiterModel" "next" "[I", Cond.fieldLink RX1 17 "GameArbiterModel" "states" "[I", Cond.fieldLink RX1 20 "GameArbiterModel" "clocks" "[I", Cond.fieldLink RX1 23 "GameArbiterModel" "verdicts" "[I", Cond.methodLink RX1 56 yX1_verdictOf, Cond.instanceMethod yX1_verdictOf, Cond.selects RX1 yX1_verdictOf yX1_verdictOf, Cond.code yX1_verdictOf cX1_verdictOf 5 (some .int), Cond.methodLink RX1 45 yX1_countOf, Cond.instanceMethod yX1_countOf, Cond.selects RX1 yX1_countOf yX1_countOf, Cond.code yX1_countOf cX1_countOf 4 (some .int), Cond.methodLink RX1 34 yX1_isSame]
def wsX1_begin_r2 : List Cond := [Cond.instanceMethod yX1_isSame, Cond.selects RX1 yX1_isSame yX1_isSame, Cond.code yX1_isSame cX1_isSame 5 (some .boolean), Cond.methodLink RX1 49 yX1_isDead, Cond.instanceMethod yX1_isDead, Cond.selects RX1 yX1_isDead yX1_isDead, Cond.code yX1_isDead cX1_isDead 6 (some .boolean), Cond.methodLink RX1 38 yX1_howMany, Cond.instanceMethod yX1_howMany, Cond.selects RX1 yX1_howMany yX1_howMany, Cond.code yX1_howMany cX1_howMany 5 (some .int), Cond.methodLink RX1 42 yX1_colour, Cond.instanceMethod yX1_colour, Cond.selects RX1 yX1_colour yX1_colour, Cond.code yX1_colour cX1_colour 5 (some .int)]
def wsX1_begin : List Cond := .code yX1_begin cX1_begin 5 (some .int) :: ((wsX1_begin_r1 ++ wsX1_begin_r2) ++ wsX10)
def wsX1_next_r1 : List Cond := [Cond.fieldLink RX1 53 "GameArbiterModel" "many" "I", Cond.fieldLink RX1 23 "GameArbiterModel" "verdicts" "[I", Cond.fieldLink RX1 26 "GameArbiterModel" "thrown" "I", Cond.fieldLink RX1 20 "GameArbiterModel" "clocks" "[I", Cond.methodLink RX1 60 yX1_isState, Cond.static yX1_isState, Cond.initialized RX1, Cond.code yX1_isState cX1_isState 2 (some .boolean), Cond.methodLink RX1 63 yX1_add, Cond.instanceMethod yX1_add, Cond.selects RX1 yX1_add yX1_add, Cond.code yX1_add cX1_add 6 (some .int), Cond.fieldLink RX1 14 "GameArbiterModel" "men" "[I", Cond.fieldLink RX1 7 "GameArbiterModel" "next" "[I", Cond.fieldLink RX1 17 "GameArbiterModel" "states" "[I", Cond.methodLink RX1 56 yX1_verdictOf, Cond.instanceMethod yX1_verdictOf, Cond.selects RX1 yX1_verdictOf yX1_verdictOf, Cond.code yX1_verdictOf cX1_verdictOf 5 (some .int), Cond.methodLink RX1 45 yX1_countOf, Cond.instanceMethod yX1_countOf, Cond.selects RX1 yX1_countOf yX1_countOf, Cond.code yX1_countOf cX1_countOf 4 (some .int), Cond.methodLink RX1 34 yX1_isSame]
def wsX1_next_r2 : List Cond := [Cond.instanceMethod yX1_isSame, Cond.selects RX1 yX1_isSame yX1_isSame, Cond.code yX1_isSame cX1_isSame 5 (some .boolean), Cond.methodLink RX1 49 yX1_isDead, Cond.instanceMethod yX1_isDead, Cond.selects RX1 yX1_isDead yX1_isDead, Cond.code yX1_isDead cX1_isDead 6 (some .boolean), Cond.methodLink RX1 38 yX1_howMany, Cond.instanceMethod yX1_howMany, Cond.selects RX1 yX1_howMany yX1_howMany, Cond.code yX1_howMany cX1_howMany 5 (some .int), Cond.methodLink RX1 42 yX1_colour, Cond.instanceMethod yX1_colour, Cond.selects RX1 yX1_colour yX1_colour, Cond.code yX1_colour cX1_colour 5 (some .int)]
def wsX1_next : List Cond := .code yX1_next cX1_next 6 (some .int) :: ((wsX1_next_r1 ++ wsX1_next_r2) ++ wsX10)
def wsX1_back : List Cond := .code yX1_back cX1_back 1 (some .boolean) :: ([.fieldLink RX1 26 "GameArbiterModel" "thrown" "I", .fieldLink RX1 53 "GameArbiterModel" "many" "I"] ++ wsX10)
def wsX1_verdict : List Cond := .code yX1_verdict cX1_verdict 1 (some .int) :: ([.fieldLink RX1 26 "GameArbiterModel" "thrown" "I", .fieldLink RX1 53 "GameArbiterModel" "many" "I", .fieldLink RX1 23 "GameArbiterModel" "verdicts" "[I"] ++ wsX10)
def wsX1_isIn : List Cond := .code yX1_isIn cX1_isIn 2 (some .boolean) :: ([.fieldLink RX1 53 "GameArbiterModel" "many" "I"] ++ wsX10)
def wsX1_of_r1 : List Cond := [Cond.fieldLink RX1 26 "GameArbiterModel" "thrown" "I", Cond.fieldLink RX1 20 "GameArbiterModel" "clocks" "[I", Cond.fieldLink RX1 23 "GameArbiterModel" "verdicts" "[I", Cond.fieldLink RX1 17 "GameArbiterModel" "states" "[I", Cond.methodLink RX1 67 yX1_isIn, Cond.instanceMethod yX1_isIn, Cond.selects RX1 yX1_isIn yX1_isIn, Cond.initialized RX1, Cond.code yX1_isIn cX1_isIn 2 (some .boolean), Cond.fieldLink RX1 53 "GameArbiterModel" "many" "I", Cond.methodLink RX1 34 yX1_isSame, Cond.instanceMethod yX1_isSame, Cond.selects RX1 yX1_isSame yX1_isSame, Cond.code yX1_isSame cX1_isSame 5 (some .boolean), Cond.fieldLink RX1 14 "GameArbiterModel" "men" "[I", Cond.methodLink RX1 45 yX1_countOf, Cond.instanceMethod yX1_countOf, Cond.selects RX1 yX1_countOf yX1_countOf, Cond.code yX1_countOf cX1_countOf 4 (some .int), Cond.methodLink RX1 49 yX1_isDead, Cond.instanceMethod yX1_isDead, Cond.selects RX1 yX1_isDead yX1_isDead, Cond.code yX1_isDead cX1_isDead 6 (some .boolean), Cond.methodLink RX1 38 yX1_howMany]
def wsX1_of_r2 : List Cond := [Cond.instanceMethod yX1_howMany, Cond.selects RX1 yX1_howMany yX1_howMany, Cond.code yX1_howMany cX1_howMany 5 (some .int), Cond.methodLink RX1 42 yX1_colour, Cond.instanceMethod yX1_colour, Cond.selects RX1 yX1_colour yX1_colour, Cond.code yX1_colour cX1_colour 5 (some .int)]
def wsX1_of : List Cond := .code yX1_of cX1_of 7 (some .int) :: ((wsX1_of_r1 ++ wsX1_of_r2) ++ wsX10)
def wsX1_men : List Cond := .code yX1_men cX1_men 6 (some .long) :: ([.fieldLink RX1 26 "GameArbiterModel" "thrown" "I", .fieldLink RX1 14 "GameArbiterModel" "men" "[I", .methodLink RX1 67 yX1_isIn, .instanceMethod yX1_isIn, .selects RX1 yX1_isIn yX1_isIn, .initialized RX1, .code yX1_isIn cX1_isIn 2 (some .boolean), .fieldLink RX1 53 "GameArbiterModel" "many" "I"] ++ wsX10)
def wsX1_times : List Cond := .code yX1_times cX1_times 4 (some .int) :: ([.fieldLink RX1 26 "GameArbiterModel" "thrown" "I", .fieldLink RX1 53 "GameArbiterModel" "many" "I", .methodLink RX1 60 yX1_isState, .static yX1_isState, .initialized RX1, .code yX1_isState cX1_isState 2 (some .boolean), .methodLink RX1 70 yX1_isNext, .instanceMethod yX1_isNext, .selects RX1 yX1_isNext yX1_isNext, .code yX1_isNext cX1_isNext 5 (some .boolean), .fieldLink RX1 17 "GameArbiterModel" "states" "[I", .fieldLink RX1 14 "GameArbiterModel" "men" "[I", .fieldLink RX1 7 "GameArbiterModel" "next" "[I"] ++ wsX10)
def wsX1_look : List Cond := .code yX1_look cX1_look 7 (some .int) :: ([.fieldLink RX1 26 "GameArbiterModel" "thrown" "I", .fieldLink RX1 53 "GameArbiterModel" "many" "I", .fieldLink RX1 20 "GameArbiterModel" "clocks" "[I", .methodLink RX1 45 yX1_countOf, .instanceMethod yX1_countOf, .selects RX1 yX1_countOf yX1_countOf, .initialized RX1, .code yX1_countOf cX1_countOf 4 (some .int), .methodLink RX1 34 yX1_isSame, .instanceMethod yX1_isSame, .selects RX1 yX1_isSame yX1_isSame, .code yX1_isSame cX1_isSame 5 (some .boolean), .fieldLink RX1 17 "GameArbiterModel" "states" "[I", .fieldLink RX1 14 "GameArbiterModel" "men" "[I"] ++ wsX10)
def wsJ9_max_7cf53 : List Cond := .code yJ9_max_7cf53 cJ9_max_7cf53 2 (some .int) :: ([])
def wsL_begin_r1 : List Cond := [Cond.classLink RL 13 "java/lang/IllegalArgumentException", Cond.methodLink RL 7 yX0_begin, Cond.instanceMethod yX0_begin, Cond.selects RX0 yX0_begin yX0_begin, Cond.initialized RX0, Cond.code yX0_begin cX0_begin 5 (some .int), Cond.classLink RX0 41 "java/lang/IllegalArgumentException", Cond.initialized "java/lang/IllegalArgumentException", Cond.fieldLink RX0 20 "GameArbiter" "positions" "I", Cond.methodLink RX0 32 yX0_isState, Cond.static yX0_isState, Cond.code yX0_isState cX0_isState 2 (some .boolean), Cond.methodLink RX0 35 yX0_isMoves, Cond.static yX0_isMoves, Cond.code yX0_isMoves cX0_isMoves 1 (some .boolean), Cond.methodLink RX0 38 yX0_isClock, Cond.static yX0_isClock, Cond.code yX0_isClock cX0_isClock 1 (some .boolean), Cond.methodLink RX0 48 yX0_append, Cond.instanceMethod yX0_append, Cond.selects RX0 yX0_append yX0_append, Cond.code yX0_append cX0_append 12 (some .int), Cond.fieldLink RX0 16 "GameArbiter" "facts" "[I", Cond.fieldLink RX0 9 "GameArbiter" "given" "[J"]
def wsL_begin_r2 : List Cond := [Cond.fieldLink RX0 13 "GameArbiter" "told" "[J", Cond.methodLink RX0 107 arraycopyName, Cond.native arraycopyName, Cond.static arraycopyName, Cond.initialized "java/lang/System", Cond.methodLink RX0 79 yX0_lastSame, Cond.instanceMethod yX0_lastSame, Cond.selects RX0 yX0_lastSame yX0_lastSame, Cond.code yX0_lastSame cX0_lastSame 3 (some .int), Cond.methodLink RX0 63 yX0_factOf, Cond.instanceMethod yX0_factOf, Cond.selects RX0 yX0_factOf yX0_factOf, Cond.code yX0_factOf cX0_factOf 3 (some .int), Cond.methodLink RX0 113 yX0_hasGivenSquares, Cond.instanceMethod yX0_hasGivenSquares, Cond.selects RX0 yX0_hasGivenSquares yX0_hasGivenSquares, Cond.code yX0_hasGivenSquares cX0_hasGivenSquares 3 (some .boolean), Cond.methodLink RX0 83 yX0_countUpTo, Cond.instanceMethod yX0_countUpTo, Cond.selects RX0 yX0_countUpTo yX0_countUpTo, Cond.code yX0_countUpTo cX0_countUpTo 2 (some .int), Cond.methodLink RX0 67 yX0_isPosition, Cond.instanceMethod yX0_isPosition, Cond.selects RX0 yX0_isPosition yX0_isPosition]
def wsL_begin_r3 : List Cond := [Cond.code yX0_isPosition cX0_isPosition 2 (some .boolean), Cond.methodLink RX0 97 yX0_countGiven, Cond.instanceMethod yX0_countGiven, Cond.selects RX0 yX0_countGiven yX0_countGiven, Cond.code yX0_countGiven cX0_countGiven 4 (some .int), Cond.methodLink RX0 122 yX0_manGiven, Cond.instanceMethod yX0_manGiven, Cond.selects RX0 yX0_manGiven yX0_manGiven, Cond.code yX0_manGiven cX0_manGiven 2 (some .int), Cond.methodLink RX0 93 yX0_manOfPart, Cond.static yX0_manOfPart, Cond.code yX0_manOfPart cX0_manOfPart 4 (some .int), Cond.methodLink RX0 100 yX0_isGivenDead, Cond.instanceMethod yX0_isGivenDead, Cond.selects RX0 yX0_isGivenDead yX0_isGivenDead, Cond.code yX0_isGivenDead cX0_isGivenDead 4 (some .boolean), Cond.methodLink RX0 116 yX0_firstSquareGiven, Cond.instanceMethod yX0_firstSquareGiven, Cond.selects RX0 yX0_firstSquareGiven yX0_firstSquareGiven, Cond.code yX0_firstSquareGiven cX0_firstSquareGiven 3 (some .int), Cond.methodLink RX0 119 yX0_colourOf, Cond.static yX0_colourOf, Cond.code yX0_colourOf cX0_colourOf 3 (some .int), Cond.methodLink RX0 103 yX0_judge]
def wsL_begin_r4 : List Cond := [Cond.static yX0_judge, Cond.code yX0_judge cX0_judge 5 (some .int)]
def wsL_begin : List Cond := .codeWith yL_begin cL_begin 7 (some .int) [(0, 14, 17, 13)] :: ((wsL_begin_r1 ++ (wsL_begin_r2 ++ (wsL_begin_r3 ++ wsL_begin_r4))) ++ wsX00 ++ (vx_atS RX0 45 "java/lang/IllegalArgumentException" ["java/lang/RuntimeException", "java/lang/Exception"]).filter goodWord)
def wsL_next_r1 : List Cond := [Cond.classLink RL 19 "java/lang/IllegalStateException", Cond.classLink RL 13 "java/lang/IllegalArgumentException", Cond.methodLink RL 15 yX0_next, Cond.instanceMethod yX0_next, Cond.selects RX0 yX0_next yX0_next, Cond.initialized RX0, Cond.code yX0_next cX0_next 6 (some .int), Cond.classLink RX0 56 "java/lang/IllegalStateException", Cond.initialized "java/lang/IllegalStateException", Cond.classLink RX0 41 "java/lang/IllegalArgumentException", Cond.initialized "java/lang/IllegalArgumentException", Cond.fieldLink RX0 20 "GameArbiter" "positions" "I", Cond.methodLink RX0 52 yX0_takesAnother, Cond.instanceMethod yX0_takesAnother, Cond.selects RX0 yX0_takesAnother yX0_takesAnother, Cond.code yX0_takesAnother cX0_takesAnother 2 (some .boolean), Cond.methodLink RX0 63 yX0_factOf, Cond.instanceMethod yX0_factOf, Cond.selects RX0 yX0_factOf yX0_factOf, Cond.code yX0_factOf cX0_factOf 3 (some .int), Cond.fieldLink RX0 16 "GameArbiter" "facts" "[I", Cond.methodLink RX0 32 yX0_isState, Cond.static yX0_isState, Cond.code yX0_isState cX0_isState 2 (some .boolean)]
def wsL_next_r2 : List Cond := [Cond.methodLink RX0 35 yX0_isMoves, Cond.static yX0_isMoves, Cond.code yX0_isMoves cX0_isMoves 1 (some .boolean), Cond.methodLink RX0 48 yX0_append, Cond.instanceMethod yX0_append, Cond.selects RX0 yX0_append yX0_append, Cond.code yX0_append cX0_append 12 (some .int), Cond.fieldLink RX0 9 "GameArbiter" "given" "[J", Cond.fieldLink RX0 13 "GameArbiter" "told" "[J", Cond.methodLink RX0 107 arraycopyName, Cond.native arraycopyName, Cond.static arraycopyName, Cond.initialized "java/lang/System", Cond.methodLink RX0 79 yX0_lastSame, Cond.instanceMethod yX0_lastSame, Cond.selects RX0 yX0_lastSame yX0_lastSame, Cond.code yX0_lastSame cX0_lastSame 3 (some .int), Cond.methodLink RX0 113 yX0_hasGivenSquares, Cond.instanceMethod yX0_hasGivenSquares, Cond.selects RX0 yX0_hasGivenSquares yX0_hasGivenSquares, Cond.code yX0_hasGivenSquares cX0_hasGivenSquares 3 (some .boolean), Cond.methodLink RX0 83 yX0_countUpTo, Cond.instanceMethod yX0_countUpTo, Cond.selects RX0 yX0_countUpTo yX0_countUpTo]
def wsL_next_r3 : List Cond := [Cond.code yX0_countUpTo cX0_countUpTo 2 (some .int), Cond.methodLink RX0 67 yX0_isPosition, Cond.instanceMethod yX0_isPosition, Cond.selects RX0 yX0_isPosition yX0_isPosition, Cond.code yX0_isPosition cX0_isPosition 2 (some .boolean), Cond.methodLink RX0 97 yX0_countGiven, Cond.instanceMethod yX0_countGiven, Cond.selects RX0 yX0_countGiven yX0_countGiven, Cond.code yX0_countGiven cX0_countGiven 4 (some .int), Cond.methodLink RX0 122 yX0_manGiven, Cond.instanceMethod yX0_manGiven, Cond.selects RX0 yX0_manGiven yX0_manGiven, Cond.code yX0_manGiven cX0_manGiven 2 (some .int), Cond.methodLink RX0 93 yX0_manOfPart, Cond.static yX0_manOfPart, Cond.code yX0_manOfPart cX0_manOfPart 4 (some .int), Cond.methodLink RX0 100 yX0_isGivenDead, Cond.instanceMethod yX0_isGivenDead, Cond.selects RX0 yX0_isGivenDead yX0_isGivenDead, Cond.code yX0_isGivenDead cX0_isGivenDead 4 (some .boolean), Cond.methodLink RX0 116 yX0_firstSquareGiven, Cond.instanceMethod yX0_firstSquareGiven, Cond.selects RX0 yX0_firstSquareGiven yX0_firstSquareGiven, Cond.code yX0_firstSquareGiven cX0_firstSquareGiven 3 (some .int)]
def wsL_next_r4 : List Cond := [Cond.methodLink RX0 119 yX0_colourOf, Cond.static yX0_colourOf, Cond.code yX0_colourOf cX0_colourOf 3 (some .int), Cond.methodLink RX0 103 yX0_judge, Cond.static yX0_judge, Cond.code yX0_judge cX0_judge 5 (some .int)]
def wsL_next : List Cond := .codeWith yL_next cL_next 7 (some .int) [(0, 14, 17, 19), (0, 14, 21, 13)] :: ((wsL_next_r1 ++ (wsL_next_r2 ++ (wsL_next_r3 ++ wsL_next_r4))) ++ wsX00 ++ (vx_atS RX0 60 "java/lang/IllegalStateException" ["java/lang/RuntimeException", "java/lang/Exception"]).filter goodWord ++ (vx_atS RX0 45 "java/lang/IllegalArgumentException" ["java/lang/RuntimeException", "java/lang/Exception"]).filter goodWord)
def wsL_of : List Cond := .codeWith yL_of cL_of 5 (some .int) [(0, 10, 13, 25)] :: ([.classLink RL 25 "java/lang/IndexOutOfBoundsException", .methodLink RL 21 yX0_of, .instanceMethod yX0_of, .selects RX0 yX0_of yX0_of, .initialized RX0, .code yX0_of cX0_of 3 (some .int), .classLink RX0 70 "java/lang/IndexOutOfBoundsException", .initialized "java/lang/IndexOutOfBoundsException", .methodLink RX0 67 yX0_isPosition, .instanceMethod yX0_isPosition, .selects RX0 yX0_isPosition yX0_isPosition, .code yX0_isPosition cX0_isPosition 2 (some .boolean), .fieldLink RX0 20 "GameArbiter" "positions" "I", .methodLink RX0 63 yX0_factOf, .instanceMethod yX0_factOf, .selects RX0 yX0_factOf yX0_factOf, .code yX0_factOf cX0_factOf 3 (some .int), .fieldLink RX0 16 "GameArbiter" "facts" "[I"] ++ wsX00 ++ (vx_atS RX0 74 "java/lang/IndexOutOfBoundsException" ["java/lang/RuntimeException", "java/lang/Exception"]).filter goodWord)
def wsL_men : List Cond := .codeWith yL_men cL_men 5 (some .int) [(0, 9, 12, 25)] :: ([.classLink RL 25 "java/lang/IndexOutOfBoundsException", .methodLink RL 27 yX0_men, .instanceMethod yX0_men, .selects RX0 yX0_men yX0_men, .initialized RX0, .code yX0_men cX0_men 3 (some .long), .classLink RX0 70 "java/lang/IndexOutOfBoundsException", .initialized "java/lang/IndexOutOfBoundsException", .fieldLink RX0 13 "GameArbiter" "told" "[J", .methodLink RX0 67 yX0_isPosition, .instanceMethod yX0_isPosition, .selects RX0 yX0_isPosition yX0_isPosition, .code yX0_isPosition cX0_isPosition 2 (some .boolean), .fieldLink RX0 20 "GameArbiter" "positions" "I", .methodLink RX0 24 yX0_isPart, .static yX0_isPart, .code yX0_isPart cX0_isPart 1 (some .boolean)] ++ wsX00 ++ (vx_atS RX0 74 "java/lang/IndexOutOfBoundsException" ["java/lang/RuntimeException", "java/lang/Exception"]).filter goodWord)
def wsL_times_r1 : List Cond := [Cond.classLink RL 13 "java/lang/IllegalArgumentException", Cond.methodLink RL 31 yX0_times, Cond.instanceMethod yX0_times, Cond.selects RX0 yX0_times yX0_times, Cond.initialized RX0, Cond.code yX0_times cX0_times 2 (some .int), Cond.classLink RX0 41 "java/lang/IllegalArgumentException", Cond.initialized "java/lang/IllegalArgumentException", Cond.methodLink RX0 32 yX0_isState, Cond.static yX0_isState, Cond.code yX0_isState cX0_isState 2 (some .boolean), Cond.methodLink RX0 79 yX0_lastSame, Cond.instanceMethod yX0_lastSame, Cond.selects RX0 yX0_lastSame yX0_lastSame, Cond.code yX0_lastSame cX0_lastSame 3 (some .int), Cond.fieldLink RX0 20 "GameArbiter" "positions" "I", Cond.methodLink RX0 63 yX0_factOf, Cond.instanceMethod yX0_factOf, Cond.selects RX0 yX0_factOf yX0_factOf, Cond.code yX0_factOf cX0_factOf 3 (some .int), Cond.fieldLink RX0 16 "GameArbiter" "facts" "[I", Cond.methodLink RX0 113 yX0_hasGivenSquares, Cond.instanceMethod yX0_hasGivenSquares, Cond.selects RX0 yX0_hasGivenSquares yX0_hasGivenSquares]
def wsL_times_r2 : List Cond := [Cond.code yX0_hasGivenSquares cX0_hasGivenSquares 3 (some .boolean), Cond.fieldLink RX0 13 "GameArbiter" "told" "[J", Cond.fieldLink RX0 9 "GameArbiter" "given" "[J", Cond.methodLink RX0 83 yX0_countUpTo, Cond.instanceMethod yX0_countUpTo, Cond.selects RX0 yX0_countUpTo yX0_countUpTo, Cond.code yX0_countUpTo cX0_countUpTo 2 (some .int), Cond.methodLink RX0 67 yX0_isPosition, Cond.instanceMethod yX0_isPosition, Cond.selects RX0 yX0_isPosition yX0_isPosition, Cond.code yX0_isPosition cX0_isPosition 2 (some .boolean)]
def wsL_times : List Cond := .codeWith yL_times cL_times 4 (some .int) [(0, 9, 12, 13)] :: ((wsL_times_r1 ++ wsL_times_r2) ++ wsX00 ++ (vx_atS RX0 45 "java/lang/IllegalArgumentException" ["java/lang/RuntimeException", "java/lang/Exception"]).filter goodWord)
def wsL_law0_r1 : List Cond := [Cond.classLink RL 8 RX0, Cond.instantiable RX0 4, Cond.initialized RX0, Cond.classLink RL 36 RX1, Cond.instantiable RX1 7, Cond.initialized RX1, Cond.arrayClass .long, Cond.constantLong RL 39 (4294967295), Cond.methodLink RL 35 yX0_init, Cond.instanceMethod yX0_init, Cond.code yX0_init cX0_init 1 none, Cond.methodLink RX0 1 objectInit, Cond.instanceMethod objectInit, Cond.code objectInit ⟨#[0xb1]⟩ 1 none, Cond.fieldLink RX0 9 "GameArbiter" "given" "[J", Cond.fieldLink RX0 13 "GameArbiter" "told" "[J", Cond.arrayClass .int, Cond.fieldLink RX0 16 "GameArbiter" "facts" "[I", Cond.fieldLink RX0 20 "GameArbiter" "positions" "I", Cond.methodLink RL 38 yX1_init, Cond.instanceMethod yX1_init, Cond.code yX1_init cX1_init 1 none, Cond.methodLink RX1 1 objectInit, Cond.fieldLink RX1 7 "GameArbiterModel" "next" "[I"]
def wsL_law0_r2 : List Cond := [Cond.constant RX1 13 (40960), Cond.fieldLink RX1 14 "GameArbiterModel" "men" "[I", Cond.fieldLink RX1 17 "GameArbiterModel" "states" "[I", Cond.fieldLink RX1 20 "GameArbiterModel" "clocks" "[I", Cond.fieldLink RX1 23 "GameArbiterModel" "verdicts" "[I", Cond.methodLink RL 41 yX0_squares, Cond.instanceMethod yX0_squares, Cond.selects RX0 yX0_squares yX0_squares, Cond.code yX0_squares cX0_squares 4 (some .boolean), Cond.methodLink RX0 24 yX0_isPart, Cond.static yX0_isPart, Cond.code yX0_isPart cX0_isPart 1 (some .boolean), Cond.methodLink RX0 28 yX0_areMen, Cond.static yX0_areMen, Cond.code yX0_areMen cX0_areMen 3 (some .boolean), Cond.methodLink RX0 93 yX0_manOfPart, Cond.static yX0_manOfPart, Cond.code yX0_manOfPart cX0_manOfPart 4 (some .int), Cond.methodLink RL 45 yX1_squares, Cond.instanceMethod yX1_squares, Cond.selects RX1 yX1_squares yX1_squares, Cond.code yX1_squares cX1_squares 5 (some .boolean), Cond.fieldLink RX1 26 "GameArbiterModel" "thrown" "I", Cond.constantLong RX1 30 (15)]
def wsL_law0_r3 : List Cond := [Cond.constantLong RX1 32 (12), Cond.methodLink RL 46 yL_begin, Cond.static yL_begin, Cond.initialized RL, Cond.codeWith yL_begin cL_begin 7 (some .int) [(0, 14, 17, 13)], Cond.classLink RL 13 "java/lang/IllegalArgumentException", Cond.methodLink RL 7 yX0_begin, Cond.instanceMethod yX0_begin, Cond.selects RX0 yX0_begin yX0_begin, Cond.code yX0_begin cX0_begin 5 (some .int), Cond.classLink RX0 41 "java/lang/IllegalArgumentException", Cond.initialized "java/lang/IllegalArgumentException", Cond.methodLink RX0 32 yX0_isState, Cond.static yX0_isState, Cond.code yX0_isState cX0_isState 2 (some .boolean), Cond.methodLink RX0 35 yX0_isMoves, Cond.static yX0_isMoves, Cond.code yX0_isMoves cX0_isMoves 1 (some .boolean), Cond.methodLink RX0 38 yX0_isClock, Cond.static yX0_isClock, Cond.code yX0_isClock cX0_isClock 1 (some .boolean), Cond.methodLink RX0 48 yX0_append, Cond.instanceMethod yX0_append, Cond.selects RX0 yX0_append yX0_append]
def wsL_law0_r4 : List Cond := [Cond.code yX0_append cX0_append 12 (some .int), Cond.methodLink RX0 107 arraycopyName, Cond.native arraycopyName, Cond.static arraycopyName, Cond.initialized "java/lang/System", Cond.methodLink RX0 79 yX0_lastSame, Cond.instanceMethod yX0_lastSame, Cond.selects RX0 yX0_lastSame yX0_lastSame, Cond.code yX0_lastSame cX0_lastSame 3 (some .int), Cond.methodLink RX0 63 yX0_factOf, Cond.instanceMethod yX0_factOf, Cond.selects RX0 yX0_factOf yX0_factOf, Cond.code yX0_factOf cX0_factOf 3 (some .int), Cond.methodLink RX0 113 yX0_hasGivenSquares, Cond.instanceMethod yX0_hasGivenSquares, Cond.selects RX0 yX0_hasGivenSquares yX0_hasGivenSquares, Cond.code yX0_hasGivenSquares cX0_hasGivenSquares 3 (some .boolean), Cond.methodLink RX0 83 yX0_countUpTo, Cond.instanceMethod yX0_countUpTo, Cond.selects RX0 yX0_countUpTo yX0_countUpTo, Cond.code yX0_countUpTo cX0_countUpTo 2 (some .int), Cond.methodLink RX0 67 yX0_isPosition, Cond.instanceMethod yX0_isPosition, Cond.selects RX0 yX0_isPosition yX0_isPosition]
def wsL_law0_r5 : List Cond := [Cond.code yX0_isPosition cX0_isPosition 2 (some .boolean), Cond.methodLink RX0 97 yX0_countGiven, Cond.instanceMethod yX0_countGiven, Cond.selects RX0 yX0_countGiven yX0_countGiven, Cond.code yX0_countGiven cX0_countGiven 4 (some .int), Cond.methodLink RX0 122 yX0_manGiven, Cond.instanceMethod yX0_manGiven, Cond.selects RX0 yX0_manGiven yX0_manGiven, Cond.code yX0_manGiven cX0_manGiven 2 (some .int), Cond.methodLink RX0 100 yX0_isGivenDead, Cond.instanceMethod yX0_isGivenDead, Cond.selects RX0 yX0_isGivenDead yX0_isGivenDead, Cond.code yX0_isGivenDead cX0_isGivenDead 4 (some .boolean), Cond.methodLink RX0 116 yX0_firstSquareGiven, Cond.instanceMethod yX0_firstSquareGiven, Cond.selects RX0 yX0_firstSquareGiven yX0_firstSquareGiven, Cond.code yX0_firstSquareGiven cX0_firstSquareGiven 3 (some .int), Cond.methodLink RX0 119 yX0_colourOf, Cond.static yX0_colourOf, Cond.code yX0_colourOf cX0_colourOf 3 (some .int), Cond.methodLink RX0 103 yX0_judge, Cond.static yX0_judge, Cond.code yX0_judge cX0_judge 5 (some .int), Cond.methodLink RL 51 yX1_begin]
def wsL_law0_r6 : List Cond := [Cond.instanceMethod yX1_begin, Cond.selects RX1 yX1_begin yX1_begin, Cond.code yX1_begin cX1_begin 5 (some .int), Cond.fieldLink RX1 53 "GameArbiterModel" "many" "I", Cond.methodLink RX1 60 yX1_isState, Cond.static yX1_isState, Cond.code yX1_isState cX1_isState 2 (some .boolean), Cond.methodLink RX1 63 yX1_add, Cond.instanceMethod yX1_add, Cond.selects RX1 yX1_add yX1_add, Cond.code yX1_add cX1_add 6 (some .int), Cond.methodLink RX1 56 yX1_verdictOf, Cond.instanceMethod yX1_verdictOf, Cond.selects RX1 yX1_verdictOf yX1_verdictOf, Cond.code yX1_verdictOf cX1_verdictOf 5 (some .int), Cond.methodLink RX1 45 yX1_countOf, Cond.instanceMethod yX1_countOf, Cond.selects RX1 yX1_countOf yX1_countOf, Cond.code yX1_countOf cX1_countOf 4 (some .int), Cond.methodLink RX1 34 yX1_isSame, Cond.instanceMethod yX1_isSame, Cond.selects RX1 yX1_isSame yX1_isSame, Cond.code yX1_isSame cX1_isSame 5 (some .boolean), Cond.methodLink RX1 49 yX1_isDead]
def wsL_law0_r7 : List Cond := [Cond.instanceMethod yX1_isDead, Cond.selects RX1 yX1_isDead yX1_isDead, Cond.code yX1_isDead cX1_isDead 6 (some .boolean), Cond.methodLink RX1 38 yX1_howMany, Cond.instanceMethod yX1_howMany, Cond.selects RX1 yX1_howMany yX1_howMany, Cond.code yX1_howMany cX1_howMany 5 (some .int), Cond.methodLink RX1 42 yX1_colour, Cond.instanceMethod yX1_colour, Cond.selects RX1 yX1_colour yX1_colour, Cond.code yX1_colour cX1_colour 5 (some .int), Cond.methodLink RL 52 yX1_thrown, Cond.instanceMethod yX1_thrown, Cond.selects RX1 yX1_thrown yX1_thrown, Cond.code yX1_thrown cX1_thrown 1 (some .int), Cond.methodLink RL 56 yL_next, Cond.static yL_next, Cond.codeWith yL_next cL_next 7 (some .int) [(0, 14, 17, 19), (0, 14, 21, 13)], Cond.classLink RL 19 "java/lang/IllegalStateException", Cond.methodLink RL 15 yX0_next, Cond.instanceMethod yX0_next, Cond.selects RX0 yX0_next yX0_next, Cond.code yX0_next cX0_next 6 (some .int), Cond.classLink RX0 56 "java/lang/IllegalStateException"]
def wsL_law0_r8 : List Cond := [Cond.initialized "java/lang/IllegalStateException", Cond.methodLink RX0 52 yX0_takesAnother, Cond.instanceMethod yX0_takesAnother, Cond.selects RX0 yX0_takesAnother yX0_takesAnother, Cond.code yX0_takesAnother cX0_takesAnother 2 (some .boolean), Cond.methodLink RL 59 yX1_next, Cond.instanceMethod yX1_next, Cond.selects RX1 yX1_next yX1_next, Cond.code yX1_next cX1_next 6 (some .int), Cond.methodLink RL 60 yX0_back, Cond.instanceMethod yX0_back, Cond.selects RX0 yX0_back yX0_back, Cond.code yX0_back cX0_back 1 (some .boolean), Cond.methodLink RL 64 yX1_back, Cond.instanceMethod yX1_back, Cond.selects RX1 yX1_back yX1_back, Cond.code yX1_back cX1_back 1 (some .boolean), Cond.methodLink RL 65 yX0_verdict, Cond.instanceMethod yX0_verdict, Cond.selects RX0 yX0_verdict yX0_verdict, Cond.code yX0_verdict cX0_verdict 1 (some .int), Cond.methodLink RL 68 yX1_verdict, Cond.instanceMethod yX1_verdict, Cond.selects RX1 yX1_verdict yX1_verdict]
def wsL_law0_r9 : List Cond := [Cond.code yX1_verdict cX1_verdict 1 (some .int), Cond.methodLink RL 69 yL_of, Cond.static yL_of, Cond.codeWith yL_of cL_of 5 (some .int) [(0, 10, 13, 25)], Cond.classLink RL 25 "java/lang/IndexOutOfBoundsException", Cond.methodLink RL 21 yX0_of, Cond.instanceMethod yX0_of, Cond.selects RX0 yX0_of yX0_of, Cond.code yX0_of cX0_of 3 (some .int), Cond.classLink RX0 70 "java/lang/IndexOutOfBoundsException", Cond.initialized "java/lang/IndexOutOfBoundsException", Cond.methodLink RL 72 yX1_of, Cond.instanceMethod yX1_of, Cond.selects RX1 yX1_of yX1_of, Cond.code yX1_of cX1_of 7 (some .int), Cond.methodLink RX1 67 yX1_isIn, Cond.instanceMethod yX1_isIn, Cond.selects RX1 yX1_isIn yX1_isIn, Cond.code yX1_isIn cX1_isIn 2 (some .boolean), Cond.methodLink RL 73 yL_men, Cond.static yL_men, Cond.codeWith yL_men cL_men 5 (some .int) [(0, 9, 12, 25)], Cond.methodLink RL 27 yX0_men, Cond.instanceMethod yX0_men]
def wsL_law0_r10 : List Cond := [Cond.selects RX0 yX0_men yX0_men, Cond.code yX0_men cX0_men 3 (some .long), Cond.methodLink RL 75 yX1_men, Cond.instanceMethod yX1_men, Cond.selects RX1 yX1_men yX1_men, Cond.code yX1_men cX1_men 6 (some .long), Cond.methodLink RL 76 yL_times, Cond.static yL_times, Cond.codeWith yL_times cL_times 4 (some .int) [(0, 9, 12, 13)], Cond.methodLink RL 31 yX0_times, Cond.instanceMethod yX0_times, Cond.selects RX0 yX0_times yX0_times, Cond.code yX0_times cX0_times 2 (some .int), Cond.methodLink RL 79 yX1_times, Cond.instanceMethod yX1_times, Cond.selects RX1 yX1_times yX1_times, Cond.code yX1_times cX1_times 4 (some .int), Cond.methodLink RX1 70 yX1_isNext, Cond.instanceMethod yX1_isNext, Cond.selects RX1 yX1_isNext yX1_isNext, Cond.code yX1_isNext cX1_isNext 5 (some .boolean), Cond.methodLink RL 80 yX0_look, Cond.instanceMethod yX0_look, Cond.selects RX0 yX0_look yX0_look]
def wsL_law0_r11 : List Cond := [Cond.code yX0_look cX0_look 2 (some .int), Cond.methodLink RX0 86 yX0_differentPositions, Cond.instanceMethod yX0_differentPositions, Cond.selects RX0 yX0_differentPositions yX0_differentPositions, Cond.code yX0_differentPositions cX0_differentPositions 3 (some .int), Cond.methodLink RX0 90 yX0_greatest, Cond.instanceMethod yX0_greatest, Cond.selects RX0 yX0_greatest yX0_greatest, Cond.code yX0_greatest cX0_greatest 4 (some .int), Cond.methodLink RX0 125 Lib.Math.max.name, Cond.static Lib.Math.max.name, Cond.initialized "java/lang/Math", Cond.code Lib.Math.max.name Lib.Math.max.code 2 (some .int), Cond.methodLink RL 83 yX1_look, Cond.instanceMethod yX1_look, Cond.selects RX1 yX1_look yX1_look, Cond.code yX1_look cX1_look 7 (some .int)]
def wsL_law0 : List Cond := (wsL_law0_r1 ++ (wsL_law0_r2 ++ (wsL_law0_r3 ++ (wsL_law0_r4 ++ (wsL_law0_r5 ++ (wsL_law0_r6 ++ (wsL_law0_r7 ++ (wsL_law0_r8 ++ (wsL_law0_r9 ++ (wsL_law0_r10 ++ wsL_law0_r11)))))))))) ++ wsX00 ++ wsX10 ++ ([] : List Cond)
def wsL_law : List Cond := wsL_law0 ++ (vx_atS RX0 45 "java/lang/IllegalArgumentException" ["java/lang/RuntimeException", "java/lang/Exception"]).filter goodWord ++ (vx_atS RX0 60 "java/lang/IllegalStateException" ["java/lang/RuntimeException", "java/lang/Exception"]).filter goodWord ++ (vx_atS RX0 74 "java/lang/IndexOutOfBoundsException" ["java/lang/RuntimeException", "java/lang/Exception"]).filter goodWord
set_option maxRecDepth 20000 in
theorem wsL_law_in0 : ∀ w ∈ wsL_law0, w ∈ lw_tbl := fun w h => (goodIn_p wsL_law0 [38, 41, 300, 60, 63, 66, 69, 332, 104, 107, 110, 113, 185, 189, 81, 193, 197, 201, 205, 209, 213, 217, 220, 223, 338, 341, 345, 349, 353, 357, 361, 365, 369, 328, 234, 238, 373, 73, 377, 77, 381, 263, 385, 389, 286, 393, 294, 397, 401, 85, 89, 93, 96, 405] (by decide +kernel) (by decide +kernel) w h).1
theorem wsL_law_x0 : ∀ w ∈ (vx_atS RX0 45 "java/lang/IllegalArgumentException" ["java/lang/RuntimeException", "java/lang/Exception"]).filter goodWord, w ∈ lw_tbl := by decide +kernel
theorem wsL_law_x1 : ∀ w ∈ (vx_atS RX0 60 "java/lang/IllegalStateException" ["java/lang/RuntimeException", "java/lang/Exception"]).filter goodWord, w ∈ lw_tbl := by decide +kernel
theorem wsL_law_x2 : ∀ w ∈ (vx_atS RX0 74 "java/lang/IndexOutOfBoundsException" ["java/lang/RuntimeException", "java/lang/Exception"]).filter goodWord, w ∈ lw_tbl := by decide +kernel
theorem wsL_law_in : ∀ w ∈ wsL_law, w ∈ lw_tbl := fun w h => (List.mem_append.mp h).elim (fun h => (List.mem_append.mp h).elim (fun h => (List.mem_append.mp h).elim (fun h => wsL_law_in0 w h) (fun h => wsL_law_x0 w h)) (fun h => wsL_law_x1 w h)) (fun h => wsL_law_x2 w h)
theorem inlX0 : ∀ w ∈ wsX00, w ∈ wsL_law := fun _ h => List.mem_append_left _ (List.mem_append_left _ (List.mem_append_left _ (List.mem_append_left _ (List.mem_append_left _ (List.mem_append_right _ h)))))
theorem inX0 : ∀ w ∈ wsX00, w ∈ lw_tbl := fun w h => wsL_law_in w (inlX0 w h)
theorem inlX1 : ∀ w ∈ wsX10, w ∈ wsL_law := fun _ h => List.mem_append_left _ (List.mem_append_left _ (List.mem_append_left _ (List.mem_append_left _ (List.mem_append_right _ h))))
theorem inX1 : ∀ w ∈ wsX10, w ∈ lw_tbl := fun w h => wsL_law_in w (inlX1 w h)
theorem inJ9 : ∀ w ∈ wsJ90, w ∈ lw_tbl := by decide +kernel
theorem inJ0 : ∀ w ∈ wsJ00, w ∈ lw_tbl := by decide +kernel
theorem inJ10 : ∀ w ∈ wsJ100, w ∈ lw_tbl := by decide +kernel
theorem dX0_init_0 : decode cX0_init 0 = .ok (.aload_n 0, 1) := by decide +kernel
theorem dX0_init_1 : decode cX0_init 1 = .ok (.invokespecial 1, 3) := by decide +kernel
theorem dX0_init_4 : decode cX0_init 4 = .ok (.aload_n 0, 1) := by decide +kernel
theorem dX0_init_5 : decode cX0_init 5 = .ok (.iconst 4, 1) := by decide +kernel
theorem dX0_init_6 : decode cX0_init 6 = .ok (.newarray .long, 2) := by decide +kernel
theorem dX0_init_8 : decode cX0_init 8 = .ok (.putfield 9, 3) := by decide +kernel
theorem dX0_init_11 : decode cX0_init 11 = .ok (.aload_n 0, 1) := by decide +kernel
theorem dX0_init_12 : decode cX0_init 12 = .ok (.sipush 2560, 3) := by decide +kernel
theorem dX0_init_15 : decode cX0_init 15 = .ok (.newarray .long, 2) := by decide +kernel
theorem dX0_init_17 : decode cX0_init 17 = .ok (.putfield 13, 3) := by decide +kernel
theorem dX0_init_20 : decode cX0_init 20 = .ok (.aload_n 0, 1) := by decide +kernel
theorem dX0_init_21 : decode cX0_init 21 = .ok (.sipush 5120, 3) := by decide +kernel
theorem dX0_init_24 : decode cX0_init 24 = .ok (.newarray .int, 2) := by decide +kernel
theorem dX0_init_26 : decode cX0_init 26 = .ok (.putfield 16, 3) := by decide +kernel
theorem dX0_init_29 : decode cX0_init 29 = .ok (.aload_n 0, 1) := by decide +kernel
theorem dX0_init_30 : decode cX0_init 30 = .ok (.iconst 0, 1) := by decide +kernel
theorem dX0_init_31 : decode cX0_init 31 = .ok (.putfield 20, 3) := by decide +kernel
theorem dX0_init_34 : decode cX0_init 34 = .ok (.return_, 1) := by decide +kernel
set_option maxRecDepth 20000 in
theorem ggX0_squares_X0_isPart : GoodIn wsX0_squares wsX0_isPart := goodIn_r _ [5] (by decide +kernel) (by decide +kernel)
set_option maxRecDepth 20000 in
theorem gX0_squares_X0_isPart : GoodIn wsX0_squares (va_wsS RX0 24 yX0_isPart wsX0_isPart) := goodIn_app (goodIn_of _ (by decide +kernel)) ggX0_squares_X0_isPart
set_option maxRecDepth 20000 in
theorem ggX0_squares_X0_areMen : GoodIn wsX0_squares wsX0_areMen := goodIn_r _ [8, 9, 10, 4, 11] (by decide +kernel) (by decide +kernel)
set_option maxRecDepth 20000 in
theorem gX0_squares_X0_areMen : GoodIn wsX0_squares (va_wsS RX0 28 yX0_areMen wsX0_areMen) := goodIn_app (goodIn_of _ (by decide +kernel)) ggX0_squares_X0_areMen
theorem dX0_squares_0 : decode cX0_squares 0 = .ok (.iload_n 1, 1) := by decide +kernel
theorem dX0_squares_1 : decode cX0_squares 1 = .ok (.invokestatic 24, 3) := by decide +kernel
theorem dX0_squares_4 : decode cX0_squares 4 = .ok (.ifCond .eq 10, 3) := by decide +kernel
theorem dX0_squares_7 : decode cX0_squares 7 = .ok (.lload_n 2, 1) := by decide +kernel
theorem dX0_squares_8 : decode cX0_squares 8 = .ok (.invokestatic 28, 3) := by decide +kernel
theorem dX0_squares_11 : decode cX0_squares 11 = .ok (.ifCond .ne 5, 3) := by decide +kernel
theorem dX0_squares_14 : decode cX0_squares 14 = .ok (.iconst 0, 1) := by decide +kernel
theorem dX0_squares_15 : decode cX0_squares 15 = .ok (.ireturn, 1) := by decide +kernel
theorem dX0_squares_16 : decode cX0_squares 16 = .ok (.aload_n 0, 1) := by decide +kernel
theorem dX0_squares_17 : decode cX0_squares 17 = .ok (.getfield 9, 3) := by decide +kernel
theorem dX0_squares_20 : decode cX0_squares 20 = .ok (.iload_n 1, 1) := by decide +kernel
theorem dX0_squares_21 : decode cX0_squares 21 = .ok (.lload_n 2, 1) := by decide +kernel
theorem dX0_squares_22 : decode cX0_squares 22 = .ok (.lastore, 1) := by decide +kernel
theorem dX0_squares_23 : decode cX0_squares 23 = .ok (.iconst 1, 1) := by decide +kernel
theorem dX0_squares_24 : decode cX0_squares 24 = .ok (.ireturn, 1) := by decide +kernel
set_option maxRecDepth 20000 in
theorem ggX0_begin_X0_isState : GoodIn wsX0_begin wsX0_isState := goodIn_r _ [7] (by decide +kernel) (by decide +kernel)
set_option maxRecDepth 20000 in
theorem gX0_begin_X0_isState : GoodIn wsX0_begin (va_wsS RX0 32 yX0_isState wsX0_isState) := goodIn_app (goodIn_of _ (by decide +kernel)) ggX0_begin_X0_isState
set_option maxRecDepth 20000 in
theorem ggX0_begin_X0_isMoves : GoodIn wsX0_begin wsX0_isMoves := goodIn_r _ [10] (by decide +kernel) (by decide +kernel)
set_option maxRecDepth 20000 in
theorem gX0_begin_X0_isMoves : GoodIn wsX0_begin (va_wsS RX0 35 yX0_isMoves wsX0_isMoves) := goodIn_app (goodIn_of _ (by decide +kernel)) ggX0_begin_X0_isMoves
set_option maxRecDepth 20000 in
theorem ggX0_begin_X0_isClock : GoodIn wsX0_begin wsX0_isClock := goodIn_r _ [13] (by decide +kernel) (by decide +kernel)
set_option maxRecDepth 20000 in
theorem gX0_begin_X0_isClock : GoodIn wsX0_begin (va_wsS RX0 38 yX0_isClock wsX0_isClock) := goodIn_app (goodIn_of _ (by decide +kernel)) ggX0_begin_X0_isClock
set_option maxRecDepth 20000 in
theorem ggX0_begin_X0_append : GoodIn wsX0_begin wsX0_append := goodIn_r _ [17, 3, 18, 19, 20, 21, 22, 23, 24, 25, 26, 27, 6, 28, 29, 30, 31, 32, 33, 34, 35, 36, 37, 38, 39, 40, 41, 42, 43, 44, 45, 46, 47, 48, 49, 50, 51, 52, 53, 54, 55, 56, 57, 58, 59, 60, 61, 62, 63, 64, 65, 66, 67, 68, 69, 70, 71, 72, 73] (by decide +kernel) (by decide +kernel)
set_option maxRecDepth 20000 in
theorem gX0_begin_X0_append : GoodIn wsX0_begin (wsV RX0 48 RX0 yX0_append wsX0_append) := goodIn_app (goodIn_of _ (by decide +kernel)) ggX0_begin_X0_append
theorem dX0_begin_0 : decode cX0_begin 0 = .ok (.iload_n 1, 1) := by decide +kernel
theorem dX0_begin_1 : decode cX0_begin 1 = .ok (.invokestatic 32, 3) := by decide +kernel
theorem dX0_begin_4 : decode cX0_begin 4 = .ok (.ifCond .eq 18, 3) := by decide +kernel
theorem dX0_begin_7 : decode cX0_begin 7 = .ok (.iload_n 2, 1) := by decide +kernel
theorem dX0_begin_8 : decode cX0_begin 8 = .ok (.invokestatic 35, 3) := by decide +kernel
theorem dX0_begin_11 : decode cX0_begin 11 = .ok (.ifCond .eq 11, 3) := by decide +kernel
theorem dX0_begin_14 : decode cX0_begin 14 = .ok (.iload 4, 2) := by decide +kernel
theorem dX0_begin_16 : decode cX0_begin 16 = .ok (.invokestatic 38, 3) := by decide +kernel
theorem dX0_begin_19 : decode cX0_begin 19 = .ok (.ifCond .ne 13, 3) := by decide +kernel
theorem dX0_begin_22 : decode cX0_begin 22 = .ok (.new 41, 3) := by decide +kernel
theorem dX0_begin_25 : decode cX0_begin 25 = .ok (.dup, 1) := by decide +kernel
theorem dX0_begin_26 : decode cX0_begin 26 = .ok (.ldc 43, 2) := by decide +kernel
theorem dX0_begin_28 : decode cX0_begin 28 = .ok (.invokespecial 45, 3) := by decide +kernel
theorem dX0_begin_31 : decode cX0_begin 31 = .ok (.athrow, 1) := by decide +kernel
theorem dX0_begin_32 : decode cX0_begin 32 = .ok (.aload_n 0, 1) := by decide +kernel
theorem dX0_begin_33 : decode cX0_begin 33 = .ok (.iconst 0, 1) := by decide +kernel
theorem dX0_begin_34 : decode cX0_begin 34 = .ok (.putfield 20, 3) := by decide +kernel
theorem dX0_begin_37 : decode cX0_begin 37 = .ok (.aload_n 0, 1) := by decide +kernel
theorem dX0_begin_38 : decode cX0_begin 38 = .ok (.iload_n 1, 1) := by decide +kernel
theorem dX0_begin_39 : decode cX0_begin 39 = .ok (.iload_n 2, 1) := by decide +kernel
theorem dX0_begin_40 : decode cX0_begin 40 = .ok (.iload_n 3, 1) := by decide +kernel
theorem dX0_begin_41 : decode cX0_begin 41 = .ok (.iload 4, 2) := by decide +kernel
theorem dX0_begin_43 : decode cX0_begin 43 = .ok (.invokevirtual 48, 3) := by decide +kernel
theorem dX0_begin_46 : decode cX0_begin 46 = .ok (.ireturn, 1) := by decide +kernel
set_option maxRecDepth 20000 in
theorem ggX0_next_X0_takesAnother : GoodIn wsX0_next wsX0_takesAnother := goodIn_r _ [10, 5, 11, 12, 13, 9, 14, 15, 73, 74, 75, 76] (by decide +kernel) (by decide +kernel)
set_option maxRecDepth 20000 in
theorem gX0_next_X0_takesAnother : GoodIn wsX0_next (wsV RX0 52 RX0 yX0_takesAnother wsX0_takesAnother) := goodIn_app (goodIn_of _ (by decide +kernel)) ggX0_next_X0_takesAnother
set_option maxRecDepth 20000 in
theorem ggX0_next_X0_isState : GoodIn wsX0_next wsX0_isState := goodIn_r _ [18] (by decide +kernel) (by decide +kernel)
set_option maxRecDepth 20000 in
theorem gX0_next_X0_isState : GoodIn wsX0_next (va_wsS RX0 32 yX0_isState wsX0_isState) := goodIn_app (goodIn_of _ (by decide +kernel)) ggX0_next_X0_isState
set_option maxRecDepth 20000 in
theorem ggX0_next_X0_isMoves : GoodIn wsX0_next wsX0_isMoves := goodIn_r _ [21] (by decide +kernel) (by decide +kernel)
set_option maxRecDepth 20000 in
theorem gX0_next_X0_isMoves : GoodIn wsX0_next (va_wsS RX0 35 yX0_isMoves wsX0_isMoves) := goodIn_app (goodIn_of _ (by decide +kernel)) ggX0_next_X0_isMoves
set_option maxRecDepth 20000 in
theorem ggX0_next_X0_factOf : GoodIn wsX0_next wsX0_factOf := goodIn_r _ [14, 15, 73, 74, 75, 76] (by decide +kernel) (by decide +kernel)
set_option maxRecDepth 20000 in
theorem gX0_next_X0_factOf : GoodIn wsX0_next (wsV RX0 63 RX0 yX0_factOf wsX0_factOf) := goodIn_app (goodIn_of _ (by decide +kernel)) ggX0_next_X0_factOf
set_option maxRecDepth 20000 in
theorem ggX0_next_X0_append : GoodIn wsX0_next wsX0_append := goodIn_r _ [25, 5, 15, 26, 27, 28, 29, 30, 31, 32, 33, 34, 9, 35, 11, 12, 13, 14, 36, 37, 38, 39, 40, 41, 42, 43, 44, 45, 46, 47, 48, 49, 50, 51, 52, 53, 54, 55, 56, 57, 58, 59, 60, 61, 62, 63, 64, 65, 66, 67, 68, 69, 70, 71, 72, 73, 74, 75, 76] (by decide +kernel) (by decide +kernel)
set_option maxRecDepth 20000 in
theorem gX0_next_X0_append : GoodIn wsX0_next (wsV RX0 48 RX0 yX0_append wsX0_append) := goodIn_app (goodIn_of _ (by decide +kernel)) ggX0_next_X0_append
theorem dX0_next_0 : decode cX0_next 0 = .ok (.aload_n 0, 1) := by decide +kernel
theorem dX0_next_1 : decode cX0_next 1 = .ok (.invokevirtual 52, 3) := by decide +kernel
theorem dX0_next_4 : decode cX0_next 4 = .ok (.ifCond .ne 13, 3) := by decide +kernel
theorem dX0_next_7 : decode cX0_next 7 = .ok (.new 56, 3) := by decide +kernel
theorem dX0_next_10 : decode cX0_next 10 = .ok (.dup, 1) := by decide +kernel
theorem dX0_next_11 : decode cX0_next 11 = .ok (.ldc 58, 2) := by decide +kernel
theorem dX0_next_13 : decode cX0_next 13 = .ok (.invokespecial 60, 3) := by decide +kernel
theorem dX0_next_16 : decode cX0_next 16 = .ok (.athrow, 1) := by decide +kernel
theorem dX0_next_17 : decode cX0_next 17 = .ok (.iload_n 1, 1) := by decide +kernel
theorem dX0_next_18 : decode cX0_next 18 = .ok (.invokestatic 32, 3) := by decide +kernel
theorem dX0_next_21 : decode cX0_next 21 = .ok (.ifCond .eq 10, 3) := by decide +kernel
theorem dX0_next_24 : decode cX0_next 24 = .ok (.iload_n 2, 1) := by decide +kernel
theorem dX0_next_25 : decode cX0_next 25 = .ok (.invokestatic 35, 3) := by decide +kernel
theorem dX0_next_28 : decode cX0_next 28 = .ok (.ifCond .ne 13, 3) := by decide +kernel
theorem dX0_next_31 : decode cX0_next 31 = .ok (.new 41, 3) := by decide +kernel
theorem dX0_next_34 : decode cX0_next 34 = .ok (.dup, 1) := by decide +kernel
theorem dX0_next_35 : decode cX0_next 35 = .ok (.ldc 61, 2) := by decide +kernel
theorem dX0_next_37 : decode cX0_next 37 = .ok (.invokespecial 45, 3) := by decide +kernel
theorem dX0_next_40 : decode cX0_next 40 = .ok (.athrow, 1) := by decide +kernel
theorem dX0_next_41 : decode cX0_next 41 = .ok (.iload 4, 2) := by decide +kernel
theorem dX0_next_43 : decode cX0_next 43 = .ok (.ifCond .eq 7, 3) := by decide +kernel
theorem dX0_next_46 : decode cX0_next 46 = .ok (.iconst 0, 1) := by decide +kernel
theorem dX0_next_47 : decode cX0_next 47 = .ok (.goto 16, 3) := by decide +kernel
theorem dX0_next_50 : decode cX0_next 50 = .ok (.aload_n 0, 1) := by decide +kernel
theorem dX0_next_51 : decode cX0_next 51 = .ok (.aload_n 0, 1) := by decide +kernel
theorem dX0_next_52 : decode cX0_next 52 = .ok (.getfield 20, 3) := by decide +kernel
theorem dX0_next_55 : decode cX0_next 55 = .ok (.iconst 1, 1) := by decide +kernel
theorem dX0_next_56 : decode cX0_next 56 = .ok (.isub, 1) := by decide +kernel
theorem dX0_next_57 : decode cX0_next 57 = .ok (.iconst 1, 1) := by decide +kernel
theorem dX0_next_58 : decode cX0_next 58 = .ok (.invokevirtual 63, 3) := by decide +kernel
theorem dX0_next_61 : decode cX0_next 61 = .ok (.iconst 1, 1) := by decide +kernel
theorem dX0_next_62 : decode cX0_next 62 = .ok (.iadd, 1) := by decide +kernel
theorem dX0_next_63 : decode cX0_next 63 = .ok (.istore 5, 2) := by decide +kernel
theorem dX0_next_65 : decode cX0_next 65 = .ok (.aload_n 0, 1) := by decide +kernel
theorem dX0_next_66 : decode cX0_next 66 = .ok (.iload_n 1, 1) := by decide +kernel
theorem dX0_next_67 : decode cX0_next 67 = .ok (.iload_n 2, 1) := by decide +kernel
theorem dX0_next_68 : decode cX0_next 68 = .ok (.iload_n 3, 1) := by decide +kernel
theorem dX0_next_69 : decode cX0_next 69 = .ok (.iload 5, 2) := by decide +kernel
theorem dX0_next_71 : decode cX0_next 71 = .ok (.invokevirtual 48, 3) := by decide +kernel
theorem dX0_next_74 : decode cX0_next 74 = .ok (.ireturn, 1) := by decide +kernel
theorem dX0_back_0 : decode cX0_back 0 = .ok (.aload_n 0, 1) := by decide +kernel
theorem dX0_back_1 : decode cX0_back 1 = .ok (.getfield 20, 3) := by decide +kernel
theorem dX0_back_4 : decode cX0_back 4 = .ok (.ifCond .ne 5, 3) := by decide +kernel
theorem dX0_back_7 : decode cX0_back 7 = .ok (.iconst 0, 1) := by decide +kernel
theorem dX0_back_8 : decode cX0_back 8 = .ok (.ireturn, 1) := by decide +kernel
theorem dX0_back_9 : decode cX0_back 9 = .ok (.aload_n 0, 1) := by decide +kernel
theorem dX0_back_10 : decode cX0_back 10 = .ok (.dup, 1) := by decide +kernel
theorem dX0_back_11 : decode cX0_back 11 = .ok (.getfield 20, 3) := by decide +kernel
theorem dX0_back_14 : decode cX0_back 14 = .ok (.iconst 1, 1) := by decide +kernel
theorem dX0_back_15 : decode cX0_back 15 = .ok (.isub, 1) := by decide +kernel
theorem dX0_back_16 : decode cX0_back 16 = .ok (.putfield 20, 3) := by decide +kernel
theorem dX0_back_19 : decode cX0_back 19 = .ok (.iconst 1, 1) := by decide +kernel
theorem dX0_back_20 : decode cX0_back 20 = .ok (.ireturn, 1) := by decide +kernel
set_option maxRecDepth 20000 in
theorem ggX0_verdict_X0_factOf : GoodIn wsX0_verdict wsX0_factOf := goodIn_r _ [6, 7, 8, 9, 10, 11] (by decide +kernel) (by decide +kernel)
set_option maxRecDepth 20000 in
theorem gX0_verdict_X0_factOf : GoodIn wsX0_verdict (wsV RX0 63 RX0 yX0_factOf wsX0_factOf) := goodIn_app (goodIn_of _ (by decide +kernel)) ggX0_verdict_X0_factOf
theorem dX0_verdict_0 : decode cX0_verdict 0 = .ok (.aload_n 0, 1) := by decide +kernel
theorem dX0_verdict_1 : decode cX0_verdict 1 = .ok (.getfield 20, 3) := by decide +kernel
theorem dX0_verdict_4 : decode cX0_verdict 4 = .ok (.ifCond .ne 7, 3) := by decide +kernel
theorem dX0_verdict_7 : decode cX0_verdict 7 = .ok (.iconst (-1), 1) := by decide +kernel
theorem dX0_verdict_8 : decode cX0_verdict 8 = .ok (.goto 14, 3) := by decide +kernel
theorem dX0_verdict_11 : decode cX0_verdict 11 = .ok (.aload_n 0, 1) := by decide +kernel
theorem dX0_verdict_12 : decode cX0_verdict 12 = .ok (.aload_n 0, 1) := by decide +kernel
theorem dX0_verdict_13 : decode cX0_verdict 13 = .ok (.getfield 20, 3) := by decide +kernel
theorem dX0_verdict_16 : decode cX0_verdict 16 = .ok (.iconst 1, 1) := by decide +kernel
theorem dX0_verdict_17 : decode cX0_verdict 17 = .ok (.isub, 1) := by decide +kernel
theorem dX0_verdict_18 : decode cX0_verdict 18 = .ok (.iconst 2, 1) := by decide +kernel
theorem dX0_verdict_19 : decode cX0_verdict 19 = .ok (.invokevirtual 63, 3) := by decide +kernel
theorem dX0_verdict_22 : decode cX0_verdict 22 = .ok (.ireturn, 1) := by decide +kernel
set_option maxRecDepth 20000 in
theorem ggX0_of_X0_isPosition : GoodIn wsX0_of wsX0_isPosition := goodIn_r _ [7, 8, 14, 15, 16, 17] (by decide +kernel) (by decide +kernel)
set_option maxRecDepth 20000 in
theorem gX0_of_X0_isPosition : GoodIn wsX0_of (wsV RX0 67 RX0 yX0_isPosition wsX0_isPosition) := goodIn_app (goodIn_of _ (by decide +kernel)) ggX0_of_X0_isPosition
set_option maxRecDepth 20000 in
theorem ggX0_of_X0_factOf : GoodIn wsX0_of wsX0_factOf := goodIn_r _ [12, 13, 14, 15, 16, 17] (by decide +kernel) (by decide +kernel)
set_option maxRecDepth 20000 in
theorem gX0_of_X0_factOf : GoodIn wsX0_of (wsV RX0 63 RX0 yX0_factOf wsX0_factOf) := goodIn_app (goodIn_of _ (by decide +kernel)) ggX0_of_X0_factOf
theorem dX0_of_0 : decode cX0_of 0 = .ok (.aload_n 0, 1) := by decide +kernel
theorem dX0_of_1 : decode cX0_of 1 = .ok (.iload_n 1, 1) := by decide +kernel
theorem dX0_of_2 : decode cX0_of 2 = .ok (.invokevirtual 67, 3) := by decide +kernel
theorem dX0_of_5 : decode cX0_of 5 = .ok (.ifCond .eq 13, 3) := by decide +kernel
theorem dX0_of_8 : decode cX0_of 8 = .ok (.iload_n 2, 1) := by decide +kernel
theorem dX0_of_9 : decode cX0_of 9 = .ok (.ifCond .lt 9, 3) := by decide +kernel
theorem dX0_of_12 : decode cX0_of 12 = .ok (.iload_n 2, 1) := by decide +kernel
theorem dX0_of_13 : decode cX0_of 13 = .ok (.bipush 8, 2) := by decide +kernel
theorem dX0_of_15 : decode cX0_of 15 = .ok (.if_icmp .lt 13, 3) := by decide +kernel
theorem dX0_of_18 : decode cX0_of 18 = .ok (.new 70, 3) := by decide +kernel
theorem dX0_of_21 : decode cX0_of 21 = .ok (.dup, 1) := by decide +kernel
theorem dX0_of_22 : decode cX0_of 22 = .ok (.ldc 72, 2) := by decide +kernel
theorem dX0_of_24 : decode cX0_of 24 = .ok (.invokespecial 74, 3) := by decide +kernel
theorem dX0_of_27 : decode cX0_of 27 = .ok (.athrow, 1) := by decide +kernel
theorem dX0_of_28 : decode cX0_of 28 = .ok (.aload_n 0, 1) := by decide +kernel
theorem dX0_of_29 : decode cX0_of 29 = .ok (.iload_n 1, 1) := by decide +kernel
theorem dX0_of_30 : decode cX0_of 30 = .ok (.iload_n 2, 1) := by decide +kernel
theorem dX0_of_31 : decode cX0_of 31 = .ok (.invokevirtual 63, 3) := by decide +kernel
theorem dX0_of_34 : decode cX0_of 34 = .ok (.ireturn, 1) := by decide +kernel
set_option maxRecDepth 20000 in
theorem ggX0_men_X0_isPosition : GoodIn wsX0_men wsX0_isPosition := goodIn_r _ [8, 9, 13, 14, 15, 16] (by decide +kernel) (by decide +kernel)
set_option maxRecDepth 20000 in
theorem gX0_men_X0_isPosition : GoodIn wsX0_men (wsV RX0 67 RX0 yX0_isPosition wsX0_isPosition) := goodIn_app (goodIn_of _ (by decide +kernel)) ggX0_men_X0_isPosition
set_option maxRecDepth 20000 in
theorem ggX0_men_X0_isPart : GoodIn wsX0_men wsX0_isPart := goodIn_r _ [12] (by decide +kernel) (by decide +kernel)
set_option maxRecDepth 20000 in
theorem gX0_men_X0_isPart : GoodIn wsX0_men (va_wsS RX0 24 yX0_isPart wsX0_isPart) := goodIn_app (goodIn_of _ (by decide +kernel)) ggX0_men_X0_isPart
theorem dX0_men_0 : decode cX0_men 0 = .ok (.aload_n 0, 1) := by decide +kernel
theorem dX0_men_1 : decode cX0_men 1 = .ok (.iload_n 1, 1) := by decide +kernel
theorem dX0_men_2 : decode cX0_men 2 = .ok (.invokevirtual 67, 3) := by decide +kernel
theorem dX0_men_5 : decode cX0_men 5 = .ok (.ifCond .eq 10, 3) := by decide +kernel
theorem dX0_men_8 : decode cX0_men 8 = .ok (.iload_n 2, 1) := by decide +kernel
theorem dX0_men_9 : decode cX0_men 9 = .ok (.invokestatic 24, 3) := by decide +kernel
theorem dX0_men_12 : decode cX0_men 12 = .ok (.ifCond .ne 13, 3) := by decide +kernel
theorem dX0_men_15 : decode cX0_men 15 = .ok (.new 70, 3) := by decide +kernel
theorem dX0_men_18 : decode cX0_men 18 = .ok (.dup, 1) := by decide +kernel
theorem dX0_men_19 : decode cX0_men 19 = .ok (.ldc 75, 2) := by decide +kernel
theorem dX0_men_21 : decode cX0_men 21 = .ok (.invokespecial 74, 3) := by decide +kernel
theorem dX0_men_24 : decode cX0_men 24 = .ok (.athrow, 1) := by decide +kernel
theorem dX0_men_25 : decode cX0_men 25 = .ok (.aload_n 0, 1) := by decide +kernel
theorem dX0_men_26 : decode cX0_men 26 = .ok (.getfield 13, 3) := by decide +kernel
theorem dX0_men_29 : decode cX0_men 29 = .ok (.iload_n 1, 1) := by decide +kernel
theorem dX0_men_30 : decode cX0_men 30 = .ok (.iconst 4, 1) := by decide +kernel
theorem dX0_men_31 : decode cX0_men 31 = .ok (.imul, 1) := by decide +kernel
theorem dX0_men_32 : decode cX0_men 32 = .ok (.iload_n 2, 1) := by decide +kernel
theorem dX0_men_33 : decode cX0_men 33 = .ok (.iadd, 1) := by decide +kernel
theorem dX0_men_34 : decode cX0_men 34 = .ok (.laload, 1) := by decide +kernel
theorem dX0_men_35 : decode cX0_men 35 = .ok (.lreturn, 1) := by decide +kernel
set_option maxRecDepth 20000 in
theorem ggX0_times_X0_isState : GoodIn wsX0_times wsX0_isState := goodIn_r _ [6] (by decide +kernel) (by decide +kernel)
set_option maxRecDepth 20000 in
theorem gX0_times_X0_isState : GoodIn wsX0_times (va_wsS RX0 32 yX0_isState wsX0_isState) := goodIn_app (goodIn_of _ (by decide +kernel)) ggX0_times_X0_isState
set_option maxRecDepth 20000 in
theorem ggX0_times_X0_lastSame : GoodIn wsX0_times wsX0_lastSame := goodIn_r _ [10, 11, 12, 13, 14, 5, 15, 16, 17, 18, 19, 20, 21, 22, 31, 32, 33, 34] (by decide +kernel) (by decide +kernel)
set_option maxRecDepth 20000 in
theorem gX0_times_X0_lastSame : GoodIn wsX0_times (wsV RX0 79 RX0 yX0_lastSame wsX0_lastSame) := goodIn_app (goodIn_of _ (by decide +kernel)) ggX0_times_X0_lastSame
set_option maxRecDepth 20000 in
theorem ggX0_times_X0_countUpTo : GoodIn wsX0_times wsX0_countUpTo := goodIn_r _ [26, 27, 28, 29, 5, 30, 11, 12, 13, 14, 15, 16, 31, 32, 33, 34] (by decide +kernel) (by decide +kernel)
set_option maxRecDepth 20000 in
theorem gX0_times_X0_countUpTo : GoodIn wsX0_times (wsV RX0 83 RX0 yX0_countUpTo wsX0_countUpTo) := goodIn_app (goodIn_of _ (by decide +kernel)) ggX0_times_X0_countUpTo
theorem dX0_times_0 : decode cX0_times 0 = .ok (.iload_n 1, 1) := by decide +kernel
theorem dX0_times_1 : decode cX0_times 1 = .ok (.invokestatic 32, 3) := by decide +kernel
theorem dX0_times_4 : decode cX0_times 4 = .ok (.ifCond .ne 13, 3) := by decide +kernel
theorem dX0_times_7 : decode cX0_times 7 = .ok (.new 41, 3) := by decide +kernel
theorem dX0_times_10 : decode cX0_times 10 = .ok (.dup, 1) := by decide +kernel
theorem dX0_times_11 : decode cX0_times 11 = .ok (.ldc 77, 2) := by decide +kernel
theorem dX0_times_13 : decode cX0_times 13 = .ok (.invokespecial 45, 3) := by decide +kernel
theorem dX0_times_16 : decode cX0_times 16 = .ok (.athrow, 1) := by decide +kernel
theorem dX0_times_17 : decode cX0_times 17 = .ok (.aload_n 0, 1) := by decide +kernel
theorem dX0_times_18 : decode cX0_times 18 = .ok (.aload_n 0, 1) := by decide +kernel
theorem dX0_times_19 : decode cX0_times 19 = .ok (.iload_n 1, 1) := by decide +kernel
theorem dX0_times_20 : decode cX0_times 20 = .ok (.invokevirtual 79, 3) := by decide +kernel
theorem dX0_times_23 : decode cX0_times 23 = .ok (.invokevirtual 83, 3) := by decide +kernel
theorem dX0_times_26 : decode cX0_times 26 = .ok (.ireturn, 1) := by decide +kernel
set_option maxRecDepth 20000 in
theorem ggX0_look_X0_differentPositions : GoodIn wsX0_look wsX0_differentPositions := goodIn_r _ [6, 1, 7, 8, 9, 5, 10, 11, 20, 21, 22, 23] (by decide +kernel) (by decide +kernel)
set_option maxRecDepth 20000 in
theorem gX0_look_X0_differentPositions : GoodIn wsX0_look (wsV RX0 86 RX0 yX0_differentPositions wsX0_differentPositions) := goodIn_app (goodIn_of _ (by decide +kernel)) ggX0_look_X0_differentPositions
set_option maxRecDepth 20000 in
theorem ggX0_look_X0_greatest : GoodIn wsX0_look wsX0_greatest := goodIn_r _ [15, 1, 16, 17, 18, 19, 7, 8, 9, 5, 10, 11, 20, 21, 22, 23] (by decide +kernel) (by decide +kernel)
set_option maxRecDepth 20000 in
theorem gX0_look_X0_greatest : GoodIn wsX0_look (wsV RX0 90 RX0 yX0_greatest wsX0_greatest) := goodIn_app (goodIn_of _ (by decide +kernel)) ggX0_look_X0_greatest
theorem dX0_look_0 : decode cX0_look 0 = .ok (.iload_n 1, 1) := by decide +kernel
theorem dX0_look_1 : decode cX0_look 1 = .ok (.tableswitch 53 0 3 #[31, 36, 41, 47], 31) := by decide +kernel
theorem dX0_look_32 : decode cX0_look 32 = .ok (.aload_n 0, 1) := by decide +kernel
theorem dX0_look_33 : decode cX0_look 33 = .ok (.getfield 20, 3) := by decide +kernel
theorem dX0_look_36 : decode cX0_look 36 = .ok (.ireturn, 1) := by decide +kernel
theorem dX0_look_37 : decode cX0_look 37 = .ok (.aload_n 0, 1) := by decide +kernel
theorem dX0_look_38 : decode cX0_look 38 = .ok (.invokevirtual 86, 3) := by decide +kernel
theorem dX0_look_41 : decode cX0_look 41 = .ok (.ireturn, 1) := by decide +kernel
theorem dX0_look_42 : decode cX0_look 42 = .ok (.aload_n 0, 1) := by decide +kernel
theorem dX0_look_43 : decode cX0_look 43 = .ok (.iconst 0, 1) := by decide +kernel
theorem dX0_look_44 : decode cX0_look 44 = .ok (.invokevirtual 90, 3) := by decide +kernel
theorem dX0_look_47 : decode cX0_look 47 = .ok (.ireturn, 1) := by decide +kernel
theorem dX0_look_48 : decode cX0_look 48 = .ok (.aload_n 0, 1) := by decide +kernel
theorem dX0_look_49 : decode cX0_look 49 = .ok (.iconst 1, 1) := by decide +kernel
theorem dX0_look_50 : decode cX0_look 50 = .ok (.invokevirtual 90, 3) := by decide +kernel
theorem dX0_look_53 : decode cX0_look 53 = .ok (.ireturn, 1) := by decide +kernel
theorem dX0_look_54 : decode cX0_look 54 = .ok (.iconst (-1), 1) := by decide +kernel
theorem dX0_look_55 : decode cX0_look 55 = .ok (.ireturn, 1) := by decide +kernel
theorem dX0_isPart_0 : decode cX0_isPart 0 = .ok (.iload_n 0, 1) := by decide +kernel
theorem dX0_isPart_1 : decode cX0_isPart 1 = .ok (.ifCond .lt 12, 3) := by decide +kernel
theorem dX0_isPart_4 : decode cX0_isPart 4 = .ok (.iload_n 0, 1) := by decide +kernel
theorem dX0_isPart_5 : decode cX0_isPart 5 = .ok (.iconst 4, 1) := by decide +kernel
theorem dX0_isPart_6 : decode cX0_isPart 6 = .ok (.if_icmp .ge 7, 3) := by decide +kernel
theorem dX0_isPart_9 : decode cX0_isPart 9 = .ok (.iconst 1, 1) := by decide +kernel
theorem dX0_isPart_10 : decode cX0_isPart 10 = .ok (.goto 4, 3) := by decide +kernel
theorem dX0_isPart_13 : decode cX0_isPart 13 = .ok (.iconst 0, 1) := by decide +kernel
theorem dX0_isPart_14 : decode cX0_isPart 14 = .ok (.ireturn, 1) := by decide +kernel
theorem dX0_isMoves_0 : decode cX0_isMoves 0 = .ok (.iload_n 0, 1) := by decide +kernel
theorem dX0_isMoves_1 : decode cX0_isMoves 1 = .ok (.ifCond .lt 14, 3) := by decide +kernel
theorem dX0_isMoves_4 : decode cX0_isMoves 4 = .ok (.iload_n 0, 1) := by decide +kernel
theorem dX0_isMoves_5 : decode cX0_isMoves 5 = .ok (.sipush 300, 3) := by decide +kernel
theorem dX0_isMoves_8 : decode cX0_isMoves 8 = .ok (.if_icmp .gt 7, 3) := by decide +kernel
theorem dX0_isMoves_11 : decode cX0_isMoves 11 = .ok (.iconst 1, 1) := by decide +kernel
theorem dX0_isMoves_12 : decode cX0_isMoves 12 = .ok (.goto 4, 3) := by decide +kernel
theorem dX0_isMoves_15 : decode cX0_isMoves 15 = .ok (.iconst 0, 1) := by decide +kernel
theorem dX0_isMoves_16 : decode cX0_isMoves 16 = .ok (.ireturn, 1) := by decide +kernel
theorem dX0_isClock_0 : decode cX0_isClock 0 = .ok (.iload_n 0, 1) := by decide +kernel
theorem dX0_isClock_1 : decode cX0_isClock 1 = .ok (.ifCond .lt 14, 3) := by decide +kernel
theorem dX0_isClock_4 : decode cX0_isClock 4 = .ok (.iload_n 0, 1) := by decide +kernel
theorem dX0_isClock_5 : decode cX0_isClock 5 = .ok (.sipush 1000, 3) := by decide +kernel
theorem dX0_isClock_8 : decode cX0_isClock 8 = .ok (.if_icmp .gt 7, 3) := by decide +kernel
theorem dX0_isClock_11 : decode cX0_isClock 11 = .ok (.iconst 1, 1) := by decide +kernel
theorem dX0_isClock_12 : decode cX0_isClock 12 = .ok (.goto 4, 3) := by decide +kernel
theorem dX0_isClock_15 : decode cX0_isClock 15 = .ok (.iconst 0, 1) := by decide +kernel
theorem dX0_isClock_16 : decode cX0_isClock 16 = .ok (.ireturn, 1) := by decide +kernel
theorem dX0_isState_0 : decode cX0_isState 0 = .ok (.iload_n 0, 1) := by decide +kernel
theorem dX0_isState_1 : decode cX0_isState 1 = .ok (.ifCond .lt 10, 3) := by decide +kernel
theorem dX0_isState_4 : decode cX0_isState 4 = .ok (.iload_n 0, 1) := by decide +kernel
theorem dX0_isState_5 : decode cX0_isState 5 = .ok (.sipush 512, 3) := by decide +kernel
theorem dX0_isState_8 : decode cX0_isState 8 = .ok (.if_icmp .lt 5, 3) := by decide +kernel
theorem dX0_isState_11 : decode cX0_isState 11 = .ok (.iconst 0, 1) := by decide +kernel
theorem dX0_isState_12 : decode cX0_isState 12 = .ok (.ireturn, 1) := by decide +kernel
theorem dX0_isState_13 : decode cX0_isState 13 = .ok (.iload_n 0, 1) := by decide +kernel
theorem dX0_isState_14 : decode cX0_isState 14 = .ok (.iconst 5, 1) := by decide +kernel
theorem dX0_isState_15 : decode cX0_isState 15 = .ok (.ishr, 1) := by decide +kernel
theorem dX0_isState_16 : decode cX0_isState 16 = .ok (.istore_n 1, 1) := by decide +kernel
theorem dX0_isState_17 : decode cX0_isState 17 = .ok (.iload_n 1, 1) := by decide +kernel
theorem dX0_isState_18 : decode cX0_isState 18 = .ok (.bipush 7, 2) := by decide +kernel
theorem dX0_isState_20 : decode cX0_isState 20 = .ok (.if_icmp .le 9, 3) := by decide +kernel
theorem dX0_isState_23 : decode cX0_isState 23 = .ok (.iload_n 1, 1) := by decide +kernel
theorem dX0_isState_24 : decode cX0_isState 24 = .ok (.bipush 15, 2) := by decide +kernel
theorem dX0_isState_26 : decode cX0_isState 26 = .ok (.if_icmp .ne 7, 3) := by decide +kernel
theorem dX0_isState_29 : decode cX0_isState 29 = .ok (.iconst 1, 1) := by decide +kernel
theorem dX0_isState_30 : decode cX0_isState 30 = .ok (.goto 4, 3) := by decide +kernel
theorem dX0_isState_33 : decode cX0_isState 33 = .ok (.iconst 0, 1) := by decide +kernel
theorem dX0_isState_34 : decode cX0_isState 34 = .ok (.ireturn, 1) := by decide +kernel
theorem dX0_isPosition_0 : decode cX0_isPosition 0 = .ok (.iload_n 1, 1) := by decide +kernel
theorem dX0_isPosition_1 : decode cX0_isPosition 1 = .ok (.ifCond .lt 15, 3) := by decide +kernel
theorem dX0_isPosition_4 : decode cX0_isPosition 4 = .ok (.iload_n 1, 1) := by decide +kernel
theorem dX0_isPosition_5 : decode cX0_isPosition 5 = .ok (.aload_n 0, 1) := by decide +kernel
theorem dX0_isPosition_6 : decode cX0_isPosition 6 = .ok (.getfield 20, 3) := by decide +kernel
theorem dX0_isPosition_9 : decode cX0_isPosition 9 = .ok (.if_icmp .ge 7, 3) := by decide +kernel
theorem dX0_isPosition_12 : decode cX0_isPosition 12 = .ok (.iconst 1, 1) := by decide +kernel
theorem dX0_isPosition_13 : decode cX0_isPosition 13 = .ok (.goto 4, 3) := by decide +kernel
theorem dX0_isPosition_16 : decode cX0_isPosition 16 = .ok (.iconst 0, 1) := by decide +kernel
theorem dX0_isPosition_17 : decode cX0_isPosition 17 = .ok (.ireturn, 1) := by decide +kernel
set_option maxRecDepth 20000 in
theorem ggX0_areMen_X0_manOfPart : GoodIn wsX0_areMen wsX0_manOfPart := goodIn_r _ [4] (by decide +kernel) (by decide +kernel)
set_option maxRecDepth 20000 in
theorem gX0_areMen_X0_manOfPart : GoodIn wsX0_areMen (va_wsS RX0 93 yX0_manOfPart wsX0_manOfPart) := goodIn_app (goodIn_of _ (by decide +kernel)) ggX0_areMen_X0_manOfPart
theorem dX0_areMen_0 : decode cX0_areMen 0 = .ok (.iconst 0, 1) := by decide +kernel
theorem dX0_areMen_1 : decode cX0_areMen 1 = .ok (.istore_n 2, 1) := by decide +kernel
theorem dX0_areMen_2 : decode cX0_areMen 2 = .ok (.iload_n 2, 1) := by decide +kernel
theorem dX0_areMen_3 : decode cX0_areMen 3 = .ok (.bipush 16, 2) := by decide +kernel
theorem dX0_areMen_5 : decode cX0_areMen 5 = .ok (.if_icmp .ge 21, 3) := by decide +kernel
theorem dX0_areMen_8 : decode cX0_areMen 8 = .ok (.lload_n 0, 1) := by decide +kernel
theorem dX0_areMen_9 : decode cX0_areMen 9 = .ok (.iload_n 2, 1) := by decide +kernel
theorem dX0_areMen_10 : decode cX0_areMen 10 = .ok (.invokestatic 93, 3) := by decide +kernel
theorem dX0_areMen_13 : decode cX0_areMen 13 = .ok (.bipush 12, 2) := by decide +kernel
theorem dX0_areMen_15 : decode cX0_areMen 15 = .ok (.if_icmp .le 5, 3) := by decide +kernel
theorem dX0_areMen_18 : decode cX0_areMen 18 = .ok (.iconst 0, 1) := by decide +kernel
theorem dX0_areMen_19 : decode cX0_areMen 19 = .ok (.ireturn, 1) := by decide +kernel
theorem dX0_areMen_20 : decode cX0_areMen 20 = .ok (.iinc 2 1, 3) := by decide +kernel
theorem dX0_areMen_23 : decode cX0_areMen 23 = .ok (.goto (-21), 3) := by decide +kernel
theorem dX0_areMen_26 : decode cX0_areMen 26 = .ok (.iconst 1, 1) := by decide +kernel
theorem dX0_areMen_27 : decode cX0_areMen 27 = .ok (.ireturn, 1) := by decide +kernel
theorem dX0_manOfPart_0 : decode cX0_manOfPart 0 = .ok (.iconst 4, 1) := by decide +kernel
theorem dX0_manOfPart_1 : decode cX0_manOfPart 1 = .ok (.bipush 15, 2) := by decide +kernel
theorem dX0_manOfPart_3 : decode cX0_manOfPart 3 = .ok (.iload_n 2, 1) := by decide +kernel
theorem dX0_manOfPart_4 : decode cX0_manOfPart 4 = .ok (.isub, 1) := by decide +kernel
theorem dX0_manOfPart_5 : decode cX0_manOfPart 5 = .ok (.imul, 1) := by decide +kernel
theorem dX0_manOfPart_6 : decode cX0_manOfPart 6 = .ok (.istore_n 3, 1) := by decide +kernel
theorem dX0_manOfPart_7 : decode cX0_manOfPart 7 = .ok (.lload_n 0, 1) := by decide +kernel
theorem dX0_manOfPart_8 : decode cX0_manOfPart 8 = .ok (.iload_n 3, 1) := by decide +kernel
theorem dX0_manOfPart_9 : decode cX0_manOfPart 9 = .ok (.lushr, 1) := by decide +kernel
theorem dX0_manOfPart_10 : decode cX0_manOfPart 10 = .ok (.l2i, 1) := by decide +kernel
theorem dX0_manOfPart_11 : decode cX0_manOfPart 11 = .ok (.bipush 15, 2) := by decide +kernel
theorem dX0_manOfPart_13 : decode cX0_manOfPart 13 = .ok (.iand, 1) := by decide +kernel
theorem dX0_manOfPart_14 : decode cX0_manOfPart 14 = .ok (.ireturn, 1) := by decide +kernel
set_option maxRecDepth 20000 in
theorem ggX0_takesAnother_X0_factOf : GoodIn wsX0_takesAnother wsX0_factOf := goodIn_r _ [6, 7, 8, 9, 10, 11] (by decide +kernel) (by decide +kernel)
set_option maxRecDepth 20000 in
theorem gX0_takesAnother_X0_factOf : GoodIn wsX0_takesAnother (wsV RX0 63 RX0 yX0_factOf wsX0_factOf) := goodIn_app (goodIn_of _ (by decide +kernel)) ggX0_takesAnother_X0_factOf
theorem dX0_takesAnother_0 : decode cX0_takesAnother 0 = .ok (.aload_n 0, 1) := by decide +kernel
theorem dX0_takesAnother_1 : decode cX0_takesAnother 1 = .ok (.getfield 20, 3) := by decide +kernel
theorem dX0_takesAnother_4 : decode cX0_takesAnother 4 = .ok (.ifCond .eq 13, 3) := by decide +kernel
theorem dX0_takesAnother_7 : decode cX0_takesAnother 7 = .ok (.aload_n 0, 1) := by decide +kernel
theorem dX0_takesAnother_8 : decode cX0_takesAnother 8 = .ok (.getfield 20, 3) := by decide +kernel
theorem dX0_takesAnother_11 : decode cX0_takesAnother 11 = .ok (.sipush 640, 3) := by decide +kernel
theorem dX0_takesAnother_14 : decode cX0_takesAnother 14 = .ok (.if_icmp .lt 5, 3) := by decide +kernel
theorem dX0_takesAnother_17 : decode cX0_takesAnother 17 = .ok (.iconst 0, 1) := by decide +kernel
theorem dX0_takesAnother_18 : decode cX0_takesAnother 18 = .ok (.ireturn, 1) := by decide +kernel
theorem dX0_takesAnother_19 : decode cX0_takesAnother 19 = .ok (.aload_n 0, 1) := by decide +kernel
theorem dX0_takesAnother_20 : decode cX0_takesAnother 20 = .ok (.aload_n 0, 1) := by decide +kernel
theorem dX0_takesAnother_21 : decode cX0_takesAnother 21 = .ok (.getfield 20, 3) := by decide +kernel
theorem dX0_takesAnother_24 : decode cX0_takesAnother 24 = .ok (.iconst 1, 1) := by decide +kernel
theorem dX0_takesAnother_25 : decode cX0_takesAnother 25 = .ok (.isub, 1) := by decide +kernel
theorem dX0_takesAnother_26 : decode cX0_takesAnother 26 = .ok (.iconst 2, 1) := by decide +kernel
theorem dX0_takesAnother_27 : decode cX0_takesAnother 27 = .ok (.invokevirtual 63, 3) := by decide +kernel
theorem dX0_takesAnother_30 : decode cX0_takesAnother 30 = .ok (.istore_n 1, 1) := by decide +kernel
theorem dX0_takesAnother_31 : decode cX0_takesAnother 31 = .ok (.iload_n 1, 1) := by decide +kernel
theorem dX0_takesAnother_32 : decode cX0_takesAnother 32 = .ok (.iconst 1, 1) := by decide +kernel
theorem dX0_takesAnother_33 : decode cX0_takesAnother 33 = .ok (.if_icmp .lt 8, 3) := by decide +kernel
theorem dX0_takesAnother_36 : decode cX0_takesAnother 36 = .ok (.iload_n 1, 1) := by decide +kernel
theorem dX0_takesAnother_37 : decode cX0_takesAnother 37 = .ok (.iconst 5, 1) := by decide +kernel
theorem dX0_takesAnother_38 : decode cX0_takesAnother 38 = .ok (.if_icmp .le 7, 3) := by decide +kernel
theorem dX0_takesAnother_41 : decode cX0_takesAnother 41 = .ok (.iconst 1, 1) := by decide +kernel
theorem dX0_takesAnother_42 : decode cX0_takesAnother 42 = .ok (.goto 4, 3) := by decide +kernel
theorem dX0_takesAnother_45 : decode cX0_takesAnother 45 = .ok (.iconst 0, 1) := by decide +kernel
theorem dX0_takesAnother_46 : decode cX0_takesAnother 46 = .ok (.ireturn, 1) := by decide +kernel
theorem dX0_factOf_0 : decode cX0_factOf 0 = .ok (.aload_n 0, 1) := by decide +kernel
theorem dX0_factOf_1 : decode cX0_factOf 1 = .ok (.getfield 16, 3) := by decide +kernel
theorem dX0_factOf_4 : decode cX0_factOf 4 = .ok (.iload_n 1, 1) := by decide +kernel
theorem dX0_factOf_5 : decode cX0_factOf 5 = .ok (.bipush 8, 2) := by decide +kernel
theorem dX0_factOf_7 : decode cX0_factOf 7 = .ok (.imul, 1) := by decide +kernel
theorem dX0_factOf_8 : decode cX0_factOf 8 = .ok (.iload_n 2, 1) := by decide +kernel
theorem dX0_factOf_9 : decode cX0_factOf 9 = .ok (.iadd, 1) := by decide +kernel
theorem dX0_factOf_10 : decode cX0_factOf 10 = .ok (.iaload, 1) := by decide +kernel
theorem dX0_factOf_11 : decode cX0_factOf 11 = .ok (.ireturn, 1) := by decide +kernel
set_option maxRecDepth 20000 in
theorem ggX0_append_X0_lastSame : GoodIn wsX0_append wsX0_lastSame := goodIn_r _ [13, 1, 14, 15, 16, 12, 17, 2, 18, 19, 20, 21, 4, 3, 55, 56, 57, 58] (by decide +kernel) (by decide +kernel)
set_option maxRecDepth 20000 in
theorem gX0_append_X0_lastSame : GoodIn wsX0_append (wsV RX0 79 RX0 yX0_lastSame wsX0_lastSame) := goodIn_app (goodIn_of _ (by decide +kernel)) ggX0_append_X0_lastSame
set_option maxRecDepth 20000 in
theorem ggX0_append_X0_countUpTo : GoodIn wsX0_append wsX0_countUpTo := goodIn_r _ [25, 26, 27, 28, 12, 29, 1, 14, 15, 16, 17, 2, 55, 56, 57, 58] (by decide +kernel) (by decide +kernel)
set_option maxRecDepth 20000 in
theorem gX0_append_X0_countUpTo : GoodIn wsX0_append (wsV RX0 83 RX0 yX0_countUpTo wsX0_countUpTo) := goodIn_app (goodIn_of _ (by decide +kernel)) ggX0_append_X0_countUpTo
set_option maxRecDepth 20000 in
theorem ggX0_append_X0_countGiven : GoodIn wsX0_append wsX0_countGiven := goodIn_r _ [33, 34, 35, 36, 12, 37, 3, 38, 39, 40, 55, 56, 57, 58] (by decide +kernel) (by decide +kernel)
set_option maxRecDepth 20000 in
theorem gX0_append_X0_countGiven : GoodIn wsX0_append (wsV RX0 97 RX0 yX0_countGiven wsX0_countGiven) := goodIn_app (goodIn_of _ (by decide +kernel)) ggX0_append_X0_countGiven
set_option maxRecDepth 20000 in
theorem ggX0_append_X0_isGivenDead : GoodIn wsX0_append wsX0_isGivenDead := goodIn_r _ [44, 30, 31, 32, 12, 33, 34, 35, 36, 37, 3, 38, 39, 40, 45, 46, 47, 48, 49, 50, 51, 55, 56, 57, 58] (by decide +kernel) (by decide +kernel)
set_option maxRecDepth 20000 in
theorem gX0_append_X0_isGivenDead : GoodIn wsX0_append (wsV RX0 100 RX0 yX0_isGivenDead wsX0_isGivenDead) := goodIn_app (goodIn_of _ (by decide +kernel)) ggX0_append_X0_isGivenDead
set_option maxRecDepth 20000 in
theorem ggX0_append_X0_judge : GoodIn wsX0_append wsX0_judge := goodIn_r _ [54] (by decide +kernel) (by decide +kernel)
set_option maxRecDepth 20000 in
theorem gX0_append_X0_judge : GoodIn wsX0_append (va_wsS RX0 103 yX0_judge wsX0_judge) := goodIn_app (goodIn_of _ (by decide +kernel)) ggX0_append_X0_judge
set_option maxRecDepth 20000 in
theorem ggX0_append_X0_factOf : GoodIn wsX0_append wsX0_factOf := goodIn_r _ [17, 2, 55, 56, 57, 58] (by decide +kernel) (by decide +kernel)
set_option maxRecDepth 20000 in
theorem gX0_append_X0_factOf : GoodIn wsX0_append (wsV RX0 63 RX0 yX0_factOf wsX0_factOf) := goodIn_app (goodIn_of _ (by decide +kernel)) ggX0_append_X0_factOf
theorem dX0_append_0 : decode cX0_append 0 = .ok (.aload_n 0, 1) := by decide +kernel
theorem dX0_append_1 : decode cX0_append 1 = .ok (.getfield 20, 3) := by decide +kernel
theorem dX0_append_4 : decode cX0_append 4 = .ok (.istore 5, 2) := by decide +kernel
theorem dX0_append_6 : decode cX0_append 6 = .ok (.aload_n 0, 1) := by decide +kernel
theorem dX0_append_7 : decode cX0_append 7 = .ok (.iload_n 1, 1) := by decide +kernel
theorem dX0_append_8 : decode cX0_append 8 = .ok (.invokevirtual 79, 3) := by decide +kernel
theorem dX0_append_11 : decode cX0_append 11 = .ok (.istore 6, 2) := by decide +kernel
theorem dX0_append_13 : decode cX0_append 13 = .ok (.aload_n 0, 1) := by decide +kernel
theorem dX0_append_14 : decode cX0_append 14 = .ok (.iload 6, 2) := by decide +kernel
theorem dX0_append_16 : decode cX0_append 16 = .ok (.invokevirtual 83, 3) := by decide +kernel
theorem dX0_append_19 : decode cX0_append 19 = .ok (.iconst 1, 1) := by decide +kernel
theorem dX0_append_20 : decode cX0_append 20 = .ok (.iadd, 1) := by decide +kernel
theorem dX0_append_21 : decode cX0_append 21 = .ok (.istore 7, 2) := by decide +kernel
theorem dX0_append_23 : decode cX0_append 23 = .ok (.bipush 64, 2) := by decide +kernel
theorem dX0_append_25 : decode cX0_append 25 = .ok (.aload_n 0, 1) := by decide +kernel
theorem dX0_append_26 : decode cX0_append 26 = .ok (.iconst 0, 1) := by decide +kernel
theorem dX0_append_27 : decode cX0_append 27 = .ok (.invokevirtual 97, 3) := by decide +kernel
theorem dX0_append_30 : decode cX0_append 30 = .ok (.isub, 1) := by decide +kernel
theorem dX0_append_31 : decode cX0_append 31 = .ok (.istore 8, 2) := by decide +kernel
theorem dX0_append_33 : decode cX0_append 33 = .ok (.aload_n 0, 1) := by decide +kernel
theorem dX0_append_34 : decode cX0_append 34 = .ok (.iload 8, 2) := by decide +kernel
theorem dX0_append_36 : decode cX0_append 36 = .ok (.invokevirtual 100, 3) := by decide +kernel
theorem dX0_append_39 : decode cX0_append 39 = .ok (.istore 9, 2) := by decide +kernel
theorem dX0_append_41 : decode cX0_append 41 = .ok (.iload_n 2, 1) := by decide +kernel
theorem dX0_append_42 : decode cX0_append 42 = .ok (.iload_n 3, 1) := by decide +kernel
theorem dX0_append_43 : decode cX0_append 43 = .ok (.iload 9, 2) := by decide +kernel
theorem dX0_append_45 : decode cX0_append 45 = .ok (.iload 7, 2) := by decide +kernel
theorem dX0_append_47 : decode cX0_append 47 = .ok (.iload 4, 2) := by decide +kernel
theorem dX0_append_49 : decode cX0_append 49 = .ok (.invokestatic 103, 3) := by decide +kernel
theorem dX0_append_52 : decode cX0_append 52 = .ok (.istore 10, 2) := by decide +kernel
theorem dX0_append_54 : decode cX0_append 54 = .ok (.iload 5, 2) := by decide +kernel
theorem dX0_append_56 : decode cX0_append 56 = .ok (.bipush 8, 2) := by decide +kernel
theorem dX0_append_58 : decode cX0_append 58 = .ok (.imul, 1) := by decide +kernel
theorem dX0_append_59 : decode cX0_append 59 = .ok (.istore 11, 2) := by decide +kernel
theorem dX0_append_61 : decode cX0_append 61 = .ok (.aload_n 0, 1) := by decide +kernel
theorem dX0_append_62 : decode cX0_append 62 = .ok (.getfield 16, 3) := by decide +kernel
theorem dX0_append_65 : decode cX0_append 65 = .ok (.iload 11, 2) := by decide +kernel
theorem dX0_append_67 : decode cX0_append 67 = .ok (.iconst 0, 1) := by decide +kernel
theorem dX0_append_68 : decode cX0_append 68 = .ok (.iadd, 1) := by decide +kernel
theorem dX0_append_69 : decode cX0_append 69 = .ok (.iload 7, 2) := by decide +kernel
theorem dX0_append_71 : decode cX0_append 71 = .ok (.iastore, 1) := by decide +kernel
theorem dX0_append_72 : decode cX0_append 72 = .ok (.aload_n 0, 1) := by decide +kernel
theorem dX0_append_73 : decode cX0_append 73 = .ok (.getfield 16, 3) := by decide +kernel
theorem dX0_append_76 : decode cX0_append 76 = .ok (.iload 11, 2) := by decide +kernel
theorem dX0_append_78 : decode cX0_append 78 = .ok (.iconst 1, 1) := by decide +kernel
theorem dX0_append_79 : decode cX0_append 79 = .ok (.iadd, 1) := by decide +kernel
theorem dX0_append_80 : decode cX0_append 80 = .ok (.iload 4, 2) := by decide +kernel
theorem dX0_append_82 : decode cX0_append 82 = .ok (.iastore, 1) := by decide +kernel
theorem dX0_append_83 : decode cX0_append 83 = .ok (.aload_n 0, 1) := by decide +kernel
theorem dX0_append_84 : decode cX0_append 84 = .ok (.getfield 16, 3) := by decide +kernel
theorem dX0_append_87 : decode cX0_append 87 = .ok (.iload 11, 2) := by decide +kernel
theorem dX0_append_89 : decode cX0_append 89 = .ok (.iconst 2, 1) := by decide +kernel
theorem dX0_append_90 : decode cX0_append 90 = .ok (.iadd, 1) := by decide +kernel
theorem dX0_append_91 : decode cX0_append 91 = .ok (.iload 10, 2) := by decide +kernel
theorem dX0_append_93 : decode cX0_append 93 = .ok (.iastore, 1) := by decide +kernel
theorem dX0_append_94 : decode cX0_append 94 = .ok (.aload_n 0, 1) := by decide +kernel
theorem dX0_append_95 : decode cX0_append 95 = .ok (.getfield 16, 3) := by decide +kernel
theorem dX0_append_98 : decode cX0_append 98 = .ok (.iload 11, 2) := by decide +kernel
theorem dX0_append_100 : decode cX0_append 100 = .ok (.iconst 3, 1) := by decide +kernel
theorem dX0_append_101 : decode cX0_append 101 = .ok (.iadd, 1) := by decide +kernel
theorem dX0_append_102 : decode cX0_append 102 = .ok (.iload 6, 2) := by decide +kernel
theorem dX0_append_104 : decode cX0_append 104 = .ok (.iconst (-1), 1) := by decide +kernel
theorem dX0_append_105 : decode cX0_append 105 = .ok (.if_icmp .ne 8, 3) := by decide +kernel
theorem dX0_append_108 : decode cX0_append 108 = .ok (.iload 5, 2) := by decide +kernel
theorem dX0_append_110 : decode cX0_append 110 = .ok (.goto 10, 3) := by decide +kernel
theorem dX0_append_113 : decode cX0_append 113 = .ok (.aload_n 0, 1) := by decide +kernel
theorem dX0_append_114 : decode cX0_append 114 = .ok (.iload 6, 2) := by decide +kernel
theorem dX0_append_116 : decode cX0_append 116 = .ok (.iconst 3, 1) := by decide +kernel
theorem dX0_append_117 : decode cX0_append 117 = .ok (.invokevirtual 63, 3) := by decide +kernel
theorem dX0_append_120 : decode cX0_append 120 = .ok (.iastore, 1) := by decide +kernel
theorem dX0_append_121 : decode cX0_append 121 = .ok (.aload_n 0, 1) := by decide +kernel
theorem dX0_append_122 : decode cX0_append 122 = .ok (.getfield 16, 3) := by decide +kernel
theorem dX0_append_125 : decode cX0_append 125 = .ok (.iload 11, 2) := by decide +kernel
theorem dX0_append_127 : decode cX0_append 127 = .ok (.iconst 4, 1) := by decide +kernel
theorem dX0_append_128 : decode cX0_append 128 = .ok (.iadd, 1) := by decide +kernel
theorem dX0_append_129 : decode cX0_append 129 = .ok (.iload 6, 2) := by decide +kernel
theorem dX0_append_131 : decode cX0_append 131 = .ok (.iastore, 1) := by decide +kernel
theorem dX0_append_132 : decode cX0_append 132 = .ok (.aload_n 0, 1) := by decide +kernel
theorem dX0_append_133 : decode cX0_append 133 = .ok (.getfield 16, 3) := by decide +kernel
theorem dX0_append_136 : decode cX0_append 136 = .ok (.iload 11, 2) := by decide +kernel
theorem dX0_append_138 : decode cX0_append 138 = .ok (.iconst 5, 1) := by decide +kernel
theorem dX0_append_139 : decode cX0_append 139 = .ok (.iadd, 1) := by decide +kernel
theorem dX0_append_140 : decode cX0_append 140 = .ok (.iload_n 1, 1) := by decide +kernel
theorem dX0_append_141 : decode cX0_append 141 = .ok (.iastore, 1) := by decide +kernel
theorem dX0_append_142 : decode cX0_append 142 = .ok (.aload_n 0, 1) := by decide +kernel
theorem dX0_append_143 : decode cX0_append 143 = .ok (.getfield 16, 3) := by decide +kernel
theorem dX0_append_146 : decode cX0_append 146 = .ok (.iload 11, 2) := by decide +kernel
theorem dX0_append_148 : decode cX0_append 148 = .ok (.bipush 6, 2) := by decide +kernel
theorem dX0_append_150 : decode cX0_append 150 = .ok (.iadd, 1) := by decide +kernel
theorem dX0_append_151 : decode cX0_append 151 = .ok (.iload 9, 2) := by decide +kernel
theorem dX0_append_153 : decode cX0_append 153 = .ok (.ifCond .eq 7, 3) := by decide +kernel
theorem dX0_append_156 : decode cX0_append 156 = .ok (.iconst 1, 1) := by decide +kernel
theorem dX0_append_157 : decode cX0_append 157 = .ok (.goto 4, 3) := by decide +kernel
theorem dX0_append_160 : decode cX0_append 160 = .ok (.iconst 0, 1) := by decide +kernel
theorem dX0_append_161 : decode cX0_append 161 = .ok (.iastore, 1) := by decide +kernel
theorem dX0_append_162 : decode cX0_append 162 = .ok (.aload_n 0, 1) := by decide +kernel
theorem dX0_append_163 : decode cX0_append 163 = .ok (.getfield 16, 3) := by decide +kernel
theorem dX0_append_166 : decode cX0_append 166 = .ok (.iload 11, 2) := by decide +kernel
theorem dX0_append_168 : decode cX0_append 168 = .ok (.bipush 7, 2) := by decide +kernel
theorem dX0_append_170 : decode cX0_append 170 = .ok (.iadd, 1) := by decide +kernel
theorem dX0_append_171 : decode cX0_append 171 = .ok (.iload 8, 2) := by decide +kernel
theorem dX0_append_173 : decode cX0_append 173 = .ok (.iastore, 1) := by decide +kernel
theorem dX0_append_174 : decode cX0_append 174 = .ok (.aload_n 0, 1) := by decide +kernel
theorem dX0_append_175 : decode cX0_append 175 = .ok (.getfield 9, 3) := by decide +kernel
theorem dX0_append_178 : decode cX0_append 178 = .ok (.iconst 0, 1) := by decide +kernel
theorem dX0_append_179 : decode cX0_append 179 = .ok (.aload_n 0, 1) := by decide +kernel
theorem dX0_append_180 : decode cX0_append 180 = .ok (.getfield 13, 3) := by decide +kernel
theorem dX0_append_183 : decode cX0_append 183 = .ok (.iload 5, 2) := by decide +kernel
theorem dX0_append_185 : decode cX0_append 185 = .ok (.iconst 4, 1) := by decide +kernel
theorem dX0_append_186 : decode cX0_append 186 = .ok (.imul, 1) := by decide +kernel
theorem dX0_append_187 : decode cX0_append 187 = .ok (.iconst 4, 1) := by decide +kernel
theorem dX0_append_188 : decode cX0_append 188 = .ok (.invokestatic 107, 3) := by decide +kernel
theorem dX0_append_191 : decode cX0_append 191 = .ok (.aload_n 0, 1) := by decide +kernel
theorem dX0_append_192 : decode cX0_append 192 = .ok (.iload 5, 2) := by decide +kernel
theorem dX0_append_194 : decode cX0_append 194 = .ok (.iconst 1, 1) := by decide +kernel
theorem dX0_append_195 : decode cX0_append 195 = .ok (.iadd, 1) := by decide +kernel
theorem dX0_append_196 : decode cX0_append 196 = .ok (.putfield 20, 3) := by decide +kernel
theorem dX0_append_199 : decode cX0_append 199 = .ok (.iload 10, 2) := by decide +kernel
theorem dX0_append_201 : decode cX0_append 201 = .ok (.ireturn, 1) := by decide +kernel
set_option maxRecDepth 20000 in
theorem ggX0_lastSame_X0_factOf : GoodIn wsX0_lastSame wsX0_factOf := goodIn_r _ [6, 7, 14, 15, 16, 17] (by decide +kernel) (by decide +kernel)
set_option maxRecDepth 20000 in
theorem gX0_lastSame_X0_factOf : GoodIn wsX0_lastSame (wsV RX0 63 RX0 yX0_factOf wsX0_factOf) := goodIn_app (goodIn_of _ (by decide +kernel)) ggX0_lastSame_X0_factOf
set_option maxRecDepth 20000 in
theorem ggX0_lastSame_X0_hasGivenSquares : GoodIn wsX0_lastSame wsX0_hasGivenSquares := goodIn_r _ [11, 12, 13, 14, 15, 16, 17] (by decide +kernel) (by decide +kernel)
set_option maxRecDepth 20000 in
theorem gX0_lastSame_X0_hasGivenSquares : GoodIn wsX0_lastSame (wsV RX0 113 RX0 yX0_hasGivenSquares wsX0_hasGivenSquares) := goodIn_app (goodIn_of _ (by decide +kernel)) ggX0_lastSame_X0_hasGivenSquares
theorem dX0_lastSame_0 : decode cX0_lastSame 0 = .ok (.aload_n 0, 1) := by decide +kernel
theorem dX0_lastSame_1 : decode cX0_lastSame 1 = .ok (.getfield 20, 3) := by decide +kernel
theorem dX0_lastSame_4 : decode cX0_lastSame 4 = .ok (.iconst 1, 1) := by decide +kernel
theorem dX0_lastSame_5 : decode cX0_lastSame 5 = .ok (.isub, 1) := by decide +kernel
theorem dX0_lastSame_6 : decode cX0_lastSame 6 = .ok (.istore_n 2, 1) := by decide +kernel
theorem dX0_lastSame_7 : decode cX0_lastSame 7 = .ok (.iload_n 2, 1) := by decide +kernel
theorem dX0_lastSame_8 : decode cX0_lastSame 8 = .ok (.ifCond .lt 29, 3) := by decide +kernel
theorem dX0_lastSame_11 : decode cX0_lastSame 11 = .ok (.aload_n 0, 1) := by decide +kernel
theorem dX0_lastSame_12 : decode cX0_lastSame 12 = .ok (.iload_n 2, 1) := by decide +kernel
theorem dX0_lastSame_13 : decode cX0_lastSame 13 = .ok (.iconst 5, 1) := by decide +kernel
theorem dX0_lastSame_14 : decode cX0_lastSame 14 = .ok (.invokevirtual 63, 3) := by decide +kernel
theorem dX0_lastSame_17 : decode cX0_lastSame 17 = .ok (.iload_n 1, 1) := by decide +kernel
theorem dX0_lastSame_18 : decode cX0_lastSame 18 = .ok (.if_icmp .ne 13, 3) := by decide +kernel
theorem dX0_lastSame_21 : decode cX0_lastSame 21 = .ok (.aload_n 0, 1) := by decide +kernel
theorem dX0_lastSame_22 : decode cX0_lastSame 22 = .ok (.iload_n 2, 1) := by decide +kernel
theorem dX0_lastSame_23 : decode cX0_lastSame 23 = .ok (.invokevirtual 113, 3) := by decide +kernel
theorem dX0_lastSame_26 : decode cX0_lastSame 26 = .ok (.ifCond .eq 5, 3) := by decide +kernel
theorem dX0_lastSame_29 : decode cX0_lastSame 29 = .ok (.iload_n 2, 1) := by decide +kernel
theorem dX0_lastSame_30 : decode cX0_lastSame 30 = .ok (.ireturn, 1) := by decide +kernel
theorem dX0_lastSame_31 : decode cX0_lastSame 31 = .ok (.iinc 2 (-1), 3) := by decide +kernel
theorem dX0_lastSame_34 : decode cX0_lastSame 34 = .ok (.goto (-27), 3) := by decide +kernel
theorem dX0_lastSame_37 : decode cX0_lastSame 37 = .ok (.iconst (-1), 1) := by decide +kernel
theorem dX0_lastSame_38 : decode cX0_lastSame 38 = .ok (.ireturn, 1) := by decide +kernel
theorem dX0_hasGivenSquares_0 : decode cX0_hasGivenSquares 0 = .ok (.iconst 0, 1) := by decide +kernel
theorem dX0_hasGivenSquares_1 : decode cX0_hasGivenSquares 1 = .ok (.istore_n 2, 1) := by decide +kernel
theorem dX0_hasGivenSquares_2 : decode cX0_hasGivenSquares 2 = .ok (.iload_n 2, 1) := by decide +kernel
theorem dX0_hasGivenSquares_3 : decode cX0_hasGivenSquares 3 = .ok (.iconst 4, 1) := by decide +kernel
theorem dX0_hasGivenSquares_4 : decode cX0_hasGivenSquares 4 = .ok (.if_icmp .ge 31, 3) := by decide +kernel
theorem dX0_hasGivenSquares_7 : decode cX0_hasGivenSquares 7 = .ok (.aload_n 0, 1) := by decide +kernel
theorem dX0_hasGivenSquares_8 : decode cX0_hasGivenSquares 8 = .ok (.getfield 13, 3) := by decide +kernel
theorem dX0_hasGivenSquares_11 : decode cX0_hasGivenSquares 11 = .ok (.iload_n 1, 1) := by decide +kernel
theorem dX0_hasGivenSquares_12 : decode cX0_hasGivenSquares 12 = .ok (.iconst 4, 1) := by decide +kernel
theorem dX0_hasGivenSquares_13 : decode cX0_hasGivenSquares 13 = .ok (.imul, 1) := by decide +kernel
theorem dX0_hasGivenSquares_14 : decode cX0_hasGivenSquares 14 = .ok (.iload_n 2, 1) := by decide +kernel
theorem dX0_hasGivenSquares_15 : decode cX0_hasGivenSquares 15 = .ok (.iadd, 1) := by decide +kernel
theorem dX0_hasGivenSquares_16 : decode cX0_hasGivenSquares 16 = .ok (.laload, 1) := by decide +kernel
theorem dX0_hasGivenSquares_17 : decode cX0_hasGivenSquares 17 = .ok (.aload_n 0, 1) := by decide +kernel
theorem dX0_hasGivenSquares_18 : decode cX0_hasGivenSquares 18 = .ok (.getfield 9, 3) := by decide +kernel
theorem dX0_hasGivenSquares_21 : decode cX0_hasGivenSquares 21 = .ok (.iload_n 2, 1) := by decide +kernel
theorem dX0_hasGivenSquares_22 : decode cX0_hasGivenSquares 22 = .ok (.laload, 1) := by decide +kernel
theorem dX0_hasGivenSquares_23 : decode cX0_hasGivenSquares 23 = .ok (.lcmp, 1) := by decide +kernel
theorem dX0_hasGivenSquares_24 : decode cX0_hasGivenSquares 24 = .ok (.ifCond .eq 5, 3) := by decide +kernel
theorem dX0_hasGivenSquares_27 : decode cX0_hasGivenSquares 27 = .ok (.iconst 0, 1) := by decide +kernel
theorem dX0_hasGivenSquares_28 : decode cX0_hasGivenSquares 28 = .ok (.ireturn, 1) := by decide +kernel
theorem dX0_hasGivenSquares_29 : decode cX0_hasGivenSquares 29 = .ok (.iinc 2 1, 3) := by decide +kernel
theorem dX0_hasGivenSquares_32 : decode cX0_hasGivenSquares 32 = .ok (.goto (-30), 3) := by decide +kernel
theorem dX0_hasGivenSquares_35 : decode cX0_hasGivenSquares 35 = .ok (.iconst 1, 1) := by decide +kernel
theorem dX0_hasGivenSquares_36 : decode cX0_hasGivenSquares 36 = .ok (.ireturn, 1) := by decide +kernel
set_option maxRecDepth 20000 in
theorem ggX0_countUpTo_X0_isPosition : GoodIn wsX0_countUpTo wsX0_isPosition := goodIn_r _ [5, 6, 12, 13, 14, 15] (by decide +kernel) (by decide +kernel)
set_option maxRecDepth 20000 in
theorem gX0_countUpTo_X0_isPosition : GoodIn wsX0_countUpTo (wsV RX0 67 RX0 yX0_isPosition wsX0_isPosition) := goodIn_app (goodIn_of _ (by decide +kernel)) ggX0_countUpTo_X0_isPosition
set_option maxRecDepth 20000 in
theorem ggX0_countUpTo_X0_factOf : GoodIn wsX0_countUpTo wsX0_factOf := goodIn_r _ [10, 11, 12, 13, 14, 15] (by decide +kernel) (by decide +kernel)
set_option maxRecDepth 20000 in
theorem gX0_countUpTo_X0_factOf : GoodIn wsX0_countUpTo (wsV RX0 63 RX0 yX0_factOf wsX0_factOf) := goodIn_app (goodIn_of _ (by decide +kernel)) ggX0_countUpTo_X0_factOf
theorem dX0_countUpTo_0 : decode cX0_countUpTo 0 = .ok (.aload_n 0, 1) := by decide +kernel
theorem dX0_countUpTo_1 : decode cX0_countUpTo 1 = .ok (.iload_n 1, 1) := by decide +kernel
theorem dX0_countUpTo_2 : decode cX0_countUpTo 2 = .ok (.invokevirtual 67, 3) := by decide +kernel
theorem dX0_countUpTo_5 : decode cX0_countUpTo 5 = .ok (.ifCond .eq 12, 3) := by decide +kernel
theorem dX0_countUpTo_8 : decode cX0_countUpTo 8 = .ok (.aload_n 0, 1) := by decide +kernel
theorem dX0_countUpTo_9 : decode cX0_countUpTo 9 = .ok (.iload_n 1, 1) := by decide +kernel
theorem dX0_countUpTo_10 : decode cX0_countUpTo 10 = .ok (.iconst 0, 1) := by decide +kernel
theorem dX0_countUpTo_11 : decode cX0_countUpTo 11 = .ok (.invokevirtual 63, 3) := by decide +kernel
theorem dX0_countUpTo_14 : decode cX0_countUpTo 14 = .ok (.goto 4, 3) := by decide +kernel
theorem dX0_countUpTo_17 : decode cX0_countUpTo 17 = .ok (.iconst 0, 1) := by decide +kernel
theorem dX0_countUpTo_18 : decode cX0_countUpTo 18 = .ok (.ireturn, 1) := by decide +kernel
theorem dX0_judge_0 : decode cX0_judge 0 = .ok (.iload_n 0, 1) := by decide +kernel
theorem dX0_judge_1 : decode cX0_judge 1 = .ok (.ifCond .ne 13, 3) := by decide +kernel
theorem dX0_judge_4 : decode cX0_judge 4 = .ok (.iload_n 1, 1) := by decide +kernel
theorem dX0_judge_5 : decode cX0_judge 5 = .ok (.ifCond .eq 7, 3) := by decide +kernel
theorem dX0_judge_8 : decode cX0_judge 8 = .ok (.iconst 1, 1) := by decide +kernel
theorem dX0_judge_9 : decode cX0_judge 9 = .ok (.goto 4, 3) := by decide +kernel
theorem dX0_judge_12 : decode cX0_judge 12 = .ok (.iconst 2, 1) := by decide +kernel
theorem dX0_judge_13 : decode cX0_judge 13 = .ok (.ireturn, 1) := by decide +kernel
theorem dX0_judge_14 : decode cX0_judge 14 = .ok (.iload_n 2, 1) := by decide +kernel
theorem dX0_judge_15 : decode cX0_judge 15 = .ok (.ifCond .eq 5, 3) := by decide +kernel
theorem dX0_judge_18 : decode cX0_judge 18 = .ok (.iconst 3, 1) := by decide +kernel
theorem dX0_judge_19 : decode cX0_judge 19 = .ok (.ireturn, 1) := by decide +kernel
theorem dX0_judge_20 : decode cX0_judge 20 = .ok (.iload_n 3, 1) := by decide +kernel
theorem dX0_judge_21 : decode cX0_judge 21 = .ok (.iconst 5, 1) := by decide +kernel
theorem dX0_judge_22 : decode cX0_judge 22 = .ok (.if_icmp .lt 5, 3) := by decide +kernel
theorem dX0_judge_25 : decode cX0_judge 25 = .ok (.iconst 4, 1) := by decide +kernel
theorem dX0_judge_26 : decode cX0_judge 26 = .ok (.ireturn, 1) := by decide +kernel
theorem dX0_judge_27 : decode cX0_judge 27 = .ok (.iload 4, 2) := by decide +kernel
theorem dX0_judge_29 : decode cX0_judge 29 = .ok (.sipush 150, 3) := by decide +kernel
theorem dX0_judge_32 : decode cX0_judge 32 = .ok (.if_icmp .lt 5, 3) := by decide +kernel
theorem dX0_judge_35 : decode cX0_judge 35 = .ok (.iconst 5, 1) := by decide +kernel
theorem dX0_judge_36 : decode cX0_judge 36 = .ok (.ireturn, 1) := by decide +kernel
theorem dX0_judge_37 : decode cX0_judge 37 = .ok (.iload_n 3, 1) := by decide +kernel
theorem dX0_judge_38 : decode cX0_judge 38 = .ok (.iconst 3, 1) := by decide +kernel
theorem dX0_judge_39 : decode cX0_judge 39 = .ok (.if_icmp .lt 18, 3) := by decide +kernel
theorem dX0_judge_42 : decode cX0_judge 42 = .ok (.iload 4, 2) := by decide +kernel
theorem dX0_judge_44 : decode cX0_judge 44 = .ok (.bipush 100, 2) := by decide +kernel
theorem dX0_judge_46 : decode cX0_judge 46 = .ok (.if_icmp .lt 8, 3) := by decide +kernel
theorem dX0_judge_49 : decode cX0_judge 49 = .ok (.bipush 8, 2) := by decide +kernel
theorem dX0_judge_51 : decode cX0_judge 51 = .ok (.goto 5, 3) := by decide +kernel
theorem dX0_judge_54 : decode cX0_judge 54 = .ok (.bipush 6, 2) := by decide +kernel
theorem dX0_judge_56 : decode cX0_judge 56 = .ok (.ireturn, 1) := by decide +kernel
theorem dX0_judge_57 : decode cX0_judge 57 = .ok (.iload 4, 2) := by decide +kernel
theorem dX0_judge_59 : decode cX0_judge 59 = .ok (.bipush 100, 2) := by decide +kernel
theorem dX0_judge_61 : decode cX0_judge 61 = .ok (.if_icmp .lt 8, 3) := by decide +kernel
theorem dX0_judge_64 : decode cX0_judge 64 = .ok (.bipush 7, 2) := by decide +kernel
theorem dX0_judge_66 : decode cX0_judge 66 = .ok (.goto 4, 3) := by decide +kernel
theorem dX0_judge_69 : decode cX0_judge 69 = .ok (.iconst 0, 1) := by decide +kernel
theorem dX0_judge_70 : decode cX0_judge 70 = .ok (.ireturn, 1) := by decide +kernel
set_option maxRecDepth 20000 in
theorem ggX0_isGivenDead_X0_countGiven : GoodIn wsX0_isGivenDead wsX0_countGiven := goodIn_r _ [5, 6, 7, 8, 4, 9, 10, 11, 12, 13, 21, 22, 23, 24] (by decide +kernel) (by decide +kernel)
set_option maxRecDepth 20000 in
theorem gX0_isGivenDead_X0_countGiven : GoodIn wsX0_isGivenDead (wsV RX0 97 RX0 yX0_countGiven wsX0_countGiven) := goodIn_app (goodIn_of _ (by decide +kernel)) ggX0_isGivenDead_X0_countGiven
set_option maxRecDepth 20000 in
theorem ggX0_isGivenDead_X0_firstSquareGiven : GoodIn wsX0_isGivenDead wsX0_firstSquareGiven := goodIn_r _ [17, 6, 7, 8, 4, 9, 10, 11, 12, 13, 21, 22, 23, 24] (by decide +kernel) (by decide +kernel)
set_option maxRecDepth 20000 in
theorem gX0_isGivenDead_X0_firstSquareGiven : GoodIn wsX0_isGivenDead (wsV RX0 116 RX0 yX0_firstSquareGiven wsX0_firstSquareGiven) := goodIn_app (goodIn_of _ (by decide +kernel)) ggX0_isGivenDead_X0_firstSquareGiven
set_option maxRecDepth 20000 in
theorem ggX0_isGivenDead_X0_colourOf : GoodIn wsX0_isGivenDead wsX0_colourOf := goodIn_r _ [20] (by decide +kernel) (by decide +kernel)
set_option maxRecDepth 20000 in
theorem gX0_isGivenDead_X0_colourOf : GoodIn wsX0_isGivenDead (va_wsS RX0 119 yX0_colourOf wsX0_colourOf) := goodIn_app (goodIn_of _ (by decide +kernel)) ggX0_isGivenDead_X0_colourOf
theorem dX0_isGivenDead_0 : decode cX0_isGivenDead 0 = .ok (.aload_n 0, 1) := by decide +kernel
theorem dX0_isGivenDead_1 : decode cX0_isGivenDead 1 = .ok (.bipush 6, 2) := by decide +kernel
theorem dX0_isGivenDead_3 : decode cX0_isGivenDead 3 = .ok (.invokevirtual 97, 3) := by decide +kernel
theorem dX0_isGivenDead_6 : decode cX0_isGivenDead 6 = .ok (.iconst 1, 1) := by decide +kernel
theorem dX0_isGivenDead_7 : decode cX0_isGivenDead 7 = .ok (.if_icmp .ne 13, 3) := by decide +kernel
theorem dX0_isGivenDead_10 : decode cX0_isGivenDead 10 = .ok (.aload_n 0, 1) := by decide +kernel
theorem dX0_isGivenDead_11 : decode cX0_isGivenDead 11 = .ok (.bipush 12, 2) := by decide +kernel
theorem dX0_isGivenDead_13 : decode cX0_isGivenDead 13 = .ok (.invokevirtual 97, 3) := by decide +kernel
theorem dX0_isGivenDead_16 : decode cX0_isGivenDead 16 = .ok (.iconst 1, 1) := by decide +kernel
theorem dX0_isGivenDead_17 : decode cX0_isGivenDead 17 = .ok (.if_icmp .eq 5, 3) := by decide +kernel
theorem dX0_isGivenDead_20 : decode cX0_isGivenDead 20 = .ok (.iconst 0, 1) := by decide +kernel
theorem dX0_isGivenDead_21 : decode cX0_isGivenDead 21 = .ok (.ireturn, 1) := by decide +kernel
theorem dX0_isGivenDead_22 : decode cX0_isGivenDead 22 = .ok (.iload_n 1, 1) := by decide +kernel
theorem dX0_isGivenDead_23 : decode cX0_isGivenDead 23 = .ok (.iconst 2, 1) := by decide +kernel
theorem dX0_isGivenDead_24 : decode cX0_isGivenDead 24 = .ok (.if_icmp .ne 5, 3) := by decide +kernel
theorem dX0_isGivenDead_27 : decode cX0_isGivenDead 27 = .ok (.iconst 1, 1) := by decide +kernel
theorem dX0_isGivenDead_28 : decode cX0_isGivenDead 28 = .ok (.ireturn, 1) := by decide +kernel
theorem dX0_isGivenDead_29 : decode cX0_isGivenDead 29 = .ok (.aload_n 0, 1) := by decide +kernel
theorem dX0_isGivenDead_30 : decode cX0_isGivenDead 30 = .ok (.iconst 3, 1) := by decide +kernel
theorem dX0_isGivenDead_31 : decode cX0_isGivenDead 31 = .ok (.invokevirtual 97, 3) := by decide +kernel
theorem dX0_isGivenDead_34 : decode cX0_isGivenDead 34 = .ok (.istore_n 2, 1) := by decide +kernel
theorem dX0_isGivenDead_35 : decode cX0_isGivenDead 35 = .ok (.aload_n 0, 1) := by decide +kernel
theorem dX0_isGivenDead_36 : decode cX0_isGivenDead 36 = .ok (.bipush 9, 2) := by decide +kernel
theorem dX0_isGivenDead_38 : decode cX0_isGivenDead 38 = .ok (.invokevirtual 97, 3) := by decide +kernel
theorem dX0_isGivenDead_41 : decode cX0_isGivenDead 41 = .ok (.istore_n 3, 1) := by decide +kernel
theorem dX0_isGivenDead_42 : decode cX0_isGivenDead 42 = .ok (.iload_n 1, 1) := by decide +kernel
theorem dX0_isGivenDead_43 : decode cX0_isGivenDead 43 = .ok (.iconst 3, 1) := by decide +kernel
theorem dX0_isGivenDead_44 : decode cX0_isGivenDead 44 = .ok (.if_icmp .ne 29, 3) := by decide +kernel
theorem dX0_isGivenDead_47 : decode cX0_isGivenDead 47 = .ok (.iload_n 2, 1) := by decide +kernel
theorem dX0_isGivenDead_48 : decode cX0_isGivenDead 48 = .ok (.iload_n 3, 1) := by decide +kernel
theorem dX0_isGivenDead_49 : decode cX0_isGivenDead 49 = .ok (.iadd, 1) := by decide +kernel
theorem dX0_isGivenDead_50 : decode cX0_isGivenDead 50 = .ok (.aload_n 0, 1) := by decide +kernel
theorem dX0_isGivenDead_51 : decode cX0_isGivenDead 51 = .ok (.iconst 2, 1) := by decide +kernel
theorem dX0_isGivenDead_52 : decode cX0_isGivenDead 52 = .ok (.invokevirtual 97, 3) := by decide +kernel
theorem dX0_isGivenDead_55 : decode cX0_isGivenDead 55 = .ok (.iadd, 1) := by decide +kernel
theorem dX0_isGivenDead_56 : decode cX0_isGivenDead 56 = .ok (.aload_n 0, 1) := by decide +kernel
theorem dX0_isGivenDead_57 : decode cX0_isGivenDead 57 = .ok (.bipush 8, 2) := by decide +kernel
theorem dX0_isGivenDead_59 : decode cX0_isGivenDead 59 = .ok (.invokevirtual 97, 3) := by decide +kernel
theorem dX0_isGivenDead_62 : decode cX0_isGivenDead 62 = .ok (.iadd, 1) := by decide +kernel
theorem dX0_isGivenDead_63 : decode cX0_isGivenDead 63 = .ok (.iconst 1, 1) := by decide +kernel
theorem dX0_isGivenDead_64 : decode cX0_isGivenDead 64 = .ok (.if_icmp .ne 7, 3) := by decide +kernel
theorem dX0_isGivenDead_67 : decode cX0_isGivenDead 67 = .ok (.iconst 1, 1) := by decide +kernel
theorem dX0_isGivenDead_68 : decode cX0_isGivenDead 68 = .ok (.goto 4, 3) := by decide +kernel
theorem dX0_isGivenDead_71 : decode cX0_isGivenDead 71 = .ok (.iconst 0, 1) := by decide +kernel
theorem dX0_isGivenDead_72 : decode cX0_isGivenDead 72 = .ok (.ireturn, 1) := by decide +kernel
theorem dX0_isGivenDead_73 : decode cX0_isGivenDead 73 = .ok (.iload_n 1, 1) := by decide +kernel
theorem dX0_isGivenDead_74 : decode cX0_isGivenDead 74 = .ok (.iconst 4, 1) := by decide +kernel
theorem dX0_isGivenDead_75 : decode cX0_isGivenDead 75 = .ok (.if_icmp .ne 37, 3) := by decide +kernel
theorem dX0_isGivenDead_78 : decode cX0_isGivenDead 78 = .ok (.iload_n 2, 1) := by decide +kernel
theorem dX0_isGivenDead_79 : decode cX0_isGivenDead 79 = .ok (.iconst 1, 1) := by decide +kernel
theorem dX0_isGivenDead_80 : decode cX0_isGivenDead 80 = .ok (.if_icmp .ne 32, 3) := by decide +kernel
theorem dX0_isGivenDead_83 : decode cX0_isGivenDead 83 = .ok (.iload_n 3, 1) := by decide +kernel
theorem dX0_isGivenDead_84 : decode cX0_isGivenDead 84 = .ok (.iconst 1, 1) := by decide +kernel
theorem dX0_isGivenDead_85 : decode cX0_isGivenDead 85 = .ok (.if_icmp .ne 27, 3) := by decide +kernel
theorem dX0_isGivenDead_88 : decode cX0_isGivenDead 88 = .ok (.aload_n 0, 1) := by decide +kernel
theorem dX0_isGivenDead_89 : decode cX0_isGivenDead 89 = .ok (.iconst 3, 1) := by decide +kernel
theorem dX0_isGivenDead_90 : decode cX0_isGivenDead 90 = .ok (.invokevirtual 116, 3) := by decide +kernel
theorem dX0_isGivenDead_93 : decode cX0_isGivenDead 93 = .ok (.invokestatic 119, 3) := by decide +kernel
theorem dX0_isGivenDead_96 : decode cX0_isGivenDead 96 = .ok (.aload_n 0, 1) := by decide +kernel
theorem dX0_isGivenDead_97 : decode cX0_isGivenDead 97 = .ok (.bipush 9, 2) := by decide +kernel
theorem dX0_isGivenDead_99 : decode cX0_isGivenDead 99 = .ok (.invokevirtual 116, 3) := by decide +kernel
theorem dX0_isGivenDead_102 : decode cX0_isGivenDead 102 = .ok (.invokestatic 119, 3) := by decide +kernel
theorem dX0_isGivenDead_105 : decode cX0_isGivenDead 105 = .ok (.if_icmp .ne 7, 3) := by decide +kernel
theorem dX0_isGivenDead_108 : decode cX0_isGivenDead 108 = .ok (.iconst 1, 1) := by decide +kernel
theorem dX0_isGivenDead_109 : decode cX0_isGivenDead 109 = .ok (.goto 4, 3) := by decide +kernel
theorem dX0_isGivenDead_112 : decode cX0_isGivenDead 112 = .ok (.iconst 0, 1) := by decide +kernel
theorem dX0_isGivenDead_113 : decode cX0_isGivenDead 113 = .ok (.ireturn, 1) := by decide +kernel
set_option maxRecDepth 20000 in
theorem ggX0_countGiven_X0_manGiven : GoodIn wsX0_countGiven wsX0_manGiven := goodIn_r _ [5, 6, 7, 8, 4, 9, 10, 11, 12, 13] (by decide +kernel) (by decide +kernel)
set_option maxRecDepth 20000 in
theorem gX0_countGiven_X0_manGiven : GoodIn wsX0_countGiven (wsV RX0 122 RX0 yX0_manGiven wsX0_manGiven) := goodIn_app (goodIn_of _ (by decide +kernel)) ggX0_countGiven_X0_manGiven
theorem dX0_countGiven_0 : decode cX0_countGiven 0 = .ok (.iconst 0, 1) := by decide +kernel
theorem dX0_countGiven_1 : decode cX0_countGiven 1 = .ok (.istore_n 2, 1) := by decide +kernel
theorem dX0_countGiven_2 : decode cX0_countGiven 2 = .ok (.iconst 0, 1) := by decide +kernel
theorem dX0_countGiven_3 : decode cX0_countGiven 3 = .ok (.istore_n 3, 1) := by decide +kernel
theorem dX0_countGiven_4 : decode cX0_countGiven 4 = .ok (.iload_n 3, 1) := by decide +kernel
theorem dX0_countGiven_5 : decode cX0_countGiven 5 = .ok (.bipush 64, 2) := by decide +kernel
theorem dX0_countGiven_7 : decode cX0_countGiven 7 = .ok (.if_icmp .ge 21, 3) := by decide +kernel
theorem dX0_countGiven_10 : decode cX0_countGiven 10 = .ok (.aload_n 0, 1) := by decide +kernel
theorem dX0_countGiven_11 : decode cX0_countGiven 11 = .ok (.iload_n 3, 1) := by decide +kernel
theorem dX0_countGiven_12 : decode cX0_countGiven 12 = .ok (.invokevirtual 122, 3) := by decide +kernel
theorem dX0_countGiven_15 : decode cX0_countGiven 15 = .ok (.iload_n 1, 1) := by decide +kernel
theorem dX0_countGiven_16 : decode cX0_countGiven 16 = .ok (.if_icmp .ne 6, 3) := by decide +kernel
theorem dX0_countGiven_19 : decode cX0_countGiven 19 = .ok (.iinc 2 1, 3) := by decide +kernel
theorem dX0_countGiven_22 : decode cX0_countGiven 22 = .ok (.iinc 3 1, 3) := by decide +kernel
theorem dX0_countGiven_25 : decode cX0_countGiven 25 = .ok (.goto (-21), 3) := by decide +kernel
theorem dX0_countGiven_28 : decode cX0_countGiven 28 = .ok (.iload_n 2, 1) := by decide +kernel
theorem dX0_countGiven_29 : decode cX0_countGiven 29 = .ok (.ireturn, 1) := by decide +kernel
set_option maxRecDepth 20000 in
theorem ggX0_firstSquareGiven_X0_manGiven : GoodIn wsX0_firstSquareGiven wsX0_manGiven := goodIn_r _ [5, 6, 7, 8, 4, 9, 10, 11, 12, 13] (by decide +kernel) (by decide +kernel)
set_option maxRecDepth 20000 in
theorem gX0_firstSquareGiven_X0_manGiven : GoodIn wsX0_firstSquareGiven (wsV RX0 122 RX0 yX0_manGiven wsX0_manGiven) := goodIn_app (goodIn_of _ (by decide +kernel)) ggX0_firstSquareGiven_X0_manGiven
theorem dX0_firstSquareGiven_0 : decode cX0_firstSquareGiven 0 = .ok (.iconst 0, 1) := by decide +kernel
theorem dX0_firstSquareGiven_1 : decode cX0_firstSquareGiven 1 = .ok (.istore_n 2, 1) := by decide +kernel
theorem dX0_firstSquareGiven_2 : decode cX0_firstSquareGiven 2 = .ok (.iload_n 2, 1) := by decide +kernel
theorem dX0_firstSquareGiven_3 : decode cX0_firstSquareGiven 3 = .ok (.bipush 64, 2) := by decide +kernel
theorem dX0_firstSquareGiven_5 : decode cX0_firstSquareGiven 5 = .ok (.if_icmp .ge 20, 3) := by decide +kernel
theorem dX0_firstSquareGiven_8 : decode cX0_firstSquareGiven 8 = .ok (.aload_n 0, 1) := by decide +kernel
theorem dX0_firstSquareGiven_9 : decode cX0_firstSquareGiven 9 = .ok (.iload_n 2, 1) := by decide +kernel
theorem dX0_firstSquareGiven_10 : decode cX0_firstSquareGiven 10 = .ok (.invokevirtual 122, 3) := by decide +kernel
theorem dX0_firstSquareGiven_13 : decode cX0_firstSquareGiven 13 = .ok (.iload_n 1, 1) := by decide +kernel
theorem dX0_firstSquareGiven_14 : decode cX0_firstSquareGiven 14 = .ok (.if_icmp .ne 5, 3) := by decide +kernel
theorem dX0_firstSquareGiven_17 : decode cX0_firstSquareGiven 17 = .ok (.iload_n 2, 1) := by decide +kernel
theorem dX0_firstSquareGiven_18 : decode cX0_firstSquareGiven 18 = .ok (.ireturn, 1) := by decide +kernel
theorem dX0_firstSquareGiven_19 : decode cX0_firstSquareGiven 19 = .ok (.iinc 2 1, 3) := by decide +kernel
theorem dX0_firstSquareGiven_22 : decode cX0_firstSquareGiven 22 = .ok (.goto (-20), 3) := by decide +kernel
theorem dX0_firstSquareGiven_25 : decode cX0_firstSquareGiven 25 = .ok (.iconst (-1), 1) := by decide +kernel
theorem dX0_firstSquareGiven_26 : decode cX0_firstSquareGiven 26 = .ok (.ireturn, 1) := by decide +kernel
set_option maxRecDepth 20000 in
theorem ggX0_manGiven_X0_manOfPart : GoodIn wsX0_manGiven wsX0_manOfPart := goodIn_r _ [5] (by decide +kernel) (by decide +kernel)
set_option maxRecDepth 20000 in
theorem gX0_manGiven_X0_manOfPart : GoodIn wsX0_manGiven (va_wsS RX0 93 yX0_manOfPart wsX0_manOfPart) := goodIn_app (goodIn_of _ (by decide +kernel)) ggX0_manGiven_X0_manOfPart
theorem dX0_manGiven_0 : decode cX0_manGiven 0 = .ok (.aload_n 0, 1) := by decide +kernel
theorem dX0_manGiven_1 : decode cX0_manGiven 1 = .ok (.getfield 9, 3) := by decide +kernel
theorem dX0_manGiven_4 : decode cX0_manGiven 4 = .ok (.iload_n 1, 1) := by decide +kernel
theorem dX0_manGiven_5 : decode cX0_manGiven 5 = .ok (.iconst 4, 1) := by decide +kernel
theorem dX0_manGiven_6 : decode cX0_manGiven 6 = .ok (.ishr, 1) := by decide +kernel
theorem dX0_manGiven_7 : decode cX0_manGiven 7 = .ok (.laload, 1) := by decide +kernel
theorem dX0_manGiven_8 : decode cX0_manGiven 8 = .ok (.iload_n 1, 1) := by decide +kernel
theorem dX0_manGiven_9 : decode cX0_manGiven 9 = .ok (.bipush 15, 2) := by decide +kernel
theorem dX0_manGiven_11 : decode cX0_manGiven 11 = .ok (.iand, 1) := by decide +kernel
theorem dX0_manGiven_12 : decode cX0_manGiven 12 = .ok (.invokestatic 93, 3) := by decide +kernel
theorem dX0_manGiven_15 : decode cX0_manGiven 15 = .ok (.ireturn, 1) := by decide +kernel
theorem dX0_colourOf_0 : decode cX0_colourOf 0 = .ok (.iload_n 0, 1) := by decide +kernel
theorem dX0_colourOf_1 : decode cX0_colourOf 1 = .ok (.bipush 7, 2) := by decide +kernel
theorem dX0_colourOf_3 : decode cX0_colourOf 3 = .ok (.iand, 1) := by decide +kernel
theorem dX0_colourOf_4 : decode cX0_colourOf 4 = .ok (.istore_n 1, 1) := by decide +kernel
theorem dX0_colourOf_5 : decode cX0_colourOf 5 = .ok (.iload_n 0, 1) := by decide +kernel
theorem dX0_colourOf_6 : decode cX0_colourOf 6 = .ok (.iconst 3, 1) := by decide +kernel
theorem dX0_colourOf_7 : decode cX0_colourOf 7 = .ok (.ishr, 1) := by decide +kernel
theorem dX0_colourOf_8 : decode cX0_colourOf 8 = .ok (.istore_n 2, 1) := by decide +kernel
theorem dX0_colourOf_9 : decode cX0_colourOf 9 = .ok (.iload_n 1, 1) := by decide +kernel
theorem dX0_colourOf_10 : decode cX0_colourOf 10 = .ok (.iload_n 2, 1) := by decide +kernel
theorem dX0_colourOf_11 : decode cX0_colourOf 11 = .ok (.iadd, 1) := by decide +kernel
theorem dX0_colourOf_12 : decode cX0_colourOf 12 = .ok (.iconst 1, 1) := by decide +kernel
theorem dX0_colourOf_13 : decode cX0_colourOf 13 = .ok (.iand, 1) := by decide +kernel
theorem dX0_colourOf_14 : decode cX0_colourOf 14 = .ok (.ireturn, 1) := by decide +kernel
set_option maxRecDepth 20000 in
theorem ggX0_differentPositions_X0_factOf : GoodIn wsX0_differentPositions wsX0_factOf := goodIn_r _ [6, 7, 8, 9, 10, 11] (by decide +kernel) (by decide +kernel)
set_option maxRecDepth 20000 in
theorem gX0_differentPositions_X0_factOf : GoodIn wsX0_differentPositions (wsV RX0 63 RX0 yX0_factOf wsX0_factOf) := goodIn_app (goodIn_of _ (by decide +kernel)) ggX0_differentPositions_X0_factOf
theorem dX0_differentPositions_0 : decode cX0_differentPositions 0 = .ok (.iconst 0, 1) := by decide +kernel
theorem dX0_differentPositions_1 : decode cX0_differentPositions 1 = .ok (.istore_n 1, 1) := by decide +kernel
theorem dX0_differentPositions_2 : decode cX0_differentPositions 2 = .ok (.iconst 0, 1) := by decide +kernel
theorem dX0_differentPositions_3 : decode cX0_differentPositions 3 = .ok (.istore_n 2, 1) := by decide +kernel
theorem dX0_differentPositions_4 : decode cX0_differentPositions 4 = .ok (.iload_n 2, 1) := by decide +kernel
theorem dX0_differentPositions_5 : decode cX0_differentPositions 5 = .ok (.aload_n 0, 1) := by decide +kernel
theorem dX0_differentPositions_6 : decode cX0_differentPositions 6 = .ok (.getfield 20, 3) := by decide +kernel
theorem dX0_differentPositions_9 : decode cX0_differentPositions 9 = .ok (.if_icmp .ge 22, 3) := by decide +kernel
theorem dX0_differentPositions_12 : decode cX0_differentPositions 12 = .ok (.aload_n 0, 1) := by decide +kernel
theorem dX0_differentPositions_13 : decode cX0_differentPositions 13 = .ok (.iload_n 2, 1) := by decide +kernel
theorem dX0_differentPositions_14 : decode cX0_differentPositions 14 = .ok (.iconst 4, 1) := by decide +kernel
theorem dX0_differentPositions_15 : decode cX0_differentPositions 15 = .ok (.invokevirtual 63, 3) := by decide +kernel
theorem dX0_differentPositions_18 : decode cX0_differentPositions 18 = .ok (.iconst (-1), 1) := by decide +kernel
theorem dX0_differentPositions_19 : decode cX0_differentPositions 19 = .ok (.if_icmp .ne 6, 3) := by decide +kernel
theorem dX0_differentPositions_22 : decode cX0_differentPositions 22 = .ok (.iinc 1 1, 3) := by decide +kernel
theorem dX0_differentPositions_25 : decode cX0_differentPositions 25 = .ok (.iinc 2 1, 3) := by decide +kernel
theorem dX0_differentPositions_28 : decode cX0_differentPositions 28 = .ok (.goto (-24), 3) := by decide +kernel
theorem dX0_differentPositions_31 : decode cX0_differentPositions 31 = .ok (.iload_n 1, 1) := by decide +kernel
theorem dX0_differentPositions_32 : decode cX0_differentPositions 32 = .ok (.ireturn, 1) := by decide +kernel
set_option maxRecDepth 20000 in
theorem ggX0_greatest_X0_factOf : GoodIn wsX0_greatest wsX0_factOf := goodIn_r _ [10, 11, 12, 13, 14, 15] (by decide +kernel) (by decide +kernel)
set_option maxRecDepth 20000 in
theorem gX0_greatest_X0_factOf : GoodIn wsX0_greatest (wsV RX0 63 RX0 yX0_factOf wsX0_factOf) := goodIn_app (goodIn_of _ (by decide +kernel)) ggX0_greatest_X0_factOf
theorem dX0_greatest_0 : decode cX0_greatest 0 = .ok (.iconst 0, 1) := by decide +kernel
theorem dX0_greatest_1 : decode cX0_greatest 1 = .ok (.istore_n 2, 1) := by decide +kernel
theorem dX0_greatest_2 : decode cX0_greatest 2 = .ok (.iconst 0, 1) := by decide +kernel
theorem dX0_greatest_3 : decode cX0_greatest 3 = .ok (.istore_n 3, 1) := by decide +kernel
theorem dX0_greatest_4 : decode cX0_greatest 4 = .ok (.iload_n 3, 1) := by decide +kernel
theorem dX0_greatest_5 : decode cX0_greatest 5 = .ok (.aload_n 0, 1) := by decide +kernel
theorem dX0_greatest_6 : decode cX0_greatest 6 = .ok (.getfield 20, 3) := by decide +kernel
theorem dX0_greatest_9 : decode cX0_greatest 9 = .ok (.if_icmp .ge 20, 3) := by decide +kernel
theorem dX0_greatest_12 : decode cX0_greatest 12 = .ok (.iload_n 2, 1) := by decide +kernel
theorem dX0_greatest_13 : decode cX0_greatest 13 = .ok (.aload_n 0, 1) := by decide +kernel
theorem dX0_greatest_14 : decode cX0_greatest 14 = .ok (.iload_n 3, 1) := by decide +kernel
theorem dX0_greatest_15 : decode cX0_greatest 15 = .ok (.iload_n 1, 1) := by decide +kernel
theorem dX0_greatest_16 : decode cX0_greatest 16 = .ok (.invokevirtual 63, 3) := by decide +kernel
theorem dX0_greatest_19 : decode cX0_greatest 19 = .ok (.invokestatic 125, 3) := by decide +kernel
theorem dX0_greatest_22 : decode cX0_greatest 22 = .ok (.istore_n 2, 1) := by decide +kernel
theorem dX0_greatest_23 : decode cX0_greatest 23 = .ok (.iinc 3 1, 3) := by decide +kernel
theorem dX0_greatest_26 : decode cX0_greatest 26 = .ok (.goto (-22), 3) := by decide +kernel
theorem dX0_greatest_29 : decode cX0_greatest 29 = .ok (.iload_n 2, 1) := by decide +kernel
theorem dX0_greatest_30 : decode cX0_greatest 30 = .ok (.ireturn, 1) := by decide +kernel
theorem dX1_init_0 : decode cX1_init 0 = .ok (.aload_n 0, 1) := by decide +kernel
theorem dX1_init_1 : decode cX1_init 1 = .ok (.invokespecial 1, 3) := by decide +kernel
theorem dX1_init_4 : decode cX1_init 4 = .ok (.aload_n 0, 1) := by decide +kernel
theorem dX1_init_5 : decode cX1_init 5 = .ok (.bipush 64, 2) := by decide +kernel
theorem dX1_init_7 : decode cX1_init 7 = .ok (.newarray .int, 2) := by decide +kernel
theorem dX1_init_9 : decode cX1_init 9 = .ok (.putfield 7, 3) := by decide +kernel
theorem dX1_init_12 : decode cX1_init 12 = .ok (.aload_n 0, 1) := by decide +kernel
theorem dX1_init_13 : decode cX1_init 13 = .ok (.ldc 13, 2) := by decide +kernel
theorem dX1_init_15 : decode cX1_init 15 = .ok (.newarray .int, 2) := by decide +kernel
theorem dX1_init_17 : decode cX1_init 17 = .ok (.putfield 14, 3) := by decide +kernel
theorem dX1_init_20 : decode cX1_init 20 = .ok (.aload_n 0, 1) := by decide +kernel
theorem dX1_init_21 : decode cX1_init 21 = .ok (.sipush 640, 3) := by decide +kernel
theorem dX1_init_24 : decode cX1_init 24 = .ok (.newarray .int, 2) := by decide +kernel
theorem dX1_init_26 : decode cX1_init 26 = .ok (.putfield 17, 3) := by decide +kernel
theorem dX1_init_29 : decode cX1_init 29 = .ok (.aload_n 0, 1) := by decide +kernel
theorem dX1_init_30 : decode cX1_init 30 = .ok (.sipush 640, 3) := by decide +kernel
theorem dX1_init_33 : decode cX1_init 33 = .ok (.newarray .int, 2) := by decide +kernel
theorem dX1_init_35 : decode cX1_init 35 = .ok (.putfield 20, 3) := by decide +kernel
theorem dX1_init_38 : decode cX1_init 38 = .ok (.aload_n 0, 1) := by decide +kernel
theorem dX1_init_39 : decode cX1_init 39 = .ok (.sipush 640, 3) := by decide +kernel
theorem dX1_init_42 : decode cX1_init 42 = .ok (.newarray .int, 2) := by decide +kernel
theorem dX1_init_44 : decode cX1_init 44 = .ok (.putfield 23, 3) := by decide +kernel
theorem dX1_init_47 : decode cX1_init 47 = .ok (.return_, 1) := by decide +kernel
theorem dX1_thrown_0 : decode cX1_thrown 0 = .ok (.aload_n 0, 1) := by decide +kernel
theorem dX1_thrown_1 : decode cX1_thrown 1 = .ok (.getfield 26, 3) := by decide +kernel
theorem dX1_thrown_4 : decode cX1_thrown 4 = .ok (.ireturn, 1) := by decide +kernel
theorem dX1_squares_0 : decode cX1_squares 0 = .ok (.aload_n 0, 1) := by decide +kernel
theorem dX1_squares_1 : decode cX1_squares 1 = .ok (.iconst 0, 1) := by decide +kernel
theorem dX1_squares_2 : decode cX1_squares 2 = .ok (.putfield 26, 3) := by decide +kernel
theorem dX1_squares_5 : decode cX1_squares 5 = .ok (.iload_n 1, 1) := by decide +kernel
theorem dX1_squares_6 : decode cX1_squares 6 = .ok (.ifCond .lt 8, 3) := by decide +kernel
theorem dX1_squares_9 : decode cX1_squares 9 = .ok (.iload_n 1, 1) := by decide +kernel
theorem dX1_squares_10 : decode cX1_squares 10 = .ok (.iconst 3, 1) := by decide +kernel
theorem dX1_squares_11 : decode cX1_squares 11 = .ok (.if_icmp .le 5, 3) := by decide +kernel
theorem dX1_squares_14 : decode cX1_squares 14 = .ok (.iconst 0, 1) := by decide +kernel
theorem dX1_squares_15 : decode cX1_squares 15 = .ok (.ireturn, 1) := by decide +kernel
theorem dX1_squares_16 : decode cX1_squares 16 = .ok (.iconst 0, 1) := by decide +kernel
theorem dX1_squares_17 : decode cX1_squares 17 = .ok (.istore 4, 2) := by decide +kernel
theorem dX1_squares_19 : decode cX1_squares 19 = .ok (.iload 4, 2) := by decide +kernel
theorem dX1_squares_21 : decode cX1_squares 21 = .ok (.bipush 16, 2) := by decide +kernel
theorem dX1_squares_23 : decode cX1_squares 23 = .ok (.if_icmp .ge 28, 3) := by decide +kernel
theorem dX1_squares_26 : decode cX1_squares 26 = .ok (.lload_n 2, 1) := by decide +kernel
theorem dX1_squares_27 : decode cX1_squares 27 = .ok (.iconst 4, 1) := by decide +kernel
theorem dX1_squares_28 : decode cX1_squares 28 = .ok (.iload 4, 2) := by decide +kernel
theorem dX1_squares_30 : decode cX1_squares 30 = .ok (.imul, 1) := by decide +kernel
theorem dX1_squares_31 : decode cX1_squares 31 = .ok (.lshr, 1) := by decide +kernel
theorem dX1_squares_32 : decode cX1_squares 32 = .ok (.ldc2_w 30, 3) := by decide +kernel
theorem dX1_squares_35 : decode cX1_squares 35 = .ok (.land, 1) := by decide +kernel
theorem dX1_squares_36 : decode cX1_squares 36 = .ok (.ldc2_w 32, 3) := by decide +kernel
theorem dX1_squares_39 : decode cX1_squares 39 = .ok (.lcmp, 1) := by decide +kernel
theorem dX1_squares_40 : decode cX1_squares 40 = .ok (.ifCond .le 5, 3) := by decide +kernel
theorem dX1_squares_43 : decode cX1_squares 43 = .ok (.iconst 0, 1) := by decide +kernel
theorem dX1_squares_44 : decode cX1_squares 44 = .ok (.ireturn, 1) := by decide +kernel
theorem dX1_squares_45 : decode cX1_squares 45 = .ok (.iinc 4 1, 3) := by decide +kernel
theorem dX1_squares_48 : decode cX1_squares 48 = .ok (.goto (-29), 3) := by decide +kernel
theorem dX1_squares_51 : decode cX1_squares 51 = .ok (.iconst 0, 1) := by decide +kernel
theorem dX1_squares_52 : decode cX1_squares 52 = .ok (.istore 4, 2) := by decide +kernel
theorem dX1_squares_54 : decode cX1_squares 54 = .ok (.iload 4, 2) := by decide +kernel
theorem dX1_squares_56 : decode cX1_squares 56 = .ok (.bipush 16, 2) := by decide +kernel
theorem dX1_squares_58 : decode cX1_squares 58 = .ok (.if_icmp .ge 35, 3) := by decide +kernel
theorem dX1_squares_61 : decode cX1_squares 61 = .ok (.aload_n 0, 1) := by decide +kernel
theorem dX1_squares_62 : decode cX1_squares 62 = .ok (.getfield 7, 3) := by decide +kernel
theorem dX1_squares_65 : decode cX1_squares 65 = .ok (.bipush 16, 2) := by decide +kernel
theorem dX1_squares_67 : decode cX1_squares 67 = .ok (.iload_n 1, 1) := by decide +kernel
theorem dX1_squares_68 : decode cX1_squares 68 = .ok (.imul, 1) := by decide +kernel
theorem dX1_squares_69 : decode cX1_squares 69 = .ok (.iload 4, 2) := by decide +kernel
theorem dX1_squares_71 : decode cX1_squares 71 = .ok (.iadd, 1) := by decide +kernel
theorem dX1_squares_72 : decode cX1_squares 72 = .ok (.lload_n 2, 1) := by decide +kernel
theorem dX1_squares_73 : decode cX1_squares 73 = .ok (.bipush 60, 2) := by decide +kernel
theorem dX1_squares_75 : decode cX1_squares 75 = .ok (.iconst 4, 1) := by decide +kernel
theorem dX1_squares_76 : decode cX1_squares 76 = .ok (.iload 4, 2) := by decide +kernel
theorem dX1_squares_78 : decode cX1_squares 78 = .ok (.imul, 1) := by decide +kernel
theorem dX1_squares_79 : decode cX1_squares 79 = .ok (.isub, 1) := by decide +kernel
theorem dX1_squares_80 : decode cX1_squares 80 = .ok (.lshr, 1) := by decide +kernel
theorem dX1_squares_81 : decode cX1_squares 81 = .ok (.ldc2_w 30, 3) := by decide +kernel
theorem dX1_squares_84 : decode cX1_squares 84 = .ok (.land, 1) := by decide +kernel
theorem dX1_squares_85 : decode cX1_squares 85 = .ok (.l2i, 1) := by decide +kernel
theorem dX1_squares_86 : decode cX1_squares 86 = .ok (.iastore, 1) := by decide +kernel
theorem dX1_squares_87 : decode cX1_squares 87 = .ok (.iinc 4 1, 3) := by decide +kernel
theorem dX1_squares_90 : decode cX1_squares 90 = .ok (.goto (-36), 3) := by decide +kernel
theorem dX1_squares_93 : decode cX1_squares 93 = .ok (.iconst 1, 1) := by decide +kernel
theorem dX1_squares_94 : decode cX1_squares 94 = .ok (.ireturn, 1) := by decide +kernel
theorem dX1_isState_0 : decode cX1_isState 0 = .ok (.iload_n 0, 1) := by decide +kernel
theorem dX1_isState_1 : decode cX1_isState 1 = .ok (.iconst 5, 1) := by decide +kernel
theorem dX1_isState_2 : decode cX1_isState 2 = .ok (.ishr, 1) := by decide +kernel
theorem dX1_isState_3 : decode cX1_isState 3 = .ok (.istore_n 1, 1) := by decide +kernel
theorem dX1_isState_4 : decode cX1_isState 4 = .ok (.iload_n 1, 1) := by decide +kernel
theorem dX1_isState_5 : decode cX1_isState 5 = .ok (.ifCond .lt 19, 3) := by decide +kernel
theorem dX1_isState_8 : decode cX1_isState 8 = .ok (.iload_n 1, 1) := by decide +kernel
theorem dX1_isState_9 : decode cX1_isState 9 = .ok (.bipush 8, 2) := by decide +kernel
theorem dX1_isState_11 : decode cX1_isState 11 = .ok (.if_icmp .lt 9, 3) := by decide +kernel
theorem dX1_isState_14 : decode cX1_isState 14 = .ok (.iload_n 1, 1) := by decide +kernel
theorem dX1_isState_15 : decode cX1_isState 15 = .ok (.bipush 15, 2) := by decide +kernel
theorem dX1_isState_17 : decode cX1_isState 17 = .ok (.if_icmp .ne 7, 3) := by decide +kernel
theorem dX1_isState_20 : decode cX1_isState 20 = .ok (.iconst 1, 1) := by decide +kernel
theorem dX1_isState_21 : decode cX1_isState 21 = .ok (.goto 4, 3) := by decide +kernel
theorem dX1_isState_24 : decode cX1_isState 24 = .ok (.iconst 0, 1) := by decide +kernel
theorem dX1_isState_25 : decode cX1_isState 25 = .ok (.ireturn, 1) := by decide +kernel
theorem dX1_isSame_0 : decode cX1_isSame 0 = .ok (.aload_n 0, 1) := by decide +kernel
theorem dX1_isSame_1 : decode cX1_isSame 1 = .ok (.getfield 17, 3) := by decide +kernel
theorem dX1_isSame_4 : decode cX1_isSame 4 = .ok (.iload_n 1, 1) := by decide +kernel
theorem dX1_isSame_5 : decode cX1_isSame 5 = .ok (.iaload, 1) := by decide +kernel
theorem dX1_isSame_6 : decode cX1_isSame 6 = .ok (.aload_n 0, 1) := by decide +kernel
theorem dX1_isSame_7 : decode cX1_isSame 7 = .ok (.getfield 17, 3) := by decide +kernel
theorem dX1_isSame_10 : decode cX1_isSame 10 = .ok (.iload_n 2, 1) := by decide +kernel
theorem dX1_isSame_11 : decode cX1_isSame 11 = .ok (.iaload, 1) := by decide +kernel
theorem dX1_isSame_12 : decode cX1_isSame 12 = .ok (.if_icmp .ne 7, 3) := by decide +kernel
theorem dX1_isSame_15 : decode cX1_isSame 15 = .ok (.iconst 1, 1) := by decide +kernel
theorem dX1_isSame_16 : decode cX1_isSame 16 = .ok (.goto 4, 3) := by decide +kernel
theorem dX1_isSame_19 : decode cX1_isSame 19 = .ok (.iconst 0, 1) := by decide +kernel
theorem dX1_isSame_20 : decode cX1_isSame 20 = .ok (.istore_n 3, 1) := by decide +kernel
theorem dX1_isSame_21 : decode cX1_isSame 21 = .ok (.iconst 0, 1) := by decide +kernel
theorem dX1_isSame_22 : decode cX1_isSame 22 = .ok (.istore 4, 2) := by decide +kernel
theorem dX1_isSame_24 : decode cX1_isSame 24 = .ok (.iload 4, 2) := by decide +kernel
theorem dX1_isSame_26 : decode cX1_isSame 26 = .ok (.bipush 64, 2) := by decide +kernel
theorem dX1_isSame_28 : decode cX1_isSame 28 = .ok (.if_icmp .ge 46, 3) := by decide +kernel
theorem dX1_isSame_31 : decode cX1_isSame 31 = .ok (.iload_n 3, 1) := by decide +kernel
theorem dX1_isSame_32 : decode cX1_isSame 32 = .ok (.ifCond .eq 34, 3) := by decide +kernel
theorem dX1_isSame_35 : decode cX1_isSame 35 = .ok (.aload_n 0, 1) := by decide +kernel
theorem dX1_isSame_36 : decode cX1_isSame 36 = .ok (.getfield 14, 3) := by decide +kernel
theorem dX1_isSame_39 : decode cX1_isSame 39 = .ok (.bipush 64, 2) := by decide +kernel
theorem dX1_isSame_41 : decode cX1_isSame 41 = .ok (.iload_n 1, 1) := by decide +kernel
theorem dX1_isSame_42 : decode cX1_isSame 42 = .ok (.imul, 1) := by decide +kernel
theorem dX1_isSame_43 : decode cX1_isSame 43 = .ok (.iload 4, 2) := by decide +kernel
theorem dX1_isSame_45 : decode cX1_isSame 45 = .ok (.iadd, 1) := by decide +kernel
theorem dX1_isSame_46 : decode cX1_isSame 46 = .ok (.iaload, 1) := by decide +kernel
theorem dX1_isSame_47 : decode cX1_isSame 47 = .ok (.aload_n 0, 1) := by decide +kernel
theorem dX1_isSame_48 : decode cX1_isSame 48 = .ok (.getfield 14, 3) := by decide +kernel
theorem dX1_isSame_51 : decode cX1_isSame 51 = .ok (.bipush 64, 2) := by decide +kernel
theorem dX1_isSame_53 : decode cX1_isSame 53 = .ok (.iload_n 2, 1) := by decide +kernel
theorem dX1_isSame_54 : decode cX1_isSame 54 = .ok (.imul, 1) := by decide +kernel
theorem dX1_isSame_55 : decode cX1_isSame 55 = .ok (.iload 4, 2) := by decide +kernel
theorem dX1_isSame_57 : decode cX1_isSame 57 = .ok (.iadd, 1) := by decide +kernel
theorem dX1_isSame_58 : decode cX1_isSame 58 = .ok (.iaload, 1) := by decide +kernel
theorem dX1_isSame_59 : decode cX1_isSame 59 = .ok (.if_icmp .ne 7, 3) := by decide +kernel
theorem dX1_isSame_62 : decode cX1_isSame 62 = .ok (.iconst 1, 1) := by decide +kernel
theorem dX1_isSame_63 : decode cX1_isSame 63 = .ok (.goto 4, 3) := by decide +kernel
theorem dX1_isSame_66 : decode cX1_isSame 66 = .ok (.iconst 0, 1) := by decide +kernel
theorem dX1_isSame_67 : decode cX1_isSame 67 = .ok (.istore_n 3, 1) := by decide +kernel
theorem dX1_isSame_68 : decode cX1_isSame 68 = .ok (.iinc 4 1, 3) := by decide +kernel
theorem dX1_isSame_71 : decode cX1_isSame 71 = .ok (.goto (-47), 3) := by decide +kernel
theorem dX1_isSame_74 : decode cX1_isSame 74 = .ok (.iload_n 3, 1) := by decide +kernel
theorem dX1_isSame_75 : decode cX1_isSame 75 = .ok (.ireturn, 1) := by decide +kernel
theorem dX1_isNext_0 : decode cX1_isNext 0 = .ok (.aload_n 0, 1) := by decide +kernel
theorem dX1_isNext_1 : decode cX1_isNext 1 = .ok (.getfield 17, 3) := by decide +kernel
theorem dX1_isNext_4 : decode cX1_isNext 4 = .ok (.iload_n 1, 1) := by decide +kernel
theorem dX1_isNext_5 : decode cX1_isNext 5 = .ok (.iaload, 1) := by decide +kernel
theorem dX1_isNext_6 : decode cX1_isNext 6 = .ok (.iload_n 2, 1) := by decide +kernel
theorem dX1_isNext_7 : decode cX1_isNext 7 = .ok (.if_icmp .ne 7, 3) := by decide +kernel
theorem dX1_isNext_10 : decode cX1_isNext 10 = .ok (.iconst 1, 1) := by decide +kernel
theorem dX1_isNext_11 : decode cX1_isNext 11 = .ok (.goto 4, 3) := by decide +kernel
theorem dX1_isNext_14 : decode cX1_isNext 14 = .ok (.iconst 0, 1) := by decide +kernel
theorem dX1_isNext_15 : decode cX1_isNext 15 = .ok (.istore_n 3, 1) := by decide +kernel
theorem dX1_isNext_16 : decode cX1_isNext 16 = .ok (.iconst 0, 1) := by decide +kernel
theorem dX1_isNext_17 : decode cX1_isNext 17 = .ok (.istore 4, 2) := by decide +kernel
theorem dX1_isNext_19 : decode cX1_isNext 19 = .ok (.iload 4, 2) := by decide +kernel
theorem dX1_isNext_21 : decode cX1_isNext 21 = .ok (.bipush 64, 2) := by decide +kernel
theorem dX1_isNext_23 : decode cX1_isNext 23 = .ok (.if_icmp .ge 41, 3) := by decide +kernel
theorem dX1_isNext_26 : decode cX1_isNext 26 = .ok (.iload_n 3, 1) := by decide +kernel
theorem dX1_isNext_27 : decode cX1_isNext 27 = .ok (.ifCond .eq 29, 3) := by decide +kernel
theorem dX1_isNext_30 : decode cX1_isNext 30 = .ok (.aload_n 0, 1) := by decide +kernel
theorem dX1_isNext_31 : decode cX1_isNext 31 = .ok (.getfield 14, 3) := by decide +kernel
theorem dX1_isNext_34 : decode cX1_isNext 34 = .ok (.bipush 64, 2) := by decide +kernel
theorem dX1_isNext_36 : decode cX1_isNext 36 = .ok (.iload_n 1, 1) := by decide +kernel
theorem dX1_isNext_37 : decode cX1_isNext 37 = .ok (.imul, 1) := by decide +kernel
theorem dX1_isNext_38 : decode cX1_isNext 38 = .ok (.iload 4, 2) := by decide +kernel
theorem dX1_isNext_40 : decode cX1_isNext 40 = .ok (.iadd, 1) := by decide +kernel
theorem dX1_isNext_41 : decode cX1_isNext 41 = .ok (.iaload, 1) := by decide +kernel
theorem dX1_isNext_42 : decode cX1_isNext 42 = .ok (.aload_n 0, 1) := by decide +kernel
theorem dX1_isNext_43 : decode cX1_isNext 43 = .ok (.getfield 7, 3) := by decide +kernel
theorem dX1_isNext_46 : decode cX1_isNext 46 = .ok (.iload 4, 2) := by decide +kernel
theorem dX1_isNext_48 : decode cX1_isNext 48 = .ok (.iaload, 1) := by decide +kernel
theorem dX1_isNext_49 : decode cX1_isNext 49 = .ok (.if_icmp .ne 7, 3) := by decide +kernel
theorem dX1_isNext_52 : decode cX1_isNext 52 = .ok (.iconst 1, 1) := by decide +kernel
theorem dX1_isNext_53 : decode cX1_isNext 53 = .ok (.goto 4, 3) := by decide +kernel
theorem dX1_isNext_56 : decode cX1_isNext 56 = .ok (.iconst 0, 1) := by decide +kernel
theorem dX1_isNext_57 : decode cX1_isNext 57 = .ok (.istore_n 3, 1) := by decide +kernel
theorem dX1_isNext_58 : decode cX1_isNext 58 = .ok (.iinc 4 1, 3) := by decide +kernel
theorem dX1_isNext_61 : decode cX1_isNext 61 = .ok (.goto (-42), 3) := by decide +kernel
theorem dX1_isNext_64 : decode cX1_isNext 64 = .ok (.iload_n 3, 1) := by decide +kernel
theorem dX1_isNext_65 : decode cX1_isNext 65 = .ok (.ireturn, 1) := by decide +kernel
set_option maxRecDepth 20000 in
theorem ggX1_countOf_X1_isSame : GoodIn wsX1_countOf wsX1_isSame := goodIn_r _ [5, 6, 7, 8, 9, 10, 11, 12, 13, 14] (by decide +kernel) (by decide +kernel)
set_option maxRecDepth 20000 in
theorem gX1_countOf_X1_isSame : GoodIn wsX1_countOf (wsV RX1 34 RX1 yX1_isSame wsX1_isSame) := goodIn_app (goodIn_of _ (by decide +kernel)) ggX1_countOf_X1_isSame
theorem dX1_countOf_0 : decode cX1_countOf 0 = .ok (.iconst 0, 1) := by decide +kernel
theorem dX1_countOf_1 : decode cX1_countOf 1 = .ok (.istore_n 2, 1) := by decide +kernel
theorem dX1_countOf_2 : decode cX1_countOf 2 = .ok (.iconst 0, 1) := by decide +kernel
theorem dX1_countOf_3 : decode cX1_countOf 3 = .ok (.istore_n 3, 1) := by decide +kernel
theorem dX1_countOf_4 : decode cX1_countOf 4 = .ok (.iload_n 3, 1) := by decide +kernel
theorem dX1_countOf_5 : decode cX1_countOf 5 = .ok (.iload_n 1, 1) := by decide +kernel
theorem dX1_countOf_6 : decode cX1_countOf 6 = .ok (.if_icmp .gt 26, 3) := by decide +kernel
theorem dX1_countOf_9 : decode cX1_countOf 9 = .ok (.iload_n 2, 1) := by decide +kernel
theorem dX1_countOf_10 : decode cX1_countOf 10 = .ok (.aload_n 0, 1) := by decide +kernel
theorem dX1_countOf_11 : decode cX1_countOf 11 = .ok (.iload_n 1, 1) := by decide +kernel
theorem dX1_countOf_12 : decode cX1_countOf 12 = .ok (.iload_n 3, 1) := by decide +kernel
theorem dX1_countOf_13 : decode cX1_countOf 13 = .ok (.invokevirtual 34, 3) := by decide +kernel
theorem dX1_countOf_16 : decode cX1_countOf 16 = .ok (.ifCond .eq 7, 3) := by decide +kernel
theorem dX1_countOf_19 : decode cX1_countOf 19 = .ok (.iconst 1, 1) := by decide +kernel
theorem dX1_countOf_20 : decode cX1_countOf 20 = .ok (.goto 4, 3) := by decide +kernel
theorem dX1_countOf_23 : decode cX1_countOf 23 = .ok (.iconst 0, 1) := by decide +kernel
theorem dX1_countOf_24 : decode cX1_countOf 24 = .ok (.iadd, 1) := by decide +kernel
theorem dX1_countOf_25 : decode cX1_countOf 25 = .ok (.istore_n 2, 1) := by decide +kernel
theorem dX1_countOf_26 : decode cX1_countOf 26 = .ok (.iinc 3 1, 3) := by decide +kernel
theorem dX1_countOf_29 : decode cX1_countOf 29 = .ok (.goto (-25), 3) := by decide +kernel
theorem dX1_countOf_32 : decode cX1_countOf 32 = .ok (.iload_n 2, 1) := by decide +kernel
theorem dX1_countOf_33 : decode cX1_countOf 33 = .ok (.ireturn, 1) := by decide +kernel
theorem dX1_howMany_0 : decode cX1_howMany 0 = .ok (.iconst 0, 1) := by decide +kernel
theorem dX1_howMany_1 : decode cX1_howMany 1 = .ok (.istore_n 3, 1) := by decide +kernel
theorem dX1_howMany_2 : decode cX1_howMany 2 = .ok (.iconst 0, 1) := by decide +kernel
theorem dX1_howMany_3 : decode cX1_howMany 3 = .ok (.istore 4, 2) := by decide +kernel
theorem dX1_howMany_5 : decode cX1_howMany 5 = .ok (.iload 4, 2) := by decide +kernel
theorem dX1_howMany_7 : decode cX1_howMany 7 = .ok (.bipush 64, 2) := by decide +kernel
theorem dX1_howMany_9 : decode cX1_howMany 9 = .ok (.if_icmp .ge 33, 3) := by decide +kernel
theorem dX1_howMany_12 : decode cX1_howMany 12 = .ok (.iload_n 3, 1) := by decide +kernel
theorem dX1_howMany_13 : decode cX1_howMany 13 = .ok (.aload_n 0, 1) := by decide +kernel
theorem dX1_howMany_14 : decode cX1_howMany 14 = .ok (.getfield 14, 3) := by decide +kernel
theorem dX1_howMany_17 : decode cX1_howMany 17 = .ok (.bipush 64, 2) := by decide +kernel
theorem dX1_howMany_19 : decode cX1_howMany 19 = .ok (.iload_n 1, 1) := by decide +kernel
theorem dX1_howMany_20 : decode cX1_howMany 20 = .ok (.imul, 1) := by decide +kernel
theorem dX1_howMany_21 : decode cX1_howMany 21 = .ok (.iload 4, 2) := by decide +kernel
theorem dX1_howMany_23 : decode cX1_howMany 23 = .ok (.iadd, 1) := by decide +kernel
theorem dX1_howMany_24 : decode cX1_howMany 24 = .ok (.iaload, 1) := by decide +kernel
theorem dX1_howMany_25 : decode cX1_howMany 25 = .ok (.iload_n 2, 1) := by decide +kernel
theorem dX1_howMany_26 : decode cX1_howMany 26 = .ok (.if_icmp .ne 7, 3) := by decide +kernel
theorem dX1_howMany_29 : decode cX1_howMany 29 = .ok (.iconst 1, 1) := by decide +kernel
theorem dX1_howMany_30 : decode cX1_howMany 30 = .ok (.goto 4, 3) := by decide +kernel
theorem dX1_howMany_33 : decode cX1_howMany 33 = .ok (.iconst 0, 1) := by decide +kernel
theorem dX1_howMany_34 : decode cX1_howMany 34 = .ok (.iadd, 1) := by decide +kernel
theorem dX1_howMany_35 : decode cX1_howMany 35 = .ok (.istore_n 3, 1) := by decide +kernel
theorem dX1_howMany_36 : decode cX1_howMany 36 = .ok (.iinc 4 1, 3) := by decide +kernel
theorem dX1_howMany_39 : decode cX1_howMany 39 = .ok (.goto (-34), 3) := by decide +kernel
theorem dX1_howMany_42 : decode cX1_howMany 42 = .ok (.iload_n 3, 1) := by decide +kernel
theorem dX1_howMany_43 : decode cX1_howMany 43 = .ok (.ireturn, 1) := by decide +kernel
theorem dX1_colour_0 : decode cX1_colour 0 = .ok (.iconst 0, 1) := by decide +kernel
theorem dX1_colour_1 : decode cX1_colour 1 = .ok (.istore_n 3, 1) := by decide +kernel
theorem dX1_colour_2 : decode cX1_colour 2 = .ok (.iconst 0, 1) := by decide +kernel
theorem dX1_colour_3 : decode cX1_colour 3 = .ok (.istore 4, 2) := by decide +kernel
theorem dX1_colour_5 : decode cX1_colour 5 = .ok (.iload 4, 2) := by decide +kernel
theorem dX1_colour_7 : decode cX1_colour 7 = .ok (.bipush 64, 2) := by decide +kernel
theorem dX1_colour_9 : decode cX1_colour 9 = .ok (.if_icmp .ge 43, 3) := by decide +kernel
theorem dX1_colour_12 : decode cX1_colour 12 = .ok (.aload_n 0, 1) := by decide +kernel
theorem dX1_colour_13 : decode cX1_colour 13 = .ok (.getfield 14, 3) := by decide +kernel
theorem dX1_colour_16 : decode cX1_colour 16 = .ok (.bipush 64, 2) := by decide +kernel
theorem dX1_colour_18 : decode cX1_colour 18 = .ok (.iload_n 1, 1) := by decide +kernel
theorem dX1_colour_19 : decode cX1_colour 19 = .ok (.imul, 1) := by decide +kernel
theorem dX1_colour_20 : decode cX1_colour 20 = .ok (.iload 4, 2) := by decide +kernel
theorem dX1_colour_22 : decode cX1_colour 22 = .ok (.iadd, 1) := by decide +kernel
theorem dX1_colour_23 : decode cX1_colour 23 = .ok (.iaload, 1) := by decide +kernel
theorem dX1_colour_24 : decode cX1_colour 24 = .ok (.iload_n 2, 1) := by decide +kernel
theorem dX1_colour_25 : decode cX1_colour 25 = .ok (.if_icmp .ne 19, 3) := by decide +kernel
theorem dX1_colour_28 : decode cX1_colour 28 = .ok (.iload 4, 2) := by decide +kernel
theorem dX1_colour_30 : decode cX1_colour 30 = .ok (.bipush 8, 2) := by decide +kernel
theorem dX1_colour_32 : decode cX1_colour 32 = .ok (.irem, 1) := by decide +kernel
theorem dX1_colour_33 : decode cX1_colour 33 = .ok (.iload 4, 2) := by decide +kernel
theorem dX1_colour_35 : decode cX1_colour 35 = .ok (.bipush 8, 2) := by decide +kernel
theorem dX1_colour_37 : decode cX1_colour 37 = .ok (.idiv, 1) := by decide +kernel
theorem dX1_colour_38 : decode cX1_colour 38 = .ok (.iadd, 1) := by decide +kernel
theorem dX1_colour_39 : decode cX1_colour 39 = .ok (.iconst 2, 1) := by decide +kernel
theorem dX1_colour_40 : decode cX1_colour 40 = .ok (.irem, 1) := by decide +kernel
theorem dX1_colour_41 : decode cX1_colour 41 = .ok (.goto 4, 3) := by decide +kernel
theorem dX1_colour_44 : decode cX1_colour 44 = .ok (.iload_n 3, 1) := by decide +kernel
theorem dX1_colour_45 : decode cX1_colour 45 = .ok (.istore_n 3, 1) := by decide +kernel
theorem dX1_colour_46 : decode cX1_colour 46 = .ok (.iinc 4 1, 3) := by decide +kernel
theorem dX1_colour_49 : decode cX1_colour 49 = .ok (.goto (-44), 3) := by decide +kernel
theorem dX1_colour_52 : decode cX1_colour 52 = .ok (.iload_n 3, 1) := by decide +kernel
theorem dX1_colour_53 : decode cX1_colour 53 = .ok (.ireturn, 1) := by decide +kernel
set_option maxRecDepth 20000 in
theorem ggX1_isDead_X1_howMany : GoodIn wsX1_isDead wsX1_howMany := goodIn_r _ [5, 6, 11, 12, 13, 14, 15, 16, 17] (by decide +kernel) (by decide +kernel)
set_option maxRecDepth 20000 in
theorem gX1_isDead_X1_howMany : GoodIn wsX1_isDead (wsV RX1 38 RX1 yX1_howMany wsX1_howMany) := goodIn_app (goodIn_of _ (by decide +kernel)) ggX1_isDead_X1_howMany
set_option maxRecDepth 20000 in
theorem ggX1_isDead_X1_colour : GoodIn wsX1_isDead wsX1_colour := goodIn_r _ [10, 6, 11, 12, 13, 14, 15, 16, 17] (by decide +kernel) (by decide +kernel)
set_option maxRecDepth 20000 in
theorem gX1_isDead_X1_colour : GoodIn wsX1_isDead (wsV RX1 42 RX1 yX1_colour wsX1_colour) := goodIn_app (goodIn_of _ (by decide +kernel)) ggX1_isDead_X1_colour
theorem dX1_isDead_0 : decode cX1_isDead 0 = .ok (.aload_n 0, 1) := by decide +kernel
theorem dX1_isDead_1 : decode cX1_isDead 1 = .ok (.iload_n 1, 1) := by decide +kernel
theorem dX1_isDead_2 : decode cX1_isDead 2 = .ok (.bipush 6, 2) := by decide +kernel
theorem dX1_isDead_4 : decode cX1_isDead 4 = .ok (.invokevirtual 38, 3) := by decide +kernel
theorem dX1_isDead_7 : decode cX1_isDead 7 = .ok (.iconst 1, 1) := by decide +kernel
theorem dX1_isDead_8 : decode cX1_isDead 8 = .ok (.if_icmp .ne 14, 3) := by decide +kernel
theorem dX1_isDead_11 : decode cX1_isDead 11 = .ok (.aload_n 0, 1) := by decide +kernel
theorem dX1_isDead_12 : decode cX1_isDead 12 = .ok (.iload_n 1, 1) := by decide +kernel
theorem dX1_isDead_13 : decode cX1_isDead 13 = .ok (.bipush 12, 2) := by decide +kernel
theorem dX1_isDead_15 : decode cX1_isDead 15 = .ok (.invokevirtual 38, 3) := by decide +kernel
theorem dX1_isDead_18 : decode cX1_isDead 18 = .ok (.iconst 1, 1) := by decide +kernel
theorem dX1_isDead_19 : decode cX1_isDead 19 = .ok (.if_icmp .eq 5, 3) := by decide +kernel
theorem dX1_isDead_22 : decode cX1_isDead 22 = .ok (.iconst 0, 1) := by decide +kernel
theorem dX1_isDead_23 : decode cX1_isDead 23 = .ok (.ireturn, 1) := by decide +kernel
theorem dX1_isDead_24 : decode cX1_isDead 24 = .ok (.bipush 64, 2) := by decide +kernel
theorem dX1_isDead_26 : decode cX1_isDead 26 = .ok (.aload_n 0, 1) := by decide +kernel
theorem dX1_isDead_27 : decode cX1_isDead 27 = .ok (.iload_n 1, 1) := by decide +kernel
theorem dX1_isDead_28 : decode cX1_isDead 28 = .ok (.iconst 0, 1) := by decide +kernel
theorem dX1_isDead_29 : decode cX1_isDead 29 = .ok (.invokevirtual 38, 3) := by decide +kernel
theorem dX1_isDead_32 : decode cX1_isDead 32 = .ok (.isub, 1) := by decide +kernel
theorem dX1_isDead_33 : decode cX1_isDead 33 = .ok (.istore_n 2, 1) := by decide +kernel
theorem dX1_isDead_34 : decode cX1_isDead 34 = .ok (.aload_n 0, 1) := by decide +kernel
theorem dX1_isDead_35 : decode cX1_isDead 35 = .ok (.iload_n 1, 1) := by decide +kernel
theorem dX1_isDead_36 : decode cX1_isDead 36 = .ok (.iconst 2, 1) := by decide +kernel
theorem dX1_isDead_37 : decode cX1_isDead 37 = .ok (.invokevirtual 38, 3) := by decide +kernel
theorem dX1_isDead_40 : decode cX1_isDead 40 = .ok (.aload_n 0, 1) := by decide +kernel
theorem dX1_isDead_41 : decode cX1_isDead 41 = .ok (.iload_n 1, 1) := by decide +kernel
theorem dX1_isDead_42 : decode cX1_isDead 42 = .ok (.bipush 8, 2) := by decide +kernel
theorem dX1_isDead_44 : decode cX1_isDead 44 = .ok (.invokevirtual 38, 3) := by decide +kernel
theorem dX1_isDead_47 : decode cX1_isDead 47 = .ok (.iadd, 1) := by decide +kernel
theorem dX1_isDead_48 : decode cX1_isDead 48 = .ok (.istore_n 3, 1) := by decide +kernel
theorem dX1_isDead_49 : decode cX1_isDead 49 = .ok (.aload_n 0, 1) := by decide +kernel
theorem dX1_isDead_50 : decode cX1_isDead 50 = .ok (.iload_n 1, 1) := by decide +kernel
theorem dX1_isDead_51 : decode cX1_isDead 51 = .ok (.iconst 3, 1) := by decide +kernel
theorem dX1_isDead_52 : decode cX1_isDead 52 = .ok (.invokevirtual 38, 3) := by decide +kernel
theorem dX1_isDead_55 : decode cX1_isDead 55 = .ok (.istore 4, 2) := by decide +kernel
theorem dX1_isDead_57 : decode cX1_isDead 57 = .ok (.aload_n 0, 1) := by decide +kernel
theorem dX1_isDead_58 : decode cX1_isDead 58 = .ok (.iload_n 1, 1) := by decide +kernel
theorem dX1_isDead_59 : decode cX1_isDead 59 = .ok (.bipush 9, 2) := by decide +kernel
theorem dX1_isDead_61 : decode cX1_isDead 61 = .ok (.invokevirtual 38, 3) := by decide +kernel
theorem dX1_isDead_64 : decode cX1_isDead 64 = .ok (.istore 5, 2) := by decide +kernel
theorem dX1_isDead_66 : decode cX1_isDead 66 = .ok (.iload_n 2, 1) := by decide +kernel
theorem dX1_isDead_67 : decode cX1_isDead 67 = .ok (.iconst 4, 1) := by decide +kernel
theorem dX1_isDead_68 : decode cX1_isDead 68 = .ok (.if_icmp .ge 25, 3) := by decide +kernel
theorem dX1_isDead_71 : decode cX1_isDead 71 = .ok (.iload_n 2, 1) := by decide +kernel
theorem dX1_isDead_72 : decode cX1_isDead 72 = .ok (.iconst 2, 1) := by decide +kernel
theorem dX1_isDead_73 : decode cX1_isDead 73 = .ok (.if_icmp .eq 14, 3) := by decide +kernel
theorem dX1_isDead_76 : decode cX1_isDead 76 = .ok (.iload_n 3, 1) := by decide +kernel
theorem dX1_isDead_77 : decode cX1_isDead 77 = .ok (.iload 4, 2) := by decide +kernel
theorem dX1_isDead_79 : decode cX1_isDead 79 = .ok (.iadd, 1) := by decide +kernel
theorem dX1_isDead_80 : decode cX1_isDead 80 = .ok (.iload 5, 2) := by decide +kernel
theorem dX1_isDead_82 : decode cX1_isDead 82 = .ok (.iadd, 1) := by decide +kernel
theorem dX1_isDead_83 : decode cX1_isDead 83 = .ok (.iconst 1, 1) := by decide +kernel
theorem dX1_isDead_84 : decode cX1_isDead 84 = .ok (.if_icmp .ne 7, 3) := by decide +kernel
theorem dX1_isDead_87 : decode cX1_isDead 87 = .ok (.iconst 1, 1) := by decide +kernel
theorem dX1_isDead_88 : decode cX1_isDead 88 = .ok (.goto 4, 3) := by decide +kernel
theorem dX1_isDead_91 : decode cX1_isDead 91 = .ok (.iconst 0, 1) := by decide +kernel
theorem dX1_isDead_92 : decode cX1_isDead 92 = .ok (.ireturn, 1) := by decide +kernel
theorem dX1_isDead_93 : decode cX1_isDead 93 = .ok (.iload_n 2, 1) := by decide +kernel
theorem dX1_isDead_94 : decode cX1_isDead 94 = .ok (.iconst 4, 1) := by decide +kernel
theorem dX1_isDead_95 : decode cX1_isDead 95 = .ok (.if_icmp .ne 35, 3) := by decide +kernel
theorem dX1_isDead_98 : decode cX1_isDead 98 = .ok (.iload 4, 2) := by decide +kernel
theorem dX1_isDead_100 : decode cX1_isDead 100 = .ok (.iconst 1, 1) := by decide +kernel
theorem dX1_isDead_101 : decode cX1_isDead 101 = .ok (.if_icmp .ne 29, 3) := by decide +kernel
theorem dX1_isDead_104 : decode cX1_isDead 104 = .ok (.iload 5, 2) := by decide +kernel
theorem dX1_isDead_106 : decode cX1_isDead 106 = .ok (.iconst 1, 1) := by decide +kernel
theorem dX1_isDead_107 : decode cX1_isDead 107 = .ok (.if_icmp .ne 23, 3) := by decide +kernel
theorem dX1_isDead_110 : decode cX1_isDead 110 = .ok (.aload_n 0, 1) := by decide +kernel
theorem dX1_isDead_111 : decode cX1_isDead 111 = .ok (.iload_n 1, 1) := by decide +kernel
theorem dX1_isDead_112 : decode cX1_isDead 112 = .ok (.iconst 3, 1) := by decide +kernel
theorem dX1_isDead_113 : decode cX1_isDead 113 = .ok (.invokevirtual 42, 3) := by decide +kernel
theorem dX1_isDead_116 : decode cX1_isDead 116 = .ok (.aload_n 0, 1) := by decide +kernel
theorem dX1_isDead_117 : decode cX1_isDead 117 = .ok (.iload_n 1, 1) := by decide +kernel
theorem dX1_isDead_118 : decode cX1_isDead 118 = .ok (.bipush 9, 2) := by decide +kernel
theorem dX1_isDead_120 : decode cX1_isDead 120 = .ok (.invokevirtual 42, 3) := by decide +kernel
theorem dX1_isDead_123 : decode cX1_isDead 123 = .ok (.if_icmp .ne 7, 3) := by decide +kernel
theorem dX1_isDead_126 : decode cX1_isDead 126 = .ok (.iconst 1, 1) := by decide +kernel
theorem dX1_isDead_127 : decode cX1_isDead 127 = .ok (.goto 4, 3) := by decide +kernel
theorem dX1_isDead_130 : decode cX1_isDead 130 = .ok (.iconst 0, 1) := by decide +kernel
theorem dX1_isDead_131 : decode cX1_isDead 131 = .ok (.ireturn, 1) := by decide +kernel
set_option maxRecDepth 20000 in
theorem ggX1_verdictOf_X1_countOf : GoodIn wsX1_verdictOf wsX1_countOf := goodIn_r _ [6, 7, 8, 9, 5, 10, 11, 12, 25, 26, 27, 28, 29, 30, 31] (by decide +kernel) (by decide +kernel)
set_option maxRecDepth 20000 in
theorem gX1_verdictOf_X1_countOf : GoodIn wsX1_verdictOf (wsV RX1 45 RX1 yX1_countOf wsX1_countOf) := goodIn_app (goodIn_of _ (by decide +kernel)) ggX1_verdictOf_X1_countOf
set_option maxRecDepth 20000 in
theorem ggX1_verdictOf_X1_isDead : GoodIn wsX1_verdictOf wsX1_isDead := goodIn_r _ [16, 17, 18, 19, 5, 20, 12, 21, 22, 23, 24, 25, 26, 27, 28, 29, 30, 31] (by decide +kernel) (by decide +kernel)
set_option maxRecDepth 20000 in
theorem gX1_verdictOf_X1_isDead : GoodIn wsX1_verdictOf (wsV RX1 49 RX1 yX1_isDead wsX1_isDead) := goodIn_app (goodIn_of _ (by decide +kernel)) ggX1_verdictOf_X1_isDead
theorem dX1_verdictOf_0 : decode cX1_verdictOf 0 = .ok (.iload_n 2, 1) := by decide +kernel
theorem dX1_verdictOf_1 : decode cX1_verdictOf 1 = .ok (.ifCond .ne 13, 3) := by decide +kernel
theorem dX1_verdictOf_4 : decode cX1_verdictOf 4 = .ok (.iload_n 3, 1) := by decide +kernel
theorem dX1_verdictOf_5 : decode cX1_verdictOf 5 = .ok (.ifCond .eq 7, 3) := by decide +kernel
theorem dX1_verdictOf_8 : decode cX1_verdictOf 8 = .ok (.iconst 1, 1) := by decide +kernel
theorem dX1_verdictOf_9 : decode cX1_verdictOf 9 = .ok (.goto 4, 3) := by decide +kernel
theorem dX1_verdictOf_12 : decode cX1_verdictOf 12 = .ok (.iconst 2, 1) := by decide +kernel
theorem dX1_verdictOf_13 : decode cX1_verdictOf 13 = .ok (.ireturn, 1) := by decide +kernel
theorem dX1_verdictOf_14 : decode cX1_verdictOf 14 = .ok (.aload_n 0, 1) := by decide +kernel
theorem dX1_verdictOf_15 : decode cX1_verdictOf 15 = .ok (.iload_n 1, 1) := by decide +kernel
theorem dX1_verdictOf_16 : decode cX1_verdictOf 16 = .ok (.invokevirtual 45, 3) := by decide +kernel
theorem dX1_verdictOf_19 : decode cX1_verdictOf 19 = .ok (.istore 4, 2) := by decide +kernel
theorem dX1_verdictOf_21 : decode cX1_verdictOf 21 = .ok (.aload_n 0, 1) := by decide +kernel
theorem dX1_verdictOf_22 : decode cX1_verdictOf 22 = .ok (.iload_n 1, 1) := by decide +kernel
theorem dX1_verdictOf_23 : decode cX1_verdictOf 23 = .ok (.invokevirtual 49, 3) := by decide +kernel
theorem dX1_verdictOf_26 : decode cX1_verdictOf 26 = .ok (.ifCond .eq 5, 3) := by decide +kernel
theorem dX1_verdictOf_29 : decode cX1_verdictOf 29 = .ok (.iconst 3, 1) := by decide +kernel
theorem dX1_verdictOf_30 : decode cX1_verdictOf 30 = .ok (.ireturn, 1) := by decide +kernel
theorem dX1_verdictOf_31 : decode cX1_verdictOf 31 = .ok (.iload 4, 2) := by decide +kernel
theorem dX1_verdictOf_33 : decode cX1_verdictOf 33 = .ok (.iconst 5, 1) := by decide +kernel
theorem dX1_verdictOf_34 : decode cX1_verdictOf 34 = .ok (.if_icmp .lt 5, 3) := by decide +kernel
theorem dX1_verdictOf_37 : decode cX1_verdictOf 37 = .ok (.iconst 4, 1) := by decide +kernel
theorem dX1_verdictOf_38 : decode cX1_verdictOf 38 = .ok (.ireturn, 1) := by decide +kernel
theorem dX1_verdictOf_39 : decode cX1_verdictOf 39 = .ok (.aload_n 0, 1) := by decide +kernel
theorem dX1_verdictOf_40 : decode cX1_verdictOf 40 = .ok (.getfield 20, 3) := by decide +kernel
theorem dX1_verdictOf_43 : decode cX1_verdictOf 43 = .ok (.iload_n 1, 1) := by decide +kernel
theorem dX1_verdictOf_44 : decode cX1_verdictOf 44 = .ok (.iaload, 1) := by decide +kernel
theorem dX1_verdictOf_45 : decode cX1_verdictOf 45 = .ok (.sipush 150, 3) := by decide +kernel
theorem dX1_verdictOf_48 : decode cX1_verdictOf 48 = .ok (.if_icmp .lt 5, 3) := by decide +kernel
theorem dX1_verdictOf_51 : decode cX1_verdictOf 51 = .ok (.iconst 5, 1) := by decide +kernel
theorem dX1_verdictOf_52 : decode cX1_verdictOf 52 = .ok (.ireturn, 1) := by decide +kernel
theorem dX1_verdictOf_53 : decode cX1_verdictOf 53 = .ok (.iload 4, 2) := by decide +kernel
theorem dX1_verdictOf_55 : decode cX1_verdictOf 55 = .ok (.iconst 3, 1) := by decide +kernel
theorem dX1_verdictOf_56 : decode cX1_verdictOf 56 = .ok (.if_icmp .lt 24, 3) := by decide +kernel
theorem dX1_verdictOf_59 : decode cX1_verdictOf 59 = .ok (.aload_n 0, 1) := by decide +kernel
theorem dX1_verdictOf_60 : decode cX1_verdictOf 60 = .ok (.getfield 20, 3) := by decide +kernel
theorem dX1_verdictOf_63 : decode cX1_verdictOf 63 = .ok (.iload_n 1, 1) := by decide +kernel
theorem dX1_verdictOf_64 : decode cX1_verdictOf 64 = .ok (.iaload, 1) := by decide +kernel
theorem dX1_verdictOf_65 : decode cX1_verdictOf 65 = .ok (.bipush 100, 2) := by decide +kernel
theorem dX1_verdictOf_67 : decode cX1_verdictOf 67 = .ok (.if_icmp .lt 8, 3) := by decide +kernel
theorem dX1_verdictOf_70 : decode cX1_verdictOf 70 = .ok (.bipush 8, 2) := by decide +kernel
theorem dX1_verdictOf_72 : decode cX1_verdictOf 72 = .ok (.goto 25, 3) := by decide +kernel
theorem dX1_verdictOf_75 : decode cX1_verdictOf 75 = .ok (.bipush 6, 2) := by decide +kernel
theorem dX1_verdictOf_77 : decode cX1_verdictOf 77 = .ok (.goto 20, 3) := by decide +kernel
theorem dX1_verdictOf_80 : decode cX1_verdictOf 80 = .ok (.aload_n 0, 1) := by decide +kernel
theorem dX1_verdictOf_81 : decode cX1_verdictOf 81 = .ok (.getfield 20, 3) := by decide +kernel
theorem dX1_verdictOf_84 : decode cX1_verdictOf 84 = .ok (.iload_n 1, 1) := by decide +kernel
theorem dX1_verdictOf_85 : decode cX1_verdictOf 85 = .ok (.iaload, 1) := by decide +kernel
theorem dX1_verdictOf_86 : decode cX1_verdictOf 86 = .ok (.bipush 100, 2) := by decide +kernel
theorem dX1_verdictOf_88 : decode cX1_verdictOf 88 = .ok (.if_icmp .lt 8, 3) := by decide +kernel
theorem dX1_verdictOf_91 : decode cX1_verdictOf 91 = .ok (.bipush 7, 2) := by decide +kernel
theorem dX1_verdictOf_93 : decode cX1_verdictOf 93 = .ok (.goto 4, 3) := by decide +kernel
theorem dX1_verdictOf_96 : decode cX1_verdictOf 96 = .ok (.iconst 0, 1) := by decide +kernel
theorem dX1_verdictOf_97 : decode cX1_verdictOf 97 = .ok (.ireturn, 1) := by decide +kernel
set_option maxRecDepth 20000 in
theorem ggX1_add_X1_verdictOf : GoodIn wsX1_add wsX1_verdictOf := goodIn_r _ [11, 5, 12, 13, 14, 10, 15, 16, 17, 18, 19, 4, 1, 20, 21, 22, 23, 24, 25, 26, 27, 28, 29, 30, 31, 32, 33, 34, 35, 36, 37, 38] (by decide +kernel) (by decide +kernel)
set_option maxRecDepth 20000 in
theorem gX1_add_X1_verdictOf : GoodIn wsX1_add (wsV RX1 56 RX1 yX1_verdictOf wsX1_verdictOf) := goodIn_app (goodIn_of _ (by decide +kernel)) ggX1_add_X1_verdictOf
theorem dX1_add_0 : decode cX1_add 0 = .ok (.iconst 0, 1) := by decide +kernel
theorem dX1_add_1 : decode cX1_add 1 = .ok (.istore 5, 2) := by decide +kernel
theorem dX1_add_3 : decode cX1_add 3 = .ok (.iload 5, 2) := by decide +kernel
theorem dX1_add_5 : decode cX1_add 5 = .ok (.bipush 64, 2) := by decide +kernel
theorem dX1_add_7 : decode cX1_add 7 = .ok (.if_icmp .ge 31, 3) := by decide +kernel
theorem dX1_add_10 : decode cX1_add 10 = .ok (.aload_n 0, 1) := by decide +kernel
theorem dX1_add_11 : decode cX1_add 11 = .ok (.getfield 14, 3) := by decide +kernel
theorem dX1_add_14 : decode cX1_add 14 = .ok (.bipush 64, 2) := by decide +kernel
theorem dX1_add_16 : decode cX1_add 16 = .ok (.aload_n 0, 1) := by decide +kernel
theorem dX1_add_17 : decode cX1_add 17 = .ok (.getfield 53, 3) := by decide +kernel
theorem dX1_add_20 : decode cX1_add 20 = .ok (.imul, 1) := by decide +kernel
theorem dX1_add_21 : decode cX1_add 21 = .ok (.iload 5, 2) := by decide +kernel
theorem dX1_add_23 : decode cX1_add 23 = .ok (.iadd, 1) := by decide +kernel
theorem dX1_add_24 : decode cX1_add 24 = .ok (.aload_n 0, 1) := by decide +kernel
theorem dX1_add_25 : decode cX1_add 25 = .ok (.getfield 7, 3) := by decide +kernel
theorem dX1_add_28 : decode cX1_add 28 = .ok (.iload 5, 2) := by decide +kernel
theorem dX1_add_30 : decode cX1_add 30 = .ok (.iaload, 1) := by decide +kernel
theorem dX1_add_31 : decode cX1_add 31 = .ok (.iastore, 1) := by decide +kernel
theorem dX1_add_32 : decode cX1_add 32 = .ok (.iinc 5 1, 3) := by decide +kernel
theorem dX1_add_35 : decode cX1_add 35 = .ok (.goto (-32), 3) := by decide +kernel
theorem dX1_add_38 : decode cX1_add 38 = .ok (.aload_n 0, 1) := by decide +kernel
theorem dX1_add_39 : decode cX1_add 39 = .ok (.getfield 17, 3) := by decide +kernel
theorem dX1_add_42 : decode cX1_add 42 = .ok (.aload_n 0, 1) := by decide +kernel
theorem dX1_add_43 : decode cX1_add 43 = .ok (.getfield 53, 3) := by decide +kernel
theorem dX1_add_46 : decode cX1_add 46 = .ok (.iload_n 1, 1) := by decide +kernel
theorem dX1_add_47 : decode cX1_add 47 = .ok (.iastore, 1) := by decide +kernel
theorem dX1_add_48 : decode cX1_add 48 = .ok (.aload_n 0, 1) := by decide +kernel
theorem dX1_add_49 : decode cX1_add 49 = .ok (.getfield 20, 3) := by decide +kernel
theorem dX1_add_52 : decode cX1_add 52 = .ok (.aload_n 0, 1) := by decide +kernel
theorem dX1_add_53 : decode cX1_add 53 = .ok (.getfield 53, 3) := by decide +kernel
theorem dX1_add_56 : decode cX1_add 56 = .ok (.iload 4, 2) := by decide +kernel
theorem dX1_add_58 : decode cX1_add 58 = .ok (.iastore, 1) := by decide +kernel
theorem dX1_add_59 : decode cX1_add 59 = .ok (.aload_n 0, 1) := by decide +kernel
theorem dX1_add_60 : decode cX1_add 60 = .ok (.dup, 1) := by decide +kernel
theorem dX1_add_61 : decode cX1_add 61 = .ok (.getfield 53, 3) := by decide +kernel
theorem dX1_add_64 : decode cX1_add 64 = .ok (.iconst 1, 1) := by decide +kernel
theorem dX1_add_65 : decode cX1_add 65 = .ok (.iadd, 1) := by decide +kernel
theorem dX1_add_66 : decode cX1_add 66 = .ok (.putfield 53, 3) := by decide +kernel
theorem dX1_add_69 : decode cX1_add 69 = .ok (.aload_n 0, 1) := by decide +kernel
theorem dX1_add_70 : decode cX1_add 70 = .ok (.getfield 23, 3) := by decide +kernel
theorem dX1_add_73 : decode cX1_add 73 = .ok (.aload_n 0, 1) := by decide +kernel
theorem dX1_add_74 : decode cX1_add 74 = .ok (.getfield 53, 3) := by decide +kernel
theorem dX1_add_77 : decode cX1_add 77 = .ok (.iconst 1, 1) := by decide +kernel
theorem dX1_add_78 : decode cX1_add 78 = .ok (.isub, 1) := by decide +kernel
theorem dX1_add_79 : decode cX1_add 79 = .ok (.aload_n 0, 1) := by decide +kernel
theorem dX1_add_80 : decode cX1_add 80 = .ok (.aload_n 0, 1) := by decide +kernel
theorem dX1_add_81 : decode cX1_add 81 = .ok (.getfield 53, 3) := by decide +kernel
theorem dX1_add_84 : decode cX1_add 84 = .ok (.iconst 1, 1) := by decide +kernel
theorem dX1_add_85 : decode cX1_add 85 = .ok (.isub, 1) := by decide +kernel
theorem dX1_add_86 : decode cX1_add 86 = .ok (.iload_n 2, 1) := by decide +kernel
theorem dX1_add_87 : decode cX1_add 87 = .ok (.iload_n 3, 1) := by decide +kernel
theorem dX1_add_88 : decode cX1_add 88 = .ok (.invokevirtual 56, 3) := by decide +kernel
theorem dX1_add_91 : decode cX1_add 91 = .ok (.iastore, 1) := by decide +kernel
theorem dX1_add_92 : decode cX1_add 92 = .ok (.aload_n 0, 1) := by decide +kernel
theorem dX1_add_93 : decode cX1_add 93 = .ok (.getfield 23, 3) := by decide +kernel
theorem dX1_add_96 : decode cX1_add 96 = .ok (.aload_n 0, 1) := by decide +kernel
theorem dX1_add_97 : decode cX1_add 97 = .ok (.getfield 53, 3) := by decide +kernel
theorem dX1_add_100 : decode cX1_add 100 = .ok (.iconst 1, 1) := by decide +kernel
theorem dX1_add_101 : decode cX1_add 101 = .ok (.isub, 1) := by decide +kernel
theorem dX1_add_102 : decode cX1_add 102 = .ok (.iaload, 1) := by decide +kernel
theorem dX1_add_103 : decode cX1_add 103 = .ok (.ireturn, 1) := by decide +kernel
set_option maxRecDepth 20000 in
theorem ggX1_begin_X1_isState : GoodIn wsX1_begin wsX1_isState := goodIn_r _ [6] (by decide +kernel) (by decide +kernel)
set_option maxRecDepth 20000 in
theorem gX1_begin_X1_isState : GoodIn wsX1_begin (va_wsS RX1 60 yX1_isState wsX1_isState) := goodIn_app (goodIn_of _ (by decide +kernel)) ggX1_begin_X1_isState
set_option maxRecDepth 20000 in
theorem ggX1_begin_X1_add : GoodIn wsX1_begin wsX1_add := goodIn_r _ [10, 11, 2, 12, 13, 14, 15, 16, 17, 18, 5, 19, 20, 21, 22, 23, 24, 25, 26, 27, 28, 29, 30, 31, 32, 33, 34, 35, 36, 37, 38, 39, 40, 41, 42, 43, 44, 45, 46] (by decide +kernel) (by decide +kernel)
set_option maxRecDepth 20000 in
theorem gX1_begin_X1_add : GoodIn wsX1_begin (wsV RX1 63 RX1 yX1_add wsX1_add) := goodIn_app (goodIn_of _ (by decide +kernel)) ggX1_begin_X1_add
theorem dX1_begin_0 : decode cX1_begin 0 = .ok (.aload_n 0, 1) := by decide +kernel
theorem dX1_begin_1 : decode cX1_begin 1 = .ok (.iload_n 1, 1) := by decide +kernel
theorem dX1_begin_2 : decode cX1_begin 2 = .ok (.invokestatic 60, 3) := by decide +kernel
theorem dX1_begin_5 : decode cX1_begin 5 = .ok (.ifCond .eq 31, 3) := by decide +kernel
theorem dX1_begin_8 : decode cX1_begin 8 = .ok (.iload_n 2, 1) := by decide +kernel
theorem dX1_begin_9 : decode cX1_begin 9 = .ok (.ifCond .lt 27, 3) := by decide +kernel
theorem dX1_begin_12 : decode cX1_begin 12 = .ok (.iload_n 2, 1) := by decide +kernel
theorem dX1_begin_13 : decode cX1_begin 13 = .ok (.sipush 300, 3) := by decide +kernel
theorem dX1_begin_16 : decode cX1_begin 16 = .ok (.if_icmp .gt 20, 3) := by decide +kernel
theorem dX1_begin_19 : decode cX1_begin 19 = .ok (.iload 4, 2) := by decide +kernel
theorem dX1_begin_21 : decode cX1_begin 21 = .ok (.ifCond .lt 15, 3) := by decide +kernel
theorem dX1_begin_24 : decode cX1_begin 24 = .ok (.iload 4, 2) := by decide +kernel
theorem dX1_begin_26 : decode cX1_begin 26 = .ok (.sipush 1000, 3) := by decide +kernel
theorem dX1_begin_29 : decode cX1_begin 29 = .ok (.if_icmp .gt 7, 3) := by decide +kernel
theorem dX1_begin_32 : decode cX1_begin 32 = .ok (.iconst 0, 1) := by decide +kernel
theorem dX1_begin_33 : decode cX1_begin 33 = .ok (.goto 4, 3) := by decide +kernel
theorem dX1_begin_36 : decode cX1_begin 36 = .ok (.iconst 1, 1) := by decide +kernel
theorem dX1_begin_37 : decode cX1_begin 37 = .ok (.putfield 26, 3) := by decide +kernel
theorem dX1_begin_40 : decode cX1_begin 40 = .ok (.aload_n 0, 1) := by decide +kernel
theorem dX1_begin_41 : decode cX1_begin 41 = .ok (.getfield 26, 3) := by decide +kernel
theorem dX1_begin_44 : decode cX1_begin 44 = .ok (.ifCond .le 5, 3) := by decide +kernel
theorem dX1_begin_47 : decode cX1_begin 47 = .ok (.iconst 0, 1) := by decide +kernel
theorem dX1_begin_48 : decode cX1_begin 48 = .ok (.ireturn, 1) := by decide +kernel
theorem dX1_begin_49 : decode cX1_begin 49 = .ok (.aload_n 0, 1) := by decide +kernel
theorem dX1_begin_50 : decode cX1_begin 50 = .ok (.iconst 0, 1) := by decide +kernel
theorem dX1_begin_51 : decode cX1_begin 51 = .ok (.putfield 53, 3) := by decide +kernel
theorem dX1_begin_54 : decode cX1_begin 54 = .ok (.aload_n 0, 1) := by decide +kernel
theorem dX1_begin_55 : decode cX1_begin 55 = .ok (.iload_n 1, 1) := by decide +kernel
theorem dX1_begin_56 : decode cX1_begin 56 = .ok (.iload_n 2, 1) := by decide +kernel
theorem dX1_begin_57 : decode cX1_begin 57 = .ok (.iload_n 3, 1) := by decide +kernel
theorem dX1_begin_58 : decode cX1_begin 58 = .ok (.iload 4, 2) := by decide +kernel
theorem dX1_begin_60 : decode cX1_begin 60 = .ok (.invokevirtual 63, 3) := by decide +kernel
theorem dX1_begin_63 : decode cX1_begin 63 = .ok (.ireturn, 1) := by decide +kernel
set_option maxRecDepth 20000 in
theorem ggX1_next_X1_isState : GoodIn wsX1_next wsX1_isState := goodIn_r _ [8] (by decide +kernel) (by decide +kernel)
set_option maxRecDepth 20000 in
theorem gX1_next_X1_isState : GoodIn wsX1_next (va_wsS RX1 60 yX1_isState wsX1_isState) := goodIn_app (goodIn_of _ (by decide +kernel)) ggX1_next_X1_isState
set_option maxRecDepth 20000 in
theorem ggX1_next_X1_add : GoodIn wsX1_next wsX1_add := goodIn_r _ [12, 13, 1, 14, 15, 4, 2, 16, 17, 18, 7, 19, 20, 21, 22, 23, 24, 25, 26, 27, 28, 29, 30, 31, 32, 33, 34, 35, 36, 37, 38, 39, 40, 41, 42, 43, 44, 45, 46] (by decide +kernel) (by decide +kernel)
set_option maxRecDepth 20000 in
theorem gX1_next_X1_add : GoodIn wsX1_next (wsV RX1 63 RX1 yX1_add wsX1_add) := goodIn_app (goodIn_of _ (by decide +kernel)) ggX1_next_X1_add
theorem dX1_next_0 : decode cX1_next 0 = .ok (.aload_n 0, 1) := by decide +kernel
theorem dX1_next_1 : decode cX1_next 1 = .ok (.getfield 53, 3) := by decide +kernel
theorem dX1_next_4 : decode cX1_next 4 = .ok (.ifCond .eq 13, 3) := by decide +kernel
theorem dX1_next_7 : decode cX1_next 7 = .ok (.aload_n 0, 1) := by decide +kernel
theorem dX1_next_8 : decode cX1_next 8 = .ok (.getfield 53, 3) := by decide +kernel
theorem dX1_next_11 : decode cX1_next 11 = .ok (.sipush 640, 3) := by decide +kernel
theorem dX1_next_14 : decode cX1_next 14 = .ok (.if_icmp .ne 7, 3) := by decide +kernel
theorem dX1_next_17 : decode cX1_next 17 = .ok (.iconst 1, 1) := by decide +kernel
theorem dX1_next_18 : decode cX1_next 18 = .ok (.goto 4, 3) := by decide +kernel
theorem dX1_next_21 : decode cX1_next 21 = .ok (.iconst 0, 1) := by decide +kernel
theorem dX1_next_22 : decode cX1_next 22 = .ok (.istore 5, 2) := by decide +kernel
theorem dX1_next_24 : decode cX1_next 24 = .ok (.iload 5, 2) := by decide +kernel
theorem dX1_next_26 : decode cX1_next 26 = .ok (.ifCond .ne 33, 3) := by decide +kernel
theorem dX1_next_29 : decode cX1_next 29 = .ok (.aload_n 0, 1) := by decide +kernel
theorem dX1_next_30 : decode cX1_next 30 = .ok (.getfield 23, 3) := by decide +kernel
theorem dX1_next_33 : decode cX1_next 33 = .ok (.aload_n 0, 1) := by decide +kernel
theorem dX1_next_34 : decode cX1_next 34 = .ok (.getfield 53, 3) := by decide +kernel
theorem dX1_next_37 : decode cX1_next 37 = .ok (.iconst 1, 1) := by decide +kernel
theorem dX1_next_38 : decode cX1_next 38 = .ok (.isub, 1) := by decide +kernel
theorem dX1_next_39 : decode cX1_next 39 = .ok (.iaload, 1) := by decide +kernel
theorem dX1_next_40 : decode cX1_next 40 = .ok (.ifCond .le 23, 3) := by decide +kernel
theorem dX1_next_43 : decode cX1_next 43 = .ok (.aload_n 0, 1) := by decide +kernel
theorem dX1_next_44 : decode cX1_next 44 = .ok (.getfield 23, 3) := by decide +kernel
theorem dX1_next_47 : decode cX1_next 47 = .ok (.aload_n 0, 1) := by decide +kernel
theorem dX1_next_48 : decode cX1_next 48 = .ok (.getfield 53, 3) := by decide +kernel
theorem dX1_next_51 : decode cX1_next 51 = .ok (.iconst 1, 1) := by decide +kernel
theorem dX1_next_52 : decode cX1_next 52 = .ok (.isub, 1) := by decide +kernel
theorem dX1_next_53 : decode cX1_next 53 = .ok (.iaload, 1) := by decide +kernel
theorem dX1_next_54 : decode cX1_next 54 = .ok (.bipush 6, 2) := by decide +kernel
theorem dX1_next_56 : decode cX1_next 56 = .ok (.if_icmp .ge 7, 3) := by decide +kernel
theorem dX1_next_59 : decode cX1_next 59 = .ok (.iconst 1, 1) := by decide +kernel
theorem dX1_next_60 : decode cX1_next 60 = .ok (.goto 4, 3) := by decide +kernel
theorem dX1_next_63 : decode cX1_next 63 = .ok (.iconst 0, 1) := by decide +kernel
theorem dX1_next_64 : decode cX1_next 64 = .ok (.istore 5, 2) := by decide +kernel
theorem dX1_next_66 : decode cX1_next 66 = .ok (.aload_n 0, 1) := by decide +kernel
theorem dX1_next_67 : decode cX1_next 67 = .ok (.iload 5, 2) := by decide +kernel
theorem dX1_next_69 : decode cX1_next 69 = .ok (.ifCond .eq 7, 3) := by decide +kernel
theorem dX1_next_72 : decode cX1_next 72 = .ok (.iconst 1, 1) := by decide +kernel
theorem dX1_next_73 : decode cX1_next 73 = .ok (.goto 26, 3) := by decide +kernel
theorem dX1_next_76 : decode cX1_next 76 = .ok (.iload_n 1, 1) := by decide +kernel
theorem dX1_next_77 : decode cX1_next 77 = .ok (.invokestatic 60, 3) := by decide +kernel
theorem dX1_next_80 : decode cX1_next 80 = .ok (.ifCond .eq 18, 3) := by decide +kernel
theorem dX1_next_83 : decode cX1_next 83 = .ok (.iload_n 2, 1) := by decide +kernel
theorem dX1_next_84 : decode cX1_next 84 = .ok (.ifCond .lt 14, 3) := by decide +kernel
theorem dX1_next_87 : decode cX1_next 87 = .ok (.iload_n 2, 1) := by decide +kernel
theorem dX1_next_88 : decode cX1_next 88 = .ok (.sipush 300, 3) := by decide +kernel
theorem dX1_next_91 : decode cX1_next 91 = .ok (.if_icmp .gt 7, 3) := by decide +kernel
theorem dX1_next_94 : decode cX1_next 94 = .ok (.iconst 0, 1) := by decide +kernel
theorem dX1_next_95 : decode cX1_next 95 = .ok (.goto 4, 3) := by decide +kernel
theorem dX1_next_98 : decode cX1_next 98 = .ok (.iconst 2, 1) := by decide +kernel
theorem dX1_next_99 : decode cX1_next 99 = .ok (.putfield 26, 3) := by decide +kernel
theorem dX1_next_102 : decode cX1_next 102 = .ok (.aload_n 0, 1) := by decide +kernel
theorem dX1_next_103 : decode cX1_next 103 = .ok (.getfield 26, 3) := by decide +kernel
theorem dX1_next_106 : decode cX1_next 106 = .ok (.ifCond .le 5, 3) := by decide +kernel
theorem dX1_next_109 : decode cX1_next 109 = .ok (.iconst 0, 1) := by decide +kernel
theorem dX1_next_110 : decode cX1_next 110 = .ok (.ireturn, 1) := by decide +kernel
theorem dX1_next_111 : decode cX1_next 111 = .ok (.aload_n 0, 1) := by decide +kernel
theorem dX1_next_112 : decode cX1_next 112 = .ok (.iload_n 1, 1) := by decide +kernel
theorem dX1_next_113 : decode cX1_next 113 = .ok (.iload_n 2, 1) := by decide +kernel
theorem dX1_next_114 : decode cX1_next 114 = .ok (.iload_n 3, 1) := by decide +kernel
theorem dX1_next_115 : decode cX1_next 115 = .ok (.iload 4, 2) := by decide +kernel
theorem dX1_next_117 : decode cX1_next 117 = .ok (.ifCond .eq 7, 3) := by decide +kernel
theorem dX1_next_120 : decode cX1_next 120 = .ok (.iconst 0, 1) := by decide +kernel
theorem dX1_next_121 : decode cX1_next 121 = .ok (.goto 16, 3) := by decide +kernel
theorem dX1_next_124 : decode cX1_next 124 = .ok (.aload_n 0, 1) := by decide +kernel
theorem dX1_next_125 : decode cX1_next 125 = .ok (.getfield 20, 3) := by decide +kernel
theorem dX1_next_128 : decode cX1_next 128 = .ok (.aload_n 0, 1) := by decide +kernel
theorem dX1_next_129 : decode cX1_next 129 = .ok (.getfield 53, 3) := by decide +kernel
theorem dX1_next_132 : decode cX1_next 132 = .ok (.iconst 1, 1) := by decide +kernel
theorem dX1_next_133 : decode cX1_next 133 = .ok (.isub, 1) := by decide +kernel
theorem dX1_next_134 : decode cX1_next 134 = .ok (.iaload, 1) := by decide +kernel
theorem dX1_next_135 : decode cX1_next 135 = .ok (.iconst 1, 1) := by decide +kernel
theorem dX1_next_136 : decode cX1_next 136 = .ok (.iadd, 1) := by decide +kernel
theorem dX1_next_137 : decode cX1_next 137 = .ok (.invokevirtual 63, 3) := by decide +kernel
theorem dX1_next_140 : decode cX1_next 140 = .ok (.ireturn, 1) := by decide +kernel
theorem dX1_back_0 : decode cX1_back 0 = .ok (.aload_n 0, 1) := by decide +kernel
theorem dX1_back_1 : decode cX1_back 1 = .ok (.iconst 0, 1) := by decide +kernel
theorem dX1_back_2 : decode cX1_back 2 = .ok (.putfield 26, 3) := by decide +kernel
theorem dX1_back_5 : decode cX1_back 5 = .ok (.aload_n 0, 1) := by decide +kernel
theorem dX1_back_6 : decode cX1_back 6 = .ok (.getfield 53, 3) := by decide +kernel
theorem dX1_back_9 : decode cX1_back 9 = .ok (.ifCond .ne 5, 3) := by decide +kernel
theorem dX1_back_12 : decode cX1_back 12 = .ok (.iconst 0, 1) := by decide +kernel
theorem dX1_back_13 : decode cX1_back 13 = .ok (.ireturn, 1) := by decide +kernel
theorem dX1_back_14 : decode cX1_back 14 = .ok (.aload_n 0, 1) := by decide +kernel
theorem dX1_back_15 : decode cX1_back 15 = .ok (.dup, 1) := by decide +kernel
theorem dX1_back_16 : decode cX1_back 16 = .ok (.getfield 53, 3) := by decide +kernel
theorem dX1_back_19 : decode cX1_back 19 = .ok (.iconst 1, 1) := by decide +kernel
theorem dX1_back_20 : decode cX1_back 20 = .ok (.isub, 1) := by decide +kernel
theorem dX1_back_21 : decode cX1_back 21 = .ok (.putfield 53, 3) := by decide +kernel
theorem dX1_back_24 : decode cX1_back 24 = .ok (.iconst 1, 1) := by decide +kernel
theorem dX1_back_25 : decode cX1_back 25 = .ok (.ireturn, 1) := by decide +kernel
theorem dX1_verdict_0 : decode cX1_verdict 0 = .ok (.aload_n 0, 1) := by decide +kernel
theorem dX1_verdict_1 : decode cX1_verdict 1 = .ok (.iconst 0, 1) := by decide +kernel
theorem dX1_verdict_2 : decode cX1_verdict 2 = .ok (.putfield 26, 3) := by decide +kernel
theorem dX1_verdict_5 : decode cX1_verdict 5 = .ok (.aload_n 0, 1) := by decide +kernel
theorem dX1_verdict_6 : decode cX1_verdict 6 = .ok (.getfield 53, 3) := by decide +kernel
theorem dX1_verdict_9 : decode cX1_verdict 9 = .ok (.ifCond .ne 7, 3) := by decide +kernel
theorem dX1_verdict_12 : decode cX1_verdict 12 = .ok (.iconst (-1), 1) := by decide +kernel
theorem dX1_verdict_13 : decode cX1_verdict 13 = .ok (.goto 14, 3) := by decide +kernel
theorem dX1_verdict_16 : decode cX1_verdict 16 = .ok (.aload_n 0, 1) := by decide +kernel
theorem dX1_verdict_17 : decode cX1_verdict 17 = .ok (.getfield 23, 3) := by decide +kernel
theorem dX1_verdict_20 : decode cX1_verdict 20 = .ok (.aload_n 0, 1) := by decide +kernel
theorem dX1_verdict_21 : decode cX1_verdict 21 = .ok (.getfield 53, 3) := by decide +kernel
theorem dX1_verdict_24 : decode cX1_verdict 24 = .ok (.iconst 1, 1) := by decide +kernel
theorem dX1_verdict_25 : decode cX1_verdict 25 = .ok (.isub, 1) := by decide +kernel
theorem dX1_verdict_26 : decode cX1_verdict 26 = .ok (.iaload, 1) := by decide +kernel
theorem dX1_verdict_27 : decode cX1_verdict 27 = .ok (.ireturn, 1) := by decide +kernel
theorem dX1_isIn_0 : decode cX1_isIn 0 = .ok (.iload_n 1, 1) := by decide +kernel
theorem dX1_isIn_1 : decode cX1_isIn 1 = .ok (.ifCond .lt 15, 3) := by decide +kernel
theorem dX1_isIn_4 : decode cX1_isIn 4 = .ok (.iload_n 1, 1) := by decide +kernel
theorem dX1_isIn_5 : decode cX1_isIn 5 = .ok (.aload_n 0, 1) := by decide +kernel
theorem dX1_isIn_6 : decode cX1_isIn 6 = .ok (.getfield 53, 3) := by decide +kernel
theorem dX1_isIn_9 : decode cX1_isIn 9 = .ok (.if_icmp .ge 7, 3) := by decide +kernel
theorem dX1_isIn_12 : decode cX1_isIn 12 = .ok (.iconst 1, 1) := by decide +kernel
theorem dX1_isIn_13 : decode cX1_isIn 13 = .ok (.goto 4, 3) := by decide +kernel
theorem dX1_isIn_16 : decode cX1_isIn 16 = .ok (.iconst 0, 1) := by decide +kernel
theorem dX1_isIn_17 : decode cX1_isIn 17 = .ok (.ireturn, 1) := by decide +kernel
set_option maxRecDepth 20000 in
theorem ggX1_of_X1_isIn : GoodIn wsX1_of wsX1_isIn := goodIn_r _ [9, 10, 32, 33, 34, 35, 36, 37, 38] (by decide +kernel) (by decide +kernel)
set_option maxRecDepth 20000 in
theorem gX1_of_X1_isIn : GoodIn wsX1_of (wsV RX1 67 RX1 yX1_isIn wsX1_isIn) := goodIn_app (goodIn_of _ (by decide +kernel)) ggX1_of_X1_isIn
set_option maxRecDepth 20000 in
theorem ggX1_of_X1_isSame : GoodIn wsX1_of wsX1_isSame := goodIn_r _ [14, 4, 15, 32, 33, 34, 35, 36, 37, 38] (by decide +kernel) (by decide +kernel)
set_option maxRecDepth 20000 in
theorem gX1_of_X1_isSame : GoodIn wsX1_of (wsV RX1 34 RX1 yX1_isSame wsX1_isSame) := goodIn_app (goodIn_of _ (by decide +kernel)) ggX1_of_X1_isSame
set_option maxRecDepth 20000 in
theorem ggX1_of_X1_countOf : GoodIn wsX1_of wsX1_countOf := goodIn_r _ [19, 11, 12, 13, 8, 14, 4, 15, 32, 33, 34, 35, 36, 37, 38] (by decide +kernel) (by decide +kernel)
set_option maxRecDepth 20000 in
theorem gX1_of_X1_countOf : GoodIn wsX1_of (wsV RX1 45 RX1 yX1_countOf wsX1_countOf) := goodIn_app (goodIn_of _ (by decide +kernel)) ggX1_of_X1_countOf
set_option maxRecDepth 20000 in
theorem ggX1_of_X1_isDead : GoodIn wsX1_of wsX1_isDead := goodIn_r _ [23, 24, 25, 26, 8, 27, 15, 28, 29, 30, 31, 32, 33, 34, 35, 36, 37, 38] (by decide +kernel) (by decide +kernel)
set_option maxRecDepth 20000 in
theorem gX1_of_X1_isDead : GoodIn wsX1_of (wsV RX1 49 RX1 yX1_isDead wsX1_isDead) := goodIn_app (goodIn_of _ (by decide +kernel)) ggX1_of_X1_isDead
set_option maxRecDepth 20000 in
theorem ggX1_of_X1_howMany : GoodIn wsX1_of wsX1_howMany := goodIn_r _ [27, 15, 32, 33, 34, 35, 36, 37, 38] (by decide +kernel) (by decide +kernel)
set_option maxRecDepth 20000 in
theorem gX1_of_X1_howMany : GoodIn wsX1_of (wsV RX1 38 RX1 yX1_howMany wsX1_howMany) := goodIn_app (goodIn_of _ (by decide +kernel)) ggX1_of_X1_howMany
theorem dX1_of_0 : decode cX1_of 0 = .ok (.aload_n 0, 1) := by decide +kernel
theorem dX1_of_1 : decode cX1_of 1 = .ok (.aload_n 0, 1) := by decide +kernel
theorem dX1_of_2 : decode cX1_of 2 = .ok (.iload_n 1, 1) := by decide +kernel
theorem dX1_of_3 : decode cX1_of 3 = .ok (.invokevirtual 67, 3) := by decide +kernel
theorem dX1_of_6 : decode cX1_of 6 = .ok (.ifCond .eq 17, 3) := by decide +kernel
theorem dX1_of_9 : decode cX1_of 9 = .ok (.iload_n 2, 1) := by decide +kernel
theorem dX1_of_10 : decode cX1_of 10 = .ok (.ifCond .lt 13, 3) := by decide +kernel
theorem dX1_of_13 : decode cX1_of 13 = .ok (.iload_n 2, 1) := by decide +kernel
theorem dX1_of_14 : decode cX1_of 14 = .ok (.bipush 7, 2) := by decide +kernel
theorem dX1_of_16 : decode cX1_of 16 = .ok (.if_icmp .gt 7, 3) := by decide +kernel
theorem dX1_of_19 : decode cX1_of 19 = .ok (.iconst 0, 1) := by decide +kernel
theorem dX1_of_20 : decode cX1_of 20 = .ok (.goto 4, 3) := by decide +kernel
theorem dX1_of_23 : decode cX1_of 23 = .ok (.iconst 1, 1) := by decide +kernel
theorem dX1_of_24 : decode cX1_of 24 = .ok (.putfield 26, 3) := by decide +kernel
theorem dX1_of_27 : decode cX1_of 27 = .ok (.aload_n 0, 1) := by decide +kernel
theorem dX1_of_28 : decode cX1_of 28 = .ok (.getfield 26, 3) := by decide +kernel
theorem dX1_of_31 : decode cX1_of 31 = .ok (.ifCond .le 5, 3) := by decide +kernel
theorem dX1_of_34 : decode cX1_of 34 = .ok (.iconst 0, 1) := by decide +kernel
theorem dX1_of_35 : decode cX1_of 35 = .ok (.ireturn, 1) := by decide +kernel
theorem dX1_of_36 : decode cX1_of 36 = .ok (.iload_n 1, 1) := by decide +kernel
theorem dX1_of_37 : decode cX1_of 37 = .ok (.istore_n 3, 1) := by decide +kernel
theorem dX1_of_38 : decode cX1_of 38 = .ok (.iconst (-1), 1) := by decide +kernel
theorem dX1_of_39 : decode cX1_of 39 = .ok (.istore 4, 2) := by decide +kernel
theorem dX1_of_41 : decode cX1_of 41 = .ok (.iconst 0, 1) := by decide +kernel
theorem dX1_of_42 : decode cX1_of 42 = .ok (.istore 5, 2) := by decide +kernel
theorem dX1_of_44 : decode cX1_of 44 = .ok (.iload 5, 2) := by decide +kernel
theorem dX1_of_46 : decode cX1_of 46 = .ok (.iload_n 1, 1) := by decide +kernel
theorem dX1_of_47 : decode cX1_of 47 = .ok (.if_icmp .ge 50, 3) := by decide +kernel
theorem dX1_of_50 : decode cX1_of 50 = .ok (.aload_n 0, 1) := by decide +kernel
theorem dX1_of_51 : decode cX1_of 51 = .ok (.iload_n 1, 1) := by decide +kernel
theorem dX1_of_52 : decode cX1_of 52 = .ok (.iload 5, 2) := by decide +kernel
theorem dX1_of_54 : decode cX1_of 54 = .ok (.invokevirtual 34, 3) := by decide +kernel
theorem dX1_of_57 : decode cX1_of 57 = .ok (.istore 6, 2) := by decide +kernel
theorem dX1_of_59 : decode cX1_of 59 = .ok (.iload 6, 2) := by decide +kernel
theorem dX1_of_61 : decode cX1_of 61 = .ok (.ifCond .eq 14, 3) := by decide +kernel
theorem dX1_of_64 : decode cX1_of 64 = .ok (.iload 5, 2) := by decide +kernel
theorem dX1_of_66 : decode cX1_of 66 = .ok (.iload_n 3, 1) := by decide +kernel
theorem dX1_of_67 : decode cX1_of 67 = .ok (.if_icmp .ge 8, 3) := by decide +kernel
theorem dX1_of_70 : decode cX1_of 70 = .ok (.iload 5, 2) := by decide +kernel
theorem dX1_of_72 : decode cX1_of 72 = .ok (.goto 4, 3) := by decide +kernel
theorem dX1_of_75 : decode cX1_of 75 = .ok (.iload_n 3, 1) := by decide +kernel
theorem dX1_of_76 : decode cX1_of 76 = .ok (.istore_n 3, 1) := by decide +kernel
theorem dX1_of_77 : decode cX1_of 77 = .ok (.iload 6, 2) := by decide +kernel
theorem dX1_of_79 : decode cX1_of 79 = .ok (.ifCond .eq 8, 3) := by decide +kernel
theorem dX1_of_82 : decode cX1_of 82 = .ok (.iload 5, 2) := by decide +kernel
theorem dX1_of_84 : decode cX1_of 84 = .ok (.goto 5, 3) := by decide +kernel
theorem dX1_of_87 : decode cX1_of 87 = .ok (.iload 4, 2) := by decide +kernel
theorem dX1_of_89 : decode cX1_of 89 = .ok (.istore 4, 2) := by decide +kernel
theorem dX1_of_91 : decode cX1_of 91 = .ok (.iinc 5 1, 3) := by decide +kernel
theorem dX1_of_94 : decode cX1_of 94 = .ok (.goto (-50), 3) := by decide +kernel
theorem dX1_of_97 : decode cX1_of 97 = .ok (.iload_n 2, 1) := by decide +kernel
theorem dX1_of_98 : decode cX1_of 98 = .ok (.tableswitch 88 0 6 #[42, 48, 55, 62, 64, 67, 74], 42) := by decide +kernel
theorem dX1_of_140 : decode cX1_of 140 = .ok (.aload_n 0, 1) := by decide +kernel
theorem dX1_of_141 : decode cX1_of 141 = .ok (.iload_n 1, 1) := by decide +kernel
theorem dX1_of_142 : decode cX1_of 142 = .ok (.invokevirtual 45, 3) := by decide +kernel
theorem dX1_of_145 : decode cX1_of 145 = .ok (.ireturn, 1) := by decide +kernel
theorem dX1_of_146 : decode cX1_of 146 = .ok (.aload_n 0, 1) := by decide +kernel
theorem dX1_of_147 : decode cX1_of 147 = .ok (.getfield 20, 3) := by decide +kernel
theorem dX1_of_150 : decode cX1_of 150 = .ok (.iload_n 1, 1) := by decide +kernel
theorem dX1_of_151 : decode cX1_of 151 = .ok (.iaload, 1) := by decide +kernel
theorem dX1_of_152 : decode cX1_of 152 = .ok (.ireturn, 1) := by decide +kernel
theorem dX1_of_153 : decode cX1_of 153 = .ok (.aload_n 0, 1) := by decide +kernel
theorem dX1_of_154 : decode cX1_of 154 = .ok (.getfield 23, 3) := by decide +kernel
theorem dX1_of_157 : decode cX1_of 157 = .ok (.iload_n 1, 1) := by decide +kernel
theorem dX1_of_158 : decode cX1_of 158 = .ok (.iaload, 1) := by decide +kernel
theorem dX1_of_159 : decode cX1_of 159 = .ok (.ireturn, 1) := by decide +kernel
theorem dX1_of_160 : decode cX1_of 160 = .ok (.iload_n 3, 1) := by decide +kernel
theorem dX1_of_161 : decode cX1_of 161 = .ok (.ireturn, 1) := by decide +kernel
theorem dX1_of_162 : decode cX1_of 162 = .ok (.iload 4, 2) := by decide +kernel
theorem dX1_of_164 : decode cX1_of 164 = .ok (.ireturn, 1) := by decide +kernel
theorem dX1_of_165 : decode cX1_of 165 = .ok (.aload_n 0, 1) := by decide +kernel
theorem dX1_of_166 : decode cX1_of 166 = .ok (.getfield 17, 3) := by decide +kernel
theorem dX1_of_169 : decode cX1_of 169 = .ok (.iload_n 1, 1) := by decide +kernel
theorem dX1_of_170 : decode cX1_of 170 = .ok (.iaload, 1) := by decide +kernel
theorem dX1_of_171 : decode cX1_of 171 = .ok (.ireturn, 1) := by decide +kernel
theorem dX1_of_172 : decode cX1_of 172 = .ok (.aload_n 0, 1) := by decide +kernel
theorem dX1_of_173 : decode cX1_of 173 = .ok (.iload_n 1, 1) := by decide +kernel
theorem dX1_of_174 : decode cX1_of 174 = .ok (.invokevirtual 49, 3) := by decide +kernel
theorem dX1_of_177 : decode cX1_of 177 = .ok (.ifCond .eq 7, 3) := by decide +kernel
theorem dX1_of_180 : decode cX1_of 180 = .ok (.iconst 1, 1) := by decide +kernel
theorem dX1_of_181 : decode cX1_of 181 = .ok (.goto 4, 3) := by decide +kernel
theorem dX1_of_184 : decode cX1_of 184 = .ok (.iconst 0, 1) := by decide +kernel
theorem dX1_of_185 : decode cX1_of 185 = .ok (.ireturn, 1) := by decide +kernel
theorem dX1_of_186 : decode cX1_of 186 = .ok (.bipush 64, 2) := by decide +kernel
theorem dX1_of_188 : decode cX1_of 188 = .ok (.aload_n 0, 1) := by decide +kernel
theorem dX1_of_189 : decode cX1_of 189 = .ok (.iload_n 1, 1) := by decide +kernel
theorem dX1_of_190 : decode cX1_of 190 = .ok (.iconst 0, 1) := by decide +kernel
theorem dX1_of_191 : decode cX1_of 191 = .ok (.invokevirtual 38, 3) := by decide +kernel
theorem dX1_of_194 : decode cX1_of 194 = .ok (.isub, 1) := by decide +kernel
theorem dX1_of_195 : decode cX1_of 195 = .ok (.ireturn, 1) := by decide +kernel
set_option maxRecDepth 20000 in
theorem ggX1_men_X1_isIn : GoodIn wsX1_men wsX1_isIn := goodIn_r _ [7, 8, 9, 10, 11, 12, 13, 14, 15] (by decide +kernel) (by decide +kernel)
set_option maxRecDepth 20000 in
theorem gX1_men_X1_isIn : GoodIn wsX1_men (wsV RX1 67 RX1 yX1_isIn wsX1_isIn) := goodIn_app (goodIn_of _ (by decide +kernel)) ggX1_men_X1_isIn
theorem dX1_men_0 : decode cX1_men 0 = .ok (.aload_n 0, 1) := by decide +kernel
theorem dX1_men_1 : decode cX1_men 1 = .ok (.aload_n 0, 1) := by decide +kernel
theorem dX1_men_2 : decode cX1_men 2 = .ok (.iload_n 1, 1) := by decide +kernel
theorem dX1_men_3 : decode cX1_men 3 = .ok (.invokevirtual 67, 3) := by decide +kernel
theorem dX1_men_6 : decode cX1_men 6 = .ok (.ifCond .eq 16, 3) := by decide +kernel
theorem dX1_men_9 : decode cX1_men 9 = .ok (.iload_n 2, 1) := by decide +kernel
theorem dX1_men_10 : decode cX1_men 10 = .ok (.ifCond .lt 12, 3) := by decide +kernel
theorem dX1_men_13 : decode cX1_men 13 = .ok (.iload_n 2, 1) := by decide +kernel
theorem dX1_men_14 : decode cX1_men 14 = .ok (.iconst 3, 1) := by decide +kernel
theorem dX1_men_15 : decode cX1_men 15 = .ok (.if_icmp .gt 7, 3) := by decide +kernel
theorem dX1_men_18 : decode cX1_men 18 = .ok (.iconst 0, 1) := by decide +kernel
theorem dX1_men_19 : decode cX1_men 19 = .ok (.goto 4, 3) := by decide +kernel
theorem dX1_men_22 : decode cX1_men 22 = .ok (.iconst 1, 1) := by decide +kernel
theorem dX1_men_23 : decode cX1_men 23 = .ok (.putfield 26, 3) := by decide +kernel
theorem dX1_men_26 : decode cX1_men 26 = .ok (.aload_n 0, 1) := by decide +kernel
theorem dX1_men_27 : decode cX1_men 27 = .ok (.getfield 26, 3) := by decide +kernel
theorem dX1_men_30 : decode cX1_men 30 = .ok (.ifCond .le 5, 3) := by decide +kernel
theorem dX1_men_33 : decode cX1_men 33 = .ok (.lconst 0, 1) := by decide +kernel
theorem dX1_men_34 : decode cX1_men 34 = .ok (.lreturn, 1) := by decide +kernel
theorem dX1_men_35 : decode cX1_men 35 = .ok (.lconst 0, 1) := by decide +kernel
theorem dX1_men_36 : decode cX1_men 36 = .ok (.lstore_n 3, 1) := by decide +kernel
theorem dX1_men_37 : decode cX1_men 37 = .ok (.iconst 0, 1) := by decide +kernel
theorem dX1_men_38 : decode cX1_men 38 = .ok (.istore 5, 2) := by decide +kernel
theorem dX1_men_40 : decode cX1_men 40 = .ok (.iload 5, 2) := by decide +kernel
theorem dX1_men_42 : decode cX1_men 42 = .ok (.bipush 16, 2) := by decide +kernel
theorem dX1_men_44 : decode cX1_men 44 = .ok (.if_icmp .ge 32, 3) := by decide +kernel
theorem dX1_men_47 : decode cX1_men 47 = .ok (.lload_n 3, 1) := by decide +kernel
theorem dX1_men_48 : decode cX1_men 48 = .ok (.iconst 4, 1) := by decide +kernel
theorem dX1_men_49 : decode cX1_men 49 = .ok (.lshl, 1) := by decide +kernel
theorem dX1_men_50 : decode cX1_men 50 = .ok (.aload_n 0, 1) := by decide +kernel
theorem dX1_men_51 : decode cX1_men 51 = .ok (.getfield 14, 3) := by decide +kernel
theorem dX1_men_54 : decode cX1_men 54 = .ok (.bipush 64, 2) := by decide +kernel
theorem dX1_men_56 : decode cX1_men 56 = .ok (.iload_n 1, 1) := by decide +kernel
theorem dX1_men_57 : decode cX1_men 57 = .ok (.imul, 1) := by decide +kernel
theorem dX1_men_58 : decode cX1_men 58 = .ok (.bipush 16, 2) := by decide +kernel
theorem dX1_men_60 : decode cX1_men 60 = .ok (.iload_n 2, 1) := by decide +kernel
theorem dX1_men_61 : decode cX1_men 61 = .ok (.imul, 1) := by decide +kernel
theorem dX1_men_62 : decode cX1_men 62 = .ok (.iadd, 1) := by decide +kernel
theorem dX1_men_63 : decode cX1_men 63 = .ok (.iload 5, 2) := by decide +kernel
theorem dX1_men_65 : decode cX1_men 65 = .ok (.iadd, 1) := by decide +kernel
theorem dX1_men_66 : decode cX1_men 66 = .ok (.iaload, 1) := by decide +kernel
theorem dX1_men_67 : decode cX1_men 67 = .ok (.i2l, 1) := by decide +kernel
theorem dX1_men_68 : decode cX1_men 68 = .ok (.lor, 1) := by decide +kernel
theorem dX1_men_69 : decode cX1_men 69 = .ok (.lstore_n 3, 1) := by decide +kernel
theorem dX1_men_70 : decode cX1_men 70 = .ok (.iinc 5 1, 3) := by decide +kernel
theorem dX1_men_73 : decode cX1_men 73 = .ok (.goto (-33), 3) := by decide +kernel
theorem dX1_men_76 : decode cX1_men 76 = .ok (.lload_n 3, 1) := by decide +kernel
theorem dX1_men_77 : decode cX1_men 77 = .ok (.lreturn, 1) := by decide +kernel
set_option maxRecDepth 20000 in
theorem ggX1_times_X1_isState : GoodIn wsX1_times wsX1_isState := goodIn_r _ [6] (by decide +kernel) (by decide +kernel)
set_option maxRecDepth 20000 in
theorem gX1_times_X1_isState : GoodIn wsX1_times (va_wsS RX1 60 yX1_isState wsX1_isState) := goodIn_app (goodIn_of _ (by decide +kernel)) ggX1_times_X1_isState
set_option maxRecDepth 20000 in
theorem ggX1_times_X1_isNext : GoodIn wsX1_times wsX1_isNext := goodIn_r _ [10, 11, 12, 13, 14, 15, 16, 17, 18, 19, 20] (by decide +kernel) (by decide +kernel)
set_option maxRecDepth 20000 in
theorem gX1_times_X1_isNext : GoodIn wsX1_times (wsV RX1 70 RX1 yX1_isNext wsX1_isNext) := goodIn_app (goodIn_of _ (by decide +kernel)) ggX1_times_X1_isNext
theorem dX1_times_0 : decode cX1_times 0 = .ok (.aload_n 0, 1) := by decide +kernel
theorem dX1_times_1 : decode cX1_times 1 = .ok (.iload_n 1, 1) := by decide +kernel
theorem dX1_times_2 : decode cX1_times 2 = .ok (.invokestatic 60, 3) := by decide +kernel
theorem dX1_times_5 : decode cX1_times 5 = .ok (.ifCond .eq 7, 3) := by decide +kernel
theorem dX1_times_8 : decode cX1_times 8 = .ok (.iconst 0, 1) := by decide +kernel
theorem dX1_times_9 : decode cX1_times 9 = .ok (.goto 4, 3) := by decide +kernel
theorem dX1_times_12 : decode cX1_times 12 = .ok (.iconst 1, 1) := by decide +kernel
theorem dX1_times_13 : decode cX1_times 13 = .ok (.putfield 26, 3) := by decide +kernel
theorem dX1_times_16 : decode cX1_times 16 = .ok (.iconst 0, 1) := by decide +kernel
theorem dX1_times_17 : decode cX1_times 17 = .ok (.istore_n 2, 1) := by decide +kernel
theorem dX1_times_18 : decode cX1_times 18 = .ok (.iconst 0, 1) := by decide +kernel
theorem dX1_times_19 : decode cX1_times 19 = .ok (.istore_n 3, 1) := by decide +kernel
theorem dX1_times_20 : decode cX1_times 20 = .ok (.iload_n 3, 1) := by decide +kernel
theorem dX1_times_21 : decode cX1_times 21 = .ok (.aload_n 0, 1) := by decide +kernel
theorem dX1_times_22 : decode cX1_times 22 = .ok (.getfield 53, 3) := by decide +kernel
theorem dX1_times_25 : decode cX1_times 25 = .ok (.if_icmp .ge 33, 3) := by decide +kernel
theorem dX1_times_28 : decode cX1_times 28 = .ok (.aload_n 0, 1) := by decide +kernel
theorem dX1_times_29 : decode cX1_times 29 = .ok (.getfield 26, 3) := by decide +kernel
theorem dX1_times_32 : decode cX1_times 32 = .ok (.ifCond .ne 26, 3) := by decide +kernel
theorem dX1_times_35 : decode cX1_times 35 = .ok (.iload_n 2, 1) := by decide +kernel
theorem dX1_times_36 : decode cX1_times 36 = .ok (.aload_n 0, 1) := by decide +kernel
theorem dX1_times_37 : decode cX1_times 37 = .ok (.iload_n 3, 1) := by decide +kernel
theorem dX1_times_38 : decode cX1_times 38 = .ok (.iload_n 1, 1) := by decide +kernel
theorem dX1_times_39 : decode cX1_times 39 = .ok (.invokevirtual 70, 3) := by decide +kernel
theorem dX1_times_42 : decode cX1_times 42 = .ok (.ifCond .eq 7, 3) := by decide +kernel
theorem dX1_times_45 : decode cX1_times 45 = .ok (.iconst 1, 1) := by decide +kernel
theorem dX1_times_46 : decode cX1_times 46 = .ok (.goto 4, 3) := by decide +kernel
theorem dX1_times_49 : decode cX1_times 49 = .ok (.iconst 0, 1) := by decide +kernel
theorem dX1_times_50 : decode cX1_times 50 = .ok (.iadd, 1) := by decide +kernel
theorem dX1_times_51 : decode cX1_times 51 = .ok (.istore_n 2, 1) := by decide +kernel
theorem dX1_times_52 : decode cX1_times 52 = .ok (.iinc 3 1, 3) := by decide +kernel
theorem dX1_times_55 : decode cX1_times 55 = .ok (.goto (-35), 3) := by decide +kernel
theorem dX1_times_58 : decode cX1_times 58 = .ok (.iload_n 2, 1) := by decide +kernel
theorem dX1_times_59 : decode cX1_times 59 = .ok (.ireturn, 1) := by decide +kernel
set_option maxRecDepth 20000 in
theorem ggX1_look_X1_countOf : GoodIn wsX1_look wsX1_countOf := goodIn_r _ [8, 9, 10, 11, 7, 12, 13, 14, 15, 16, 17, 18, 19, 20, 21] (by decide +kernel) (by decide +kernel)
set_option maxRecDepth 20000 in
theorem gX1_look_X1_countOf : GoodIn wsX1_look (wsV RX1 45 RX1 yX1_countOf wsX1_countOf) := goodIn_app (goodIn_of _ (by decide +kernel)) ggX1_look_X1_countOf
theorem dX1_look_0 : decode cX1_look 0 = .ok (.aload_n 0, 1) := by decide +kernel
theorem dX1_look_1 : decode cX1_look 1 = .ok (.iconst 0, 1) := by decide +kernel
theorem dX1_look_2 : decode cX1_look 2 = .ok (.putfield 26, 3) := by decide +kernel
theorem dX1_look_5 : decode cX1_look 5 = .ok (.iconst 0, 1) := by decide +kernel
theorem dX1_look_6 : decode cX1_look 6 = .ok (.istore_n 2, 1) := by decide +kernel
theorem dX1_look_7 : decode cX1_look 7 = .ok (.iconst 0, 1) := by decide +kernel
theorem dX1_look_8 : decode cX1_look 8 = .ok (.istore_n 3, 1) := by decide +kernel
theorem dX1_look_9 : decode cX1_look 9 = .ok (.iconst 0, 1) := by decide +kernel
theorem dX1_look_10 : decode cX1_look 10 = .ok (.istore 4, 2) := by decide +kernel
theorem dX1_look_12 : decode cX1_look 12 = .ok (.iconst 0, 1) := by decide +kernel
theorem dX1_look_13 : decode cX1_look 13 = .ok (.istore 5, 2) := by decide +kernel
theorem dX1_look_15 : decode cX1_look 15 = .ok (.iload 5, 2) := by decide +kernel
theorem dX1_look_17 : decode cX1_look 17 = .ok (.aload_n 0, 1) := by decide +kernel
theorem dX1_look_18 : decode cX1_look 18 = .ok (.getfield 53, 3) := by decide +kernel
theorem dX1_look_21 : decode cX1_look 21 = .ok (.if_icmp .ge 79, 3) := by decide +kernel
theorem dX1_look_24 : decode cX1_look 24 = .ok (.iload_n 1, 1) := by decide +kernel
theorem dX1_look_25 : decode cX1_look 25 = .ok (.ifCond .le 75, 3) := by decide +kernel
theorem dX1_look_28 : decode cX1_look 28 = .ok (.iload_n 1, 1) := by decide +kernel
theorem dX1_look_29 : decode cX1_look 29 = .ok (.iconst 4, 1) := by decide +kernel
theorem dX1_look_30 : decode cX1_look 30 = .ok (.if_icmp .ge 70, 3) := by decide +kernel
theorem dX1_look_33 : decode cX1_look 33 = .ok (.aload_n 0, 1) := by decide +kernel
theorem dX1_look_34 : decode cX1_look 34 = .ok (.iload 5, 2) := by decide +kernel
theorem dX1_look_36 : decode cX1_look 36 = .ok (.invokevirtual 45, 3) := by decide +kernel
theorem dX1_look_39 : decode cX1_look 39 = .ok (.istore 6, 2) := by decide +kernel
theorem dX1_look_41 : decode cX1_look 41 = .ok (.iload_n 2, 1) := by decide +kernel
theorem dX1_look_42 : decode cX1_look 42 = .ok (.iload 6, 2) := by decide +kernel
theorem dX1_look_44 : decode cX1_look 44 = .ok (.iconst 1, 1) := by decide +kernel
theorem dX1_look_45 : decode cX1_look 45 = .ok (.if_icmp .ne 7, 3) := by decide +kernel
theorem dX1_look_48 : decode cX1_look 48 = .ok (.iconst 1, 1) := by decide +kernel
theorem dX1_look_49 : decode cX1_look 49 = .ok (.goto 4, 3) := by decide +kernel
theorem dX1_look_52 : decode cX1_look 52 = .ok (.iconst 0, 1) := by decide +kernel
theorem dX1_look_53 : decode cX1_look 53 = .ok (.iadd, 1) := by decide +kernel
theorem dX1_look_54 : decode cX1_look 54 = .ok (.istore_n 2, 1) := by decide +kernel
theorem dX1_look_55 : decode cX1_look 55 = .ok (.iload 6, 2) := by decide +kernel
theorem dX1_look_57 : decode cX1_look 57 = .ok (.iload_n 3, 1) := by decide +kernel
theorem dX1_look_58 : decode cX1_look 58 = .ok (.if_icmp .le 8, 3) := by decide +kernel
theorem dX1_look_61 : decode cX1_look 61 = .ok (.iload 6, 2) := by decide +kernel
theorem dX1_look_63 : decode cX1_look 63 = .ok (.goto 4, 3) := by decide +kernel
theorem dX1_look_66 : decode cX1_look 66 = .ok (.iload_n 3, 1) := by decide +kernel
theorem dX1_look_67 : decode cX1_look 67 = .ok (.istore_n 3, 1) := by decide +kernel
theorem dX1_look_68 : decode cX1_look 68 = .ok (.aload_n 0, 1) := by decide +kernel
theorem dX1_look_69 : decode cX1_look 69 = .ok (.getfield 20, 3) := by decide +kernel
theorem dX1_look_72 : decode cX1_look 72 = .ok (.iload 5, 2) := by decide +kernel
theorem dX1_look_74 : decode cX1_look 74 = .ok (.iaload, 1) := by decide +kernel
theorem dX1_look_75 : decode cX1_look 75 = .ok (.iload 4, 2) := by decide +kernel
theorem dX1_look_77 : decode cX1_look 77 = .ok (.if_icmp .le 13, 3) := by decide +kernel
theorem dX1_look_80 : decode cX1_look 80 = .ok (.aload_n 0, 1) := by decide +kernel
theorem dX1_look_81 : decode cX1_look 81 = .ok (.getfield 20, 3) := by decide +kernel
theorem dX1_look_84 : decode cX1_look 84 = .ok (.iload 5, 2) := by decide +kernel
theorem dX1_look_86 : decode cX1_look 86 = .ok (.iaload, 1) := by decide +kernel
theorem dX1_look_87 : decode cX1_look 87 = .ok (.goto 5, 3) := by decide +kernel
theorem dX1_look_90 : decode cX1_look 90 = .ok (.iload 4, 2) := by decide +kernel
theorem dX1_look_92 : decode cX1_look 92 = .ok (.istore 4, 2) := by decide +kernel
theorem dX1_look_94 : decode cX1_look 94 = .ok (.iinc 5 1, 3) := by decide +kernel
theorem dX1_look_97 : decode cX1_look 97 = .ok (.goto (-82), 3) := by decide +kernel
theorem dX1_look_100 : decode cX1_look 100 = .ok (.iload_n 1, 1) := by decide +kernel
theorem dX1_look_101 : decode cX1_look 101 = .ok (.ifCond .ne 10, 3) := by decide +kernel
theorem dX1_look_104 : decode cX1_look 104 = .ok (.aload_n 0, 1) := by decide +kernel
theorem dX1_look_105 : decode cX1_look 105 = .ok (.getfield 53, 3) := by decide +kernel
theorem dX1_look_108 : decode cX1_look 108 = .ok (.goto 32, 3) := by decide +kernel
theorem dX1_look_111 : decode cX1_look 111 = .ok (.iload_n 1, 1) := by decide +kernel
theorem dX1_look_112 : decode cX1_look 112 = .ok (.iconst 1, 1) := by decide +kernel
theorem dX1_look_113 : decode cX1_look 113 = .ok (.if_icmp .ne 7, 3) := by decide +kernel
theorem dX1_look_116 : decode cX1_look 116 = .ok (.iload_n 2, 1) := by decide +kernel
theorem dX1_look_117 : decode cX1_look 117 = .ok (.goto 23, 3) := by decide +kernel
theorem dX1_look_120 : decode cX1_look 120 = .ok (.iload_n 1, 1) := by decide +kernel
theorem dX1_look_121 : decode cX1_look 121 = .ok (.iconst 2, 1) := by decide +kernel
theorem dX1_look_122 : decode cX1_look 122 = .ok (.if_icmp .ne 7, 3) := by decide +kernel
theorem dX1_look_125 : decode cX1_look 125 = .ok (.iload_n 3, 1) := by decide +kernel
theorem dX1_look_126 : decode cX1_look 126 = .ok (.goto 14, 3) := by decide +kernel
theorem dX1_look_129 : decode cX1_look 129 = .ok (.iload_n 1, 1) := by decide +kernel
theorem dX1_look_130 : decode cX1_look 130 = .ok (.iconst 3, 1) := by decide +kernel
theorem dX1_look_131 : decode cX1_look 131 = .ok (.if_icmp .ne 8, 3) := by decide +kernel
theorem dX1_look_134 : decode cX1_look 134 = .ok (.iload 4, 2) := by decide +kernel
theorem dX1_look_136 : decode cX1_look 136 = .ok (.goto 4, 3) := by decide +kernel
theorem dX1_look_139 : decode cX1_look 139 = .ok (.iconst (-1), 1) := by decide +kernel
theorem dX1_look_140 : decode cX1_look 140 = .ok (.ireturn, 1) := by decide +kernel
theorem dJ9_max_7cf53_0 : decode cJ9_max_7cf53 0 = .ok (.iload_n 0, 1) := by decide +kernel
theorem dJ9_max_7cf53_1 : decode cJ9_max_7cf53 1 = .ok (.iload_n 1, 1) := by decide +kernel
theorem dJ9_max_7cf53_2 : decode cJ9_max_7cf53 2 = .ok (.if_icmp .lt 7, 3) := by decide +kernel
theorem dJ9_max_7cf53_5 : decode cJ9_max_7cf53 5 = .ok (.iload_n 0, 1) := by decide +kernel
theorem dJ9_max_7cf53_6 : decode cJ9_max_7cf53 6 = .ok (.goto 4, 3) := by decide +kernel
theorem dJ9_max_7cf53_9 : decode cJ9_max_7cf53 9 = .ok (.iload_n 1, 1) := by decide +kernel
theorem dJ9_max_7cf53_10 : decode cJ9_max_7cf53 10 = .ok (.ireturn, 1) := by decide +kernel
set_option maxRecDepth 20000 in
theorem ggL_begin_X0_begin : GoodIn wsL_begin wsX0_begin := goodIn_ca (goodIn_r _ [6, 7, 8, 9, 10, 11, 5, 12, 13, 14, 15, 16, 17, 18, 19, 20, 21, 22, 23, 24, 25, 26, 27, 28, 29, 30, 31, 32, 33, 34, 35, 36, 37, 38, 39, 40, 41, 42, 43, 44, 45, 46, 47, 48, 49, 50, 51, 52, 53, 54, 55, 56, 57, 58, 59, 60, 61, 62, 63, 64, 65, 66, 67, 68, 69, 70, 71, 72, 73, 74, 75, 76, 77, 78] (by decide +kernel) (by decide +kernel)) (goodIn_sub (fun _ h => List.mem_cons_of_mem _ (List.mem_append_right _ h)) (by decide +kernel))
set_option maxRecDepth 20000 in
theorem gL_begin_X0_begin : GoodIn wsL_begin (wsV RL 7 RX0 yX0_begin wsX0_begin) := goodIn_app (goodIn_of _ (by decide +kernel)) ggL_begin_X0_begin
theorem dL_begin_0 : decode cL_begin 0 = .ok (.aload 5, 2) := by decide +kernel
theorem dL_begin_2 : decode cL_begin 2 = .ok (.iconst 0, 1) := by decide +kernel
theorem dL_begin_3 : decode cL_begin 3 = .ok (.aload_n 0, 1) := by decide +kernel
theorem dL_begin_4 : decode cL_begin 4 = .ok (.iload_n 1, 1) := by decide +kernel
theorem dL_begin_5 : decode cL_begin 5 = .ok (.iload_n 2, 1) := by decide +kernel
theorem dL_begin_6 : decode cL_begin 6 = .ok (.iload_n 3, 1) := by decide +kernel
theorem dL_begin_7 : decode cL_begin 7 = .ok (.iload 4, 2) := by decide +kernel
theorem dL_begin_9 : decode cL_begin 9 = .ok (.invokevirtual 7, 3) := by decide +kernel
theorem dL_begin_12 : decode cL_begin 12 = .ok (.i2l, 1) := by decide +kernel
theorem dL_begin_13 : decode cL_begin 13 = .ok (.lastore, 1) := by decide +kernel
theorem dL_begin_14 : decode cL_begin 14 = .ok (.goto 7, 3) := by decide +kernel
theorem dL_begin_17 : decode cL_begin 17 = .ok (.astore 6, 2) := by decide +kernel
theorem dL_begin_19 : decode cL_begin 19 = .ok (.iconst 1, 1) := by decide +kernel
theorem dL_begin_20 : decode cL_begin 20 = .ok (.ireturn, 1) := by decide +kernel
theorem dL_begin_21 : decode cL_begin 21 = .ok (.iconst 0, 1) := by decide +kernel
theorem dL_begin_22 : decode cL_begin 22 = .ok (.ireturn, 1) := by decide +kernel
set_option maxRecDepth 20000 in
theorem ggL_next_X0_next : GoodIn wsL_next wsX0_next := goodIn_ca (goodIn_ca (goodIn_r _ [7, 8, 9, 10, 11, 12, 13, 14, 15, 6, 16, 17, 18, 19, 20, 21, 22, 23, 24, 25, 26, 27, 28, 29, 30, 31, 32, 33, 34, 35, 36, 37, 38, 39, 40, 41, 42, 43, 44, 45, 46, 47, 48, 49, 50, 51, 52, 53, 54, 55, 56, 57, 58, 59, 60, 61, 62, 63, 64, 65, 66, 67, 68, 69, 70, 71, 72, 73, 74, 75, 76, 77, 78, 79, 80, 81, 82] (by decide +kernel) (by decide +kernel)) (goodIn_sub (fun _ h => List.mem_cons_of_mem _ (List.mem_append_left _ (List.mem_append_right _ h))) (by decide +kernel))) (goodIn_sub (fun _ h => List.mem_cons_of_mem _ (List.mem_append_right _ h)) (by decide +kernel))
set_option maxRecDepth 20000 in
theorem gL_next_X0_next : GoodIn wsL_next (wsV RL 15 RX0 yX0_next wsX0_next) := goodIn_app (goodIn_of _ (by decide +kernel)) ggL_next_X0_next
theorem dL_next_0 : decode cL_next 0 = .ok (.aload 5, 2) := by decide +kernel
theorem dL_next_2 : decode cL_next 2 = .ok (.iconst 0, 1) := by decide +kernel
theorem dL_next_3 : decode cL_next 3 = .ok (.aload_n 0, 1) := by decide +kernel
theorem dL_next_4 : decode cL_next 4 = .ok (.iload_n 1, 1) := by decide +kernel
theorem dL_next_5 : decode cL_next 5 = .ok (.iload_n 2, 1) := by decide +kernel
theorem dL_next_6 : decode cL_next 6 = .ok (.iload_n 3, 1) := by decide +kernel
theorem dL_next_7 : decode cL_next 7 = .ok (.iload 4, 2) := by decide +kernel
theorem dL_next_9 : decode cL_next 9 = .ok (.invokevirtual 15, 3) := by decide +kernel
theorem dL_next_12 : decode cL_next 12 = .ok (.i2l, 1) := by decide +kernel
theorem dL_next_13 : decode cL_next 13 = .ok (.lastore, 1) := by decide +kernel
theorem dL_next_14 : decode cL_next 14 = .ok (.goto 11, 3) := by decide +kernel
theorem dL_next_17 : decode cL_next 17 = .ok (.astore 6, 2) := by decide +kernel
theorem dL_next_19 : decode cL_next 19 = .ok (.iconst 1, 1) := by decide +kernel
theorem dL_next_20 : decode cL_next 20 = .ok (.ireturn, 1) := by decide +kernel
theorem dL_next_21 : decode cL_next 21 = .ok (.astore 6, 2) := by decide +kernel
theorem dL_next_23 : decode cL_next 23 = .ok (.iconst 2, 1) := by decide +kernel
theorem dL_next_24 : decode cL_next 24 = .ok (.ireturn, 1) := by decide +kernel
theorem dL_next_25 : decode cL_next 25 = .ok (.iconst 0, 1) := by decide +kernel
theorem dL_next_26 : decode cL_next 26 = .ok (.ireturn, 1) := by decide +kernel
set_option maxRecDepth 20000 in
theorem ggL_of_X0_of : GoodIn wsL_of wsX0_of := goodIn_ca (goodIn_r _ [6, 7, 8, 9, 10, 11, 5, 12, 13, 14, 15, 16, 17, 18, 19, 20, 21, 22] (by decide +kernel) (by decide +kernel)) (goodIn_sub (fun _ h => List.mem_cons_of_mem _ (List.mem_append_right _ h)) (by decide +kernel))
set_option maxRecDepth 20000 in
theorem gL_of_X0_of : GoodIn wsL_of (wsV RL 21 RX0 yX0_of wsX0_of) := goodIn_app (goodIn_of _ (by decide +kernel)) ggL_of_X0_of
theorem dL_of_0 : decode cL_of 0 = .ok (.aload_n 3, 1) := by decide +kernel
theorem dL_of_1 : decode cL_of 1 = .ok (.iconst 0, 1) := by decide +kernel
theorem dL_of_2 : decode cL_of 2 = .ok (.aload_n 0, 1) := by decide +kernel
theorem dL_of_3 : decode cL_of 3 = .ok (.iload_n 1, 1) := by decide +kernel
theorem dL_of_4 : decode cL_of 4 = .ok (.iload_n 2, 1) := by decide +kernel
theorem dL_of_5 : decode cL_of 5 = .ok (.invokevirtual 21, 3) := by decide +kernel
theorem dL_of_8 : decode cL_of 8 = .ok (.i2l, 1) := by decide +kernel
theorem dL_of_9 : decode cL_of 9 = .ok (.lastore, 1) := by decide +kernel
theorem dL_of_10 : decode cL_of 10 = .ok (.goto 7, 3) := by decide +kernel
theorem dL_of_13 : decode cL_of 13 = .ok (.astore 4, 2) := by decide +kernel
theorem dL_of_15 : decode cL_of 15 = .ok (.iconst 1, 1) := by decide +kernel
theorem dL_of_16 : decode cL_of 16 = .ok (.ireturn, 1) := by decide +kernel
theorem dL_of_17 : decode cL_of 17 = .ok (.iconst 0, 1) := by decide +kernel
theorem dL_of_18 : decode cL_of 18 = .ok (.ireturn, 1) := by decide +kernel
set_option maxRecDepth 20000 in
theorem ggL_men_X0_men : GoodIn wsL_men wsX0_men := goodIn_ca (goodIn_r _ [6, 7, 8, 9, 10, 11, 12, 5, 13, 14, 15, 16, 17, 18, 19, 20, 21] (by decide +kernel) (by decide +kernel)) (goodIn_sub (fun _ h => List.mem_cons_of_mem _ (List.mem_append_right _ h)) (by decide +kernel))
set_option maxRecDepth 20000 in
theorem gL_men_X0_men : GoodIn wsL_men (wsV RL 27 RX0 yX0_men wsX0_men) := goodIn_app (goodIn_of _ (by decide +kernel)) ggL_men_X0_men
theorem dL_men_0 : decode cL_men 0 = .ok (.aload_n 3, 1) := by decide +kernel
theorem dL_men_1 : decode cL_men 1 = .ok (.iconst 0, 1) := by decide +kernel
theorem dL_men_2 : decode cL_men 2 = .ok (.aload_n 0, 1) := by decide +kernel
theorem dL_men_3 : decode cL_men 3 = .ok (.iload_n 1, 1) := by decide +kernel
theorem dL_men_4 : decode cL_men 4 = .ok (.iload_n 2, 1) := by decide +kernel
theorem dL_men_5 : decode cL_men 5 = .ok (.invokevirtual 27, 3) := by decide +kernel
theorem dL_men_8 : decode cL_men 8 = .ok (.lastore, 1) := by decide +kernel
theorem dL_men_9 : decode cL_men 9 = .ok (.goto 7, 3) := by decide +kernel
theorem dL_men_12 : decode cL_men 12 = .ok (.astore 4, 2) := by decide +kernel
theorem dL_men_14 : decode cL_men 14 = .ok (.iconst 1, 1) := by decide +kernel
theorem dL_men_15 : decode cL_men 15 = .ok (.ireturn, 1) := by decide +kernel
theorem dL_men_16 : decode cL_men 16 = .ok (.iconst 0, 1) := by decide +kernel
theorem dL_men_17 : decode cL_men 17 = .ok (.ireturn, 1) := by decide +kernel
set_option maxRecDepth 20000 in
theorem ggL_times_X0_times : GoodIn wsL_times wsX0_times := goodIn_ca (goodIn_r _ [6, 7, 8, 9, 10, 5, 11, 12, 13, 14, 15, 16, 17, 18, 19, 20, 21, 22, 23, 24, 25, 26, 27, 28, 29, 30, 31, 32, 33, 34, 35, 36, 37, 38, 39] (by decide +kernel) (by decide +kernel)) (goodIn_sub (fun _ h => List.mem_cons_of_mem _ (List.mem_append_right _ h)) (by decide +kernel))
set_option maxRecDepth 20000 in
theorem gL_times_X0_times : GoodIn wsL_times (wsV RL 31 RX0 yX0_times wsX0_times) := goodIn_app (goodIn_of _ (by decide +kernel)) ggL_times_X0_times
theorem dL_times_0 : decode cL_times 0 = .ok (.aload_n 2, 1) := by decide +kernel
theorem dL_times_1 : decode cL_times 1 = .ok (.iconst 0, 1) := by decide +kernel
theorem dL_times_2 : decode cL_times 2 = .ok (.aload_n 0, 1) := by decide +kernel
theorem dL_times_3 : decode cL_times 3 = .ok (.iload_n 1, 1) := by decide +kernel
theorem dL_times_4 : decode cL_times 4 = .ok (.invokevirtual 31, 3) := by decide +kernel
theorem dL_times_7 : decode cL_times 7 = .ok (.i2l, 1) := by decide +kernel
theorem dL_times_8 : decode cL_times 8 = .ok (.lastore, 1) := by decide +kernel
theorem dL_times_9 : decode cL_times 9 = .ok (.goto 6, 3) := by decide +kernel
theorem dL_times_12 : decode cL_times 12 = .ok (.astore_n 3, 1) := by decide +kernel
theorem dL_times_13 : decode cL_times 13 = .ok (.iconst 1, 1) := by decide +kernel
theorem dL_times_14 : decode cL_times 14 = .ok (.ireturn, 1) := by decide +kernel
theorem dL_times_15 : decode cL_times 15 = .ok (.iconst 0, 1) := by decide +kernel
theorem dL_times_16 : decode cL_times 16 = .ok (.ireturn, 1) := by decide +kernel
set_option maxRecDepth 20000 in
theorem ggL_law_X0_init : GoodIn wsL_law wsX0_init := goodIn_r _ [10, 11, 12, 13, 6, 14, 15, 16, 17, 18, 257, 258, 259, 260] (by decide +kernel) (by decide +kernel)
set_option maxRecDepth 20000 in
theorem gL_law_X0_init : GoodIn wsL_law (wsX0_init) := ggL_law_X0_init
set_option maxRecDepth 20000 in
theorem ggL_law_X1_init : GoodIn wsL_law wsX1_init := goodIn_r _ [21, 22, 12, 13, 16, 23, 24, 25, 26, 27, 28, 261, 262, 263, 264, 265, 266, 267] (by decide +kernel) (by decide +kernel)
set_option maxRecDepth 20000 in
theorem gL_law_X1_init : GoodIn wsL_law (wsX1_init) := ggL_law_X1_init
set_option maxRecDepth 20000 in
theorem ggL_law_X0_squares : GoodIn wsL_law wsX0_squares := goodIn_r _ [32, 14, 33, 34, 2, 35, 36, 37, 38, 39, 40, 41, 257, 258, 259, 260] (by decide +kernel) (by decide +kernel)
set_option maxRecDepth 20000 in
theorem gL_law_X0_squares : GoodIn wsL_law (wsV RL 41 RX0 yX0_squares wsX0_squares) := goodIn_app (goodIn_of _ (by decide +kernel)) ggL_law_X0_squares
set_option maxRecDepth 20000 in
theorem ggL_law_X1_squares : GoodIn wsL_law wsX1_squares := goodIn_r _ [45, 46, 47, 48, 23, 261, 262, 263, 264, 265, 266, 267] (by decide +kernel) (by decide +kernel)
set_option maxRecDepth 20000 in
theorem gL_law_X1_squares : GoodIn wsL_law (wsV RL 45 RX1 yX1_squares wsX1_squares) := goodIn_app (goodIn_of _ (by decide +kernel)) ggL_law_X1_squares
set_option maxRecDepth 20000 in
theorem ggL_law_L_begin : GoodIn wsL_law wsL_begin := goodIn_ca (goodIn_r _ [52, 53, 54, 55, 56, 2, 57, 58, 59, 18, 60, 61, 62, 63, 64, 65, 66, 67, 68, 69, 70, 71, 72, 17, 14, 15, 73, 74, 75, 76, 77, 78, 79, 80, 81, 82, 83, 84, 85, 86, 87, 88, 89, 90, 91, 92, 93, 94, 95, 96, 97, 98, 99, 100, 101, 102, 103, 104, 39, 40, 41, 105, 106, 107, 108, 109, 110, 111, 112, 113, 114, 115, 116, 117, 118, 257, 258, 259, 260] (by decide +kernel) (by decide +kernel)) (goodIn_sub (fun _ h => List.mem_append_left _ (List.mem_append_left _ (List.mem_append_right _ h))) (by decide +kernel))
set_option maxRecDepth 20000 in
theorem gL_law_L_begin : GoodIn wsL_law (va_wsS RL 46 yL_begin wsL_begin) := goodIn_app (goodIn_of _ (by decide +kernel)) ggL_law_L_begin
set_option maxRecDepth 20000 in
theorem ggL_law_X1_begin : GoodIn wsL_law wsX1_begin := goodIn_r _ [122, 46, 123, 124, 125, 5, 126, 127, 128, 129, 130, 25, 23, 26, 27, 28, 131, 132, 133, 134, 135, 136, 137, 138, 139, 140, 141, 142, 143, 144, 145, 146, 147, 148, 149, 150, 151, 152, 153, 154, 261, 262, 263, 264, 265, 266, 267] (by decide +kernel) (by decide +kernel)
set_option maxRecDepth 20000 in
theorem gL_law_X1_begin : GoodIn wsL_law (wsV RL 51 RX1 yX1_begin wsX1_begin) := goodIn_app (goodIn_of _ (by decide +kernel)) ggL_law_X1_begin
set_option maxRecDepth 20000 in
theorem ggL_law_X1_thrown : GoodIn wsL_law wsX1_thrown := goodIn_r _ [158, 46, 261, 262, 263, 264, 265, 266, 267] (by decide +kernel) (by decide +kernel)
set_option maxRecDepth 20000 in
theorem gL_law_X1_thrown : GoodIn wsL_law (wsV RL 52 RX1 yX1_thrown wsX1_thrown) := goodIn_app (goodIn_of _ (by decide +kernel)) ggL_law_X1_thrown
set_option maxRecDepth 20000 in
theorem ggL_law_L_next : GoodIn wsL_law wsL_next := goodIn_ca (goodIn_ca (goodIn_r _ [161, 162, 53, 163, 164, 165, 2, 166, 167, 168, 58, 59, 18, 169, 170, 171, 172, 81, 82, 83, 84, 17, 60, 61, 62, 63, 64, 65, 69, 70, 71, 72, 14, 15, 73, 74, 75, 76, 77, 78, 79, 80, 85, 86, 87, 88, 89, 90, 91, 92, 93, 94, 95, 96, 97, 98, 99, 100, 101, 102, 103, 104, 39, 40, 41, 105, 106, 107, 108, 109, 110, 111, 112, 113, 114, 115, 116, 117, 118, 257, 258, 259, 260] (by decide +kernel) (by decide +kernel)) (goodIn_sub (fun _ h => List.mem_append_left _ (List.mem_append_right _ h)) (by decide +kernel))) (goodIn_sub (fun _ h => List.mem_append_left _ (List.mem_append_left _ (List.mem_append_right _ h))) (by decide +kernel))
set_option maxRecDepth 20000 in
theorem gL_law_L_next : GoodIn wsL_law (va_wsS RL 56 yL_next wsL_next) := goodIn_app (goodIn_of _ (by decide +kernel)) ggL_law_L_next
set_option maxRecDepth 20000 in
theorem ggL_law_X1_next : GoodIn wsL_law wsX1_next := goodIn_r _ [176, 123, 28, 46, 27, 124, 125, 5, 126, 127, 128, 129, 130, 25, 23, 26, 131, 132, 133, 134, 135, 136, 137, 138, 139, 140, 141, 142, 143, 144, 145, 146, 147, 148, 149, 150, 151, 152, 153, 154, 261, 262, 263, 264, 265, 266, 267] (by decide +kernel) (by decide +kernel)
set_option maxRecDepth 20000 in
theorem gL_law_X1_next : GoodIn wsL_law (wsV RL 59 RX1 yX1_next wsX1_next) := goodIn_app (goodIn_of _ (by decide +kernel)) ggL_law_X1_next
set_option maxRecDepth 20000 in
theorem ggL_law_X0_back : GoodIn wsL_law wsX0_back := goodIn_r _ [180, 18, 257, 258, 259, 260] (by decide +kernel) (by decide +kernel)
set_option maxRecDepth 20000 in
theorem gL_law_X0_back : GoodIn wsL_law (wsV RL 60 RX0 yX0_back wsX0_back) := goodIn_app (goodIn_of _ (by decide +kernel)) ggL_law_X0_back
set_option maxRecDepth 20000 in
theorem ggL_law_X1_back : GoodIn wsL_law wsX1_back := goodIn_r _ [184, 46, 123, 261, 262, 263, 264, 265, 266, 267] (by decide +kernel) (by decide +kernel)
set_option maxRecDepth 20000 in
theorem gL_law_X1_back : GoodIn wsL_law (wsV RL 64 RX1 yX1_back wsX1_back) := goodIn_app (goodIn_of _ (by decide +kernel)) ggL_law_X1_back
set_option maxRecDepth 20000 in
theorem ggL_law_X0_verdict : GoodIn wsL_law wsX0_verdict := goodIn_r _ [188, 18, 81, 82, 83, 2, 84, 17, 257, 258, 259, 260] (by decide +kernel) (by decide +kernel)
set_option maxRecDepth 20000 in
theorem gL_law_X0_verdict : GoodIn wsL_law (wsV RL 65 RX0 yX0_verdict wsX0_verdict) := goodIn_app (goodIn_of _ (by decide +kernel)) ggL_law_X0_verdict
set_option maxRecDepth 20000 in
theorem ggL_law_X1_verdict : GoodIn wsL_law wsX1_verdict := goodIn_r _ [192, 46, 123, 28, 261, 262, 263, 264, 265, 266, 267] (by decide +kernel) (by decide +kernel)
set_option maxRecDepth 20000 in
theorem gL_law_X1_verdict : GoodIn wsL_law (wsV RL 68 RX1 yX1_verdict wsX1_verdict) := goodIn_app (goodIn_of _ (by decide +kernel)) ggL_law_X1_verdict
set_option maxRecDepth 20000 in
theorem ggL_law_L_of : GoodIn wsL_law wsL_of := goodIn_ca (goodIn_r _ [195, 196, 197, 198, 199, 2, 200, 201, 202, 93, 94, 95, 96, 18, 81, 82, 83, 84, 17, 257, 258, 259, 260] (by decide +kernel) (by decide +kernel)) (goodIn_sub (fun _ h => List.mem_append_right _ h) (by decide +kernel))
set_option maxRecDepth 20000 in
theorem gL_law_L_of : GoodIn wsL_law (va_wsS RL 69 yL_of wsL_of) := goodIn_app (goodIn_of _ (by decide +kernel)) ggL_law_L_of
set_option maxRecDepth 20000 in
theorem ggL_law_X1_of : GoodIn wsL_law wsX1_of := goodIn_r _ [206, 46, 27, 28, 26, 207, 208, 209, 5, 210, 123, 139, 140, 141, 142, 25, 135, 136, 137, 138, 143, 144, 145, 146, 147, 148, 149, 150, 151, 152, 153, 154, 261, 262, 263, 264, 265, 266, 267] (by decide +kernel) (by decide +kernel)
set_option maxRecDepth 20000 in
theorem gL_law_X1_of : GoodIn wsL_law (wsV RL 72 RX1 yX1_of wsX1_of) := goodIn_app (goodIn_of _ (by decide +kernel)) ggL_law_X1_of
set_option maxRecDepth 20000 in
theorem ggL_law_L_men : GoodIn wsL_law wsL_men := goodIn_ca (goodIn_r _ [213, 196, 214, 215, 216, 2, 217, 201, 202, 15, 93, 94, 95, 96, 18, 33, 34, 35, 257, 258, 259, 260] (by decide +kernel) (by decide +kernel)) (goodIn_sub (fun _ h => List.mem_append_right _ h) (by decide +kernel))
set_option maxRecDepth 20000 in
theorem gL_law_L_men : GoodIn wsL_law (va_wsS RL 73 yL_men wsL_men) := goodIn_app (goodIn_of _ (by decide +kernel)) ggL_law_L_men
set_option maxRecDepth 20000 in
theorem ggL_law_X1_men : GoodIn wsL_law wsX1_men := goodIn_r _ [221, 46, 25, 207, 208, 209, 5, 210, 123, 261, 262, 263, 264, 265, 266, 267] (by decide +kernel) (by decide +kernel)
set_option maxRecDepth 20000 in
theorem gL_law_X1_men : GoodIn wsL_law (wsV RL 75 RX1 yX1_men wsX1_men) := goodIn_app (goodIn_of _ (by decide +kernel)) ggL_law_X1_men
set_option maxRecDepth 20000 in
theorem ggL_law_L_times : GoodIn wsL_law wsL_times := goodIn_ca (goodIn_r _ [224, 53, 225, 226, 227, 2, 228, 58, 59, 60, 61, 62, 77, 78, 79, 80, 18, 81, 82, 83, 84, 17, 85, 86, 87, 88, 15, 14, 89, 90, 91, 92, 93, 94, 95, 96, 257, 258, 259, 260] (by decide +kernel) (by decide +kernel)) (goodIn_sub (fun _ h => List.mem_append_left _ (List.mem_append_left _ (List.mem_append_right _ h))) (by decide +kernel))
set_option maxRecDepth 20000 in
theorem gL_law_L_times : GoodIn wsL_law (va_wsS RL 76 yL_times wsL_times) := goodIn_app (goodIn_of _ (by decide +kernel)) ggL_law_L_times
set_option maxRecDepth 20000 in
theorem ggL_law_X1_times : GoodIn wsL_law wsX1_times := goodIn_r _ [232, 46, 123, 124, 125, 5, 126, 233, 234, 235, 236, 26, 25, 23, 261, 262, 263, 264, 265, 266, 267] (by decide +kernel) (by decide +kernel)
set_option maxRecDepth 20000 in
theorem gL_law_X1_times : GoodIn wsL_law (wsV RL 79 RX1 yX1_times wsX1_times) := goodIn_app (goodIn_of _ (by decide +kernel)) ggL_law_X1_times
set_option maxRecDepth 20000 in
theorem ggL_law_X0_look : GoodIn wsL_law wsX0_look := goodIn_r _ [240, 18, 241, 242, 243, 2, 244, 81, 82, 83, 84, 17, 245, 246, 247, 248, 249, 250, 251, 252, 257, 258, 259, 260] (by decide +kernel) (by decide +kernel)
set_option maxRecDepth 20000 in
theorem gL_law_X0_look : GoodIn wsL_law (wsV RL 80 RX0 yX0_look wsX0_look) := goodIn_app (goodIn_of _ (by decide +kernel)) ggL_law_X0_look
set_option maxRecDepth 20000 in
theorem ggL_law_X1_look : GoodIn wsL_law wsX1_look := goodIn_r _ [256, 46, 123, 27, 135, 136, 137, 5, 138, 139, 140, 141, 142, 26, 25, 261, 262, 263, 264, 265, 266, 267] (by decide +kernel) (by decide +kernel)
set_option maxRecDepth 20000 in
theorem gL_law_X1_look : GoodIn wsL_law (wsV RL 83 RX1 yX1_look wsX1_look) := goodIn_app (goodIn_of _ (by decide +kernel)) ggL_law_X1_look
theorem dL_law_0 : decode cL_law 0 = .ok (.new 8, 3) := by decide +kernel
theorem dL_law_3 : decode cL_law 3 = .ok (.dup, 1) := by decide +kernel
theorem dL_law_4 : decode cL_law 4 = .ok (.invokespecial 35, 3) := by decide +kernel
theorem dL_law_7 : decode cL_law 7 = .ok (.astore_n 1, 1) := by decide +kernel
theorem dL_law_8 : decode cL_law 8 = .ok (.new 36, 3) := by decide +kernel
theorem dL_law_11 : decode cL_law 11 = .ok (.dup, 1) := by decide +kernel
theorem dL_law_12 : decode cL_law 12 = .ok (.invokespecial 38, 3) := by decide +kernel
theorem dL_law_15 : decode cL_law 15 = .ok (.astore_n 2, 1) := by decide +kernel
theorem dL_law_16 : decode cL_law 16 = .ok (.iconst 1, 1) := by decide +kernel
theorem dL_law_17 : decode cL_law 17 = .ok (.newarray .long, 2) := by decide +kernel
theorem dL_law_19 : decode cL_law 19 = .ok (.astore_n 3, 1) := by decide +kernel
theorem dL_law_20 : decode cL_law 20 = .ok (.iconst 0, 1) := by decide +kernel
theorem dL_law_21 : decode cL_law 21 = .ok (.istore 4, 2) := by decide +kernel
theorem dL_law_23 : decode cL_law 23 = .ok (.iload 4, 2) := by decide +kernel
theorem dL_law_25 : decode cL_law 25 = .ok (.aload_n 0, 1) := by decide +kernel
theorem dL_law_26 : decode cL_law 26 = .ok (.arraylength, 1) := by decide +kernel
theorem dL_law_27 : decode cL_law 27 = .ok (.iconst 5, 1) := by decide +kernel
theorem dL_law_28 : decode cL_law 28 = .ok (.isub, 1) := by decide +kernel
theorem dL_law_29 : decode cL_law 29 = .ok (.if_icmp .gt 608, 3) := by decide +kernel
theorem dL_law_32 : decode cL_law 32 = .ok (.aload_n 0, 1) := by decide +kernel
theorem dL_law_33 : decode cL_law 33 = .ok (.iload 4, 2) := by decide +kernel
theorem dL_law_35 : decode cL_law 35 = .ok (.iaload, 1) := by decide +kernel
theorem dL_law_36 : decode cL_law 36 = .ok (.bipush 15, 2) := by decide +kernel
theorem dL_law_38 : decode cL_law 38 = .ok (.iand, 1) := by decide +kernel
theorem dL_law_39 : decode cL_law 39 = .ok (.tableswitch 592 0 8 #[49, 118, 226, 350, 363, 376, 444, 511, 567], 49) := by decide +kernel
theorem dL_law_88 : decode cL_law 88 = .ok (.aload_n 1, 1) := by decide +kernel
theorem dL_law_89 : decode cL_law 89 = .ok (.aload_n 0, 1) := by decide +kernel
theorem dL_law_90 : decode cL_law 90 = .ok (.iload 4, 2) := by decide +kernel
theorem dL_law_92 : decode cL_law 92 = .ok (.iconst 1, 1) := by decide +kernel
theorem dL_law_93 : decode cL_law 93 = .ok (.iadd, 1) := by decide +kernel
theorem dL_law_94 : decode cL_law 94 = .ok (.iaload, 1) := by decide +kernel
theorem dL_law_95 : decode cL_law 95 = .ok (.aload_n 0, 1) := by decide +kernel
theorem dL_law_96 : decode cL_law 96 = .ok (.iload 4, 2) := by decide +kernel
theorem dL_law_98 : decode cL_law 98 = .ok (.iconst 2, 1) := by decide +kernel
theorem dL_law_99 : decode cL_law 99 = .ok (.iadd, 1) := by decide +kernel
theorem dL_law_100 : decode cL_law 100 = .ok (.iaload, 1) := by decide +kernel
theorem dL_law_101 : decode cL_law 101 = .ok (.i2l, 1) := by decide +kernel
theorem dL_law_102 : decode cL_law 102 = .ok (.bipush 32, 2) := by decide +kernel
theorem dL_law_104 : decode cL_law 104 = .ok (.lshl, 1) := by decide +kernel
theorem dL_law_105 : decode cL_law 105 = .ok (.aload_n 0, 1) := by decide +kernel
theorem dL_law_106 : decode cL_law 106 = .ok (.iload 4, 2) := by decide +kernel
theorem dL_law_108 : decode cL_law 108 = .ok (.iconst 3, 1) := by decide +kernel
theorem dL_law_109 : decode cL_law 109 = .ok (.iadd, 1) := by decide +kernel
theorem dL_law_110 : decode cL_law 110 = .ok (.iaload, 1) := by decide +kernel
theorem dL_law_111 : decode cL_law 111 = .ok (.i2l, 1) := by decide +kernel
theorem dL_law_112 : decode cL_law 112 = .ok (.ldc2_w 39, 3) := by decide +kernel
theorem dL_law_115 : decode cL_law 115 = .ok (.land, 1) := by decide +kernel
theorem dL_law_116 : decode cL_law 116 = .ok (.lor, 1) := by decide +kernel
theorem dL_law_117 : decode cL_law 117 = .ok (.invokevirtual 41, 3) := by decide +kernel
theorem dL_law_120 : decode cL_law 120 = .ok (.aload_n 2, 1) := by decide +kernel
theorem dL_law_121 : decode cL_law 121 = .ok (.aload_n 0, 1) := by decide +kernel
theorem dL_law_122 : decode cL_law 122 = .ok (.iload 4, 2) := by decide +kernel
theorem dL_law_124 : decode cL_law 124 = .ok (.iconst 1, 1) := by decide +kernel
theorem dL_law_125 : decode cL_law 125 = .ok (.iadd, 1) := by decide +kernel
theorem dL_law_126 : decode cL_law 126 = .ok (.iaload, 1) := by decide +kernel
theorem dL_law_127 : decode cL_law 127 = .ok (.aload_n 0, 1) := by decide +kernel
theorem dL_law_128 : decode cL_law 128 = .ok (.iload 4, 2) := by decide +kernel
theorem dL_law_130 : decode cL_law 130 = .ok (.iconst 2, 1) := by decide +kernel
theorem dL_law_131 : decode cL_law 131 = .ok (.iadd, 1) := by decide +kernel
theorem dL_law_132 : decode cL_law 132 = .ok (.iaload, 1) := by decide +kernel
theorem dL_law_133 : decode cL_law 133 = .ok (.i2l, 1) := by decide +kernel
theorem dL_law_134 : decode cL_law 134 = .ok (.bipush 32, 2) := by decide +kernel
theorem dL_law_136 : decode cL_law 136 = .ok (.lshl, 1) := by decide +kernel
theorem dL_law_137 : decode cL_law 137 = .ok (.aload_n 0, 1) := by decide +kernel
theorem dL_law_138 : decode cL_law 138 = .ok (.iload 4, 2) := by decide +kernel
theorem dL_law_140 : decode cL_law 140 = .ok (.iconst 3, 1) := by decide +kernel
theorem dL_law_141 : decode cL_law 141 = .ok (.iadd, 1) := by decide +kernel
theorem dL_law_142 : decode cL_law 142 = .ok (.iaload, 1) := by decide +kernel
theorem dL_law_143 : decode cL_law 143 = .ok (.i2l, 1) := by decide +kernel
theorem dL_law_144 : decode cL_law 144 = .ok (.ldc2_w 39, 3) := by decide +kernel
theorem dL_law_147 : decode cL_law 147 = .ok (.land, 1) := by decide +kernel
theorem dL_law_148 : decode cL_law 148 = .ok (.lor, 1) := by decide +kernel
theorem dL_law_149 : decode cL_law 149 = .ok (.invokevirtual 45, 3) := by decide +kernel
theorem dL_law_152 : decode cL_law 152 = .ok (.if_icmp .eq 479, 3) := by decide +kernel
theorem dL_law_155 : decode cL_law 155 = .ok (.iconst 0, 1) := by decide +kernel
theorem dL_law_156 : decode cL_law 156 = .ok (.ireturn, 1) := by decide +kernel
theorem dL_law_157 : decode cL_law 157 = .ok (.aload_n 1, 1) := by decide +kernel
theorem dL_law_158 : decode cL_law 158 = .ok (.aload_n 0, 1) := by decide +kernel
theorem dL_law_159 : decode cL_law 159 = .ok (.iload 4, 2) := by decide +kernel
theorem dL_law_161 : decode cL_law 161 = .ok (.iconst 1, 1) := by decide +kernel
theorem dL_law_162 : decode cL_law 162 = .ok (.iadd, 1) := by decide +kernel
theorem dL_law_163 : decode cL_law 163 = .ok (.iaload, 1) := by decide +kernel
theorem dL_law_164 : decode cL_law 164 = .ok (.aload_n 0, 1) := by decide +kernel
theorem dL_law_165 : decode cL_law 165 = .ok (.iload 4, 2) := by decide +kernel
theorem dL_law_167 : decode cL_law 167 = .ok (.iconst 2, 1) := by decide +kernel
theorem dL_law_168 : decode cL_law 168 = .ok (.iadd, 1) := by decide +kernel
theorem dL_law_169 : decode cL_law 169 = .ok (.iaload, 1) := by decide +kernel
theorem dL_law_170 : decode cL_law 170 = .ok (.aload_n 0, 1) := by decide +kernel
theorem dL_law_171 : decode cL_law 171 = .ok (.iload 4, 2) := by decide +kernel
theorem dL_law_173 : decode cL_law 173 = .ok (.iconst 3, 1) := by decide +kernel
theorem dL_law_174 : decode cL_law 174 = .ok (.iadd, 1) := by decide +kernel
theorem dL_law_175 : decode cL_law 175 = .ok (.iaload, 1) := by decide +kernel
theorem dL_law_176 : decode cL_law 176 = .ok (.ifCond .eq 7, 3) := by decide +kernel
theorem dL_law_179 : decode cL_law 179 = .ok (.iconst 1, 1) := by decide +kernel
theorem dL_law_180 : decode cL_law 180 = .ok (.goto 4, 3) := by decide +kernel
theorem dL_law_183 : decode cL_law 183 = .ok (.iconst 0, 1) := by decide +kernel
theorem dL_law_184 : decode cL_law 184 = .ok (.aload_n 0, 1) := by decide +kernel
theorem dL_law_185 : decode cL_law 185 = .ok (.iload 4, 2) := by decide +kernel
theorem dL_law_187 : decode cL_law 187 = .ok (.iconst 4, 1) := by decide +kernel
theorem dL_law_188 : decode cL_law 188 = .ok (.iadd, 1) := by decide +kernel
theorem dL_law_189 : decode cL_law 189 = .ok (.iaload, 1) := by decide +kernel
theorem dL_law_190 : decode cL_law 190 = .ok (.aload_n 3, 1) := by decide +kernel
theorem dL_law_191 : decode cL_law 191 = .ok (.invokestatic 46, 3) := by decide +kernel
theorem dL_law_194 : decode cL_law 194 = .ok (.istore 5, 2) := by decide +kernel
theorem dL_law_196 : decode cL_law 196 = .ok (.aload_n 2, 1) := by decide +kernel
theorem dL_law_197 : decode cL_law 197 = .ok (.aload_n 0, 1) := by decide +kernel
theorem dL_law_198 : decode cL_law 198 = .ok (.iload 4, 2) := by decide +kernel
theorem dL_law_200 : decode cL_law 200 = .ok (.iconst 1, 1) := by decide +kernel
theorem dL_law_201 : decode cL_law 201 = .ok (.iadd, 1) := by decide +kernel
theorem dL_law_202 : decode cL_law 202 = .ok (.iaload, 1) := by decide +kernel
theorem dL_law_203 : decode cL_law 203 = .ok (.aload_n 0, 1) := by decide +kernel
theorem dL_law_204 : decode cL_law 204 = .ok (.iload 4, 2) := by decide +kernel
theorem dL_law_206 : decode cL_law 206 = .ok (.iconst 2, 1) := by decide +kernel
theorem dL_law_207 : decode cL_law 207 = .ok (.iadd, 1) := by decide +kernel
theorem dL_law_208 : decode cL_law 208 = .ok (.iaload, 1) := by decide +kernel
theorem dL_law_209 : decode cL_law 209 = .ok (.aload_n 0, 1) := by decide +kernel
theorem dL_law_210 : decode cL_law 210 = .ok (.iload 4, 2) := by decide +kernel
theorem dL_law_212 : decode cL_law 212 = .ok (.iconst 3, 1) := by decide +kernel
theorem dL_law_213 : decode cL_law 213 = .ok (.iadd, 1) := by decide +kernel
theorem dL_law_214 : decode cL_law 214 = .ok (.iaload, 1) := by decide +kernel
theorem dL_law_215 : decode cL_law 215 = .ok (.ifCond .eq 7, 3) := by decide +kernel
theorem dL_law_218 : decode cL_law 218 = .ok (.iconst 1, 1) := by decide +kernel
theorem dL_law_219 : decode cL_law 219 = .ok (.goto 4, 3) := by decide +kernel
theorem dL_law_222 : decode cL_law 222 = .ok (.iconst 0, 1) := by decide +kernel
theorem dL_law_223 : decode cL_law 223 = .ok (.aload_n 0, 1) := by decide +kernel
theorem dL_law_224 : decode cL_law 224 = .ok (.iload 4, 2) := by decide +kernel
theorem dL_law_226 : decode cL_law 226 = .ok (.iconst 4, 1) := by decide +kernel
theorem dL_law_227 : decode cL_law 227 = .ok (.iadd, 1) := by decide +kernel
theorem dL_law_228 : decode cL_law 228 = .ok (.iaload, 1) := by decide +kernel
theorem dL_law_229 : decode cL_law 229 = .ok (.invokevirtual 51, 3) := by decide +kernel
theorem dL_law_232 : decode cL_law 232 = .ok (.istore 6, 2) := by decide +kernel
theorem dL_law_234 : decode cL_law 234 = .ok (.aload_n 2, 1) := by decide +kernel
theorem dL_law_235 : decode cL_law 235 = .ok (.invokevirtual 52, 3) := by decide +kernel
theorem dL_law_238 : decode cL_law 238 = .ok (.iload 5, 2) := by decide +kernel
theorem dL_law_240 : decode cL_law 240 = .ok (.if_icmp .eq 5, 3) := by decide +kernel
theorem dL_law_243 : decode cL_law 243 = .ok (.iconst 0, 1) := by decide +kernel
theorem dL_law_244 : decode cL_law 244 = .ok (.ireturn, 1) := by decide +kernel
theorem dL_law_245 : decode cL_law 245 = .ok (.iload 5, 2) := by decide +kernel
theorem dL_law_247 : decode cL_law 247 = .ok (.ifCond .ne 15, 3) := by decide +kernel
theorem dL_law_250 : decode cL_law 250 = .ok (.aload_n 3, 1) := by decide +kernel
theorem dL_law_251 : decode cL_law 251 = .ok (.iconst 0, 1) := by decide +kernel
theorem dL_law_252 : decode cL_law 252 = .ok (.laload, 1) := by decide +kernel
theorem dL_law_253 : decode cL_law 253 = .ok (.iload 6, 2) := by decide +kernel
theorem dL_law_255 : decode cL_law 255 = .ok (.i2l, 1) := by decide +kernel
theorem dL_law_256 : decode cL_law 256 = .ok (.lcmp, 1) := by decide +kernel
theorem dL_law_257 : decode cL_law 257 = .ok (.ifCond .eq 5, 3) := by decide +kernel
theorem dL_law_260 : decode cL_law 260 = .ok (.iconst 0, 1) := by decide +kernel
theorem dL_law_261 : decode cL_law 261 = .ok (.ireturn, 1) := by decide +kernel
theorem dL_law_262 : decode cL_law 262 = .ok (.goto 369, 3) := by decide +kernel
theorem dL_law_265 : decode cL_law 265 = .ok (.aload_n 1, 1) := by decide +kernel
theorem dL_law_266 : decode cL_law 266 = .ok (.aload_n 0, 1) := by decide +kernel
theorem dL_law_267 : decode cL_law 267 = .ok (.iload 4, 2) := by decide +kernel
theorem dL_law_269 : decode cL_law 269 = .ok (.iconst 1, 1) := by decide +kernel
theorem dL_law_270 : decode cL_law 270 = .ok (.iadd, 1) := by decide +kernel
theorem dL_law_271 : decode cL_law 271 = .ok (.iaload, 1) := by decide +kernel
theorem dL_law_272 : decode cL_law 272 = .ok (.aload_n 0, 1) := by decide +kernel
theorem dL_law_273 : decode cL_law 273 = .ok (.iload 4, 2) := by decide +kernel
theorem dL_law_275 : decode cL_law 275 = .ok (.iconst 2, 1) := by decide +kernel
theorem dL_law_276 : decode cL_law 276 = .ok (.iadd, 1) := by decide +kernel
theorem dL_law_277 : decode cL_law 277 = .ok (.iaload, 1) := by decide +kernel
theorem dL_law_278 : decode cL_law 278 = .ok (.aload_n 0, 1) := by decide +kernel
theorem dL_law_279 : decode cL_law 279 = .ok (.iload 4, 2) := by decide +kernel
theorem dL_law_281 : decode cL_law 281 = .ok (.iconst 3, 1) := by decide +kernel
theorem dL_law_282 : decode cL_law 282 = .ok (.iadd, 1) := by decide +kernel
theorem dL_law_283 : decode cL_law 283 = .ok (.iaload, 1) := by decide +kernel
theorem dL_law_284 : decode cL_law 284 = .ok (.ifCond .eq 7, 3) := by decide +kernel
theorem dL_law_287 : decode cL_law 287 = .ok (.iconst 1, 1) := by decide +kernel
theorem dL_law_288 : decode cL_law 288 = .ok (.goto 4, 3) := by decide +kernel
theorem dL_law_291 : decode cL_law 291 = .ok (.iconst 0, 1) := by decide +kernel
theorem dL_law_292 : decode cL_law 292 = .ok (.aload_n 0, 1) := by decide +kernel
theorem dL_law_293 : decode cL_law 293 = .ok (.iload 4, 2) := by decide +kernel
theorem dL_law_295 : decode cL_law 295 = .ok (.iconst 4, 1) := by decide +kernel
theorem dL_law_296 : decode cL_law 296 = .ok (.iadd, 1) := by decide +kernel
theorem dL_law_297 : decode cL_law 297 = .ok (.iaload, 1) := by decide +kernel
theorem dL_law_298 : decode cL_law 298 = .ok (.ifCond .eq 7, 3) := by decide +kernel
theorem dL_law_301 : decode cL_law 301 = .ok (.iconst 1, 1) := by decide +kernel
theorem dL_law_302 : decode cL_law 302 = .ok (.goto 4, 3) := by decide +kernel
theorem dL_law_305 : decode cL_law 305 = .ok (.iconst 0, 1) := by decide +kernel
theorem dL_law_306 : decode cL_law 306 = .ok (.aload_n 3, 1) := by decide +kernel
theorem dL_law_307 : decode cL_law 307 = .ok (.invokestatic 56, 3) := by decide +kernel
theorem dL_law_310 : decode cL_law 310 = .ok (.istore 5, 2) := by decide +kernel
theorem dL_law_312 : decode cL_law 312 = .ok (.aload_n 2, 1) := by decide +kernel
theorem dL_law_313 : decode cL_law 313 = .ok (.aload_n 0, 1) := by decide +kernel
theorem dL_law_314 : decode cL_law 314 = .ok (.iload 4, 2) := by decide +kernel
theorem dL_law_316 : decode cL_law 316 = .ok (.iconst 1, 1) := by decide +kernel
theorem dL_law_317 : decode cL_law 317 = .ok (.iadd, 1) := by decide +kernel
theorem dL_law_318 : decode cL_law 318 = .ok (.iaload, 1) := by decide +kernel
theorem dL_law_319 : decode cL_law 319 = .ok (.aload_n 0, 1) := by decide +kernel
theorem dL_law_320 : decode cL_law 320 = .ok (.iload 4, 2) := by decide +kernel
theorem dL_law_322 : decode cL_law 322 = .ok (.iconst 2, 1) := by decide +kernel
theorem dL_law_323 : decode cL_law 323 = .ok (.iadd, 1) := by decide +kernel
theorem dL_law_324 : decode cL_law 324 = .ok (.iaload, 1) := by decide +kernel
theorem dL_law_325 : decode cL_law 325 = .ok (.aload_n 0, 1) := by decide +kernel
theorem dL_law_326 : decode cL_law 326 = .ok (.iload 4, 2) := by decide +kernel
theorem dL_law_328 : decode cL_law 328 = .ok (.iconst 3, 1) := by decide +kernel
theorem dL_law_329 : decode cL_law 329 = .ok (.iadd, 1) := by decide +kernel
theorem dL_law_330 : decode cL_law 330 = .ok (.iaload, 1) := by decide +kernel
theorem dL_law_331 : decode cL_law 331 = .ok (.ifCond .eq 7, 3) := by decide +kernel
theorem dL_law_334 : decode cL_law 334 = .ok (.iconst 1, 1) := by decide +kernel
theorem dL_law_335 : decode cL_law 335 = .ok (.goto 4, 3) := by decide +kernel
theorem dL_law_338 : decode cL_law 338 = .ok (.iconst 0, 1) := by decide +kernel
theorem dL_law_339 : decode cL_law 339 = .ok (.aload_n 0, 1) := by decide +kernel
theorem dL_law_340 : decode cL_law 340 = .ok (.iload 4, 2) := by decide +kernel
theorem dL_law_342 : decode cL_law 342 = .ok (.iconst 4, 1) := by decide +kernel
theorem dL_law_343 : decode cL_law 343 = .ok (.iadd, 1) := by decide +kernel
theorem dL_law_344 : decode cL_law 344 = .ok (.iaload, 1) := by decide +kernel
theorem dL_law_345 : decode cL_law 345 = .ok (.ifCond .eq 7, 3) := by decide +kernel
theorem dL_law_348 : decode cL_law 348 = .ok (.iconst 1, 1) := by decide +kernel
theorem dL_law_349 : decode cL_law 349 = .ok (.goto 4, 3) := by decide +kernel
theorem dL_law_352 : decode cL_law 352 = .ok (.iconst 0, 1) := by decide +kernel
theorem dL_law_353 : decode cL_law 353 = .ok (.invokevirtual 59, 3) := by decide +kernel
theorem dL_law_356 : decode cL_law 356 = .ok (.istore 6, 2) := by decide +kernel
theorem dL_law_358 : decode cL_law 358 = .ok (.aload_n 2, 1) := by decide +kernel
theorem dL_law_359 : decode cL_law 359 = .ok (.invokevirtual 52, 3) := by decide +kernel
theorem dL_law_362 : decode cL_law 362 = .ok (.iload 5, 2) := by decide +kernel
theorem dL_law_364 : decode cL_law 364 = .ok (.if_icmp .eq 5, 3) := by decide +kernel
theorem dL_law_367 : decode cL_law 367 = .ok (.iconst 0, 1) := by decide +kernel
theorem dL_law_368 : decode cL_law 368 = .ok (.ireturn, 1) := by decide +kernel
theorem dL_law_369 : decode cL_law 369 = .ok (.iload 5, 2) := by decide +kernel
theorem dL_law_371 : decode cL_law 371 = .ok (.ifCond .ne 15, 3) := by decide +kernel
theorem dL_law_374 : decode cL_law 374 = .ok (.aload_n 3, 1) := by decide +kernel
theorem dL_law_375 : decode cL_law 375 = .ok (.iconst 0, 1) := by decide +kernel
theorem dL_law_376 : decode cL_law 376 = .ok (.laload, 1) := by decide +kernel
theorem dL_law_377 : decode cL_law 377 = .ok (.iload 6, 2) := by decide +kernel
theorem dL_law_379 : decode cL_law 379 = .ok (.i2l, 1) := by decide +kernel
theorem dL_law_380 : decode cL_law 380 = .ok (.lcmp, 1) := by decide +kernel
theorem dL_law_381 : decode cL_law 381 = .ok (.ifCond .eq 5, 3) := by decide +kernel
theorem dL_law_384 : decode cL_law 384 = .ok (.iconst 0, 1) := by decide +kernel
theorem dL_law_385 : decode cL_law 385 = .ok (.ireturn, 1) := by decide +kernel
theorem dL_law_386 : decode cL_law 386 = .ok (.goto 245, 3) := by decide +kernel
theorem dL_law_389 : decode cL_law 389 = .ok (.aload_n 1, 1) := by decide +kernel
theorem dL_law_390 : decode cL_law 390 = .ok (.invokevirtual 60, 3) := by decide +kernel
theorem dL_law_393 : decode cL_law 393 = .ok (.aload_n 2, 1) := by decide +kernel
theorem dL_law_394 : decode cL_law 394 = .ok (.invokevirtual 64, 3) := by decide +kernel
theorem dL_law_397 : decode cL_law 397 = .ok (.if_icmp .eq 234, 3) := by decide +kernel
theorem dL_law_400 : decode cL_law 400 = .ok (.iconst 0, 1) := by decide +kernel
theorem dL_law_401 : decode cL_law 401 = .ok (.ireturn, 1) := by decide +kernel
theorem dL_law_402 : decode cL_law 402 = .ok (.aload_n 1, 1) := by decide +kernel
theorem dL_law_403 : decode cL_law 403 = .ok (.invokevirtual 65, 3) := by decide +kernel
theorem dL_law_406 : decode cL_law 406 = .ok (.aload_n 2, 1) := by decide +kernel
theorem dL_law_407 : decode cL_law 407 = .ok (.invokevirtual 68, 3) := by decide +kernel
theorem dL_law_410 : decode cL_law 410 = .ok (.if_icmp .eq 221, 3) := by decide +kernel
theorem dL_law_413 : decode cL_law 413 = .ok (.iconst 0, 1) := by decide +kernel
theorem dL_law_414 : decode cL_law 414 = .ok (.ireturn, 1) := by decide +kernel
theorem dL_law_415 : decode cL_law 415 = .ok (.aload_n 1, 1) := by decide +kernel
theorem dL_law_416 : decode cL_law 416 = .ok (.aload_n 0, 1) := by decide +kernel
theorem dL_law_417 : decode cL_law 417 = .ok (.iload 4, 2) := by decide +kernel
theorem dL_law_419 : decode cL_law 419 = .ok (.iconst 1, 1) := by decide +kernel
theorem dL_law_420 : decode cL_law 420 = .ok (.iadd, 1) := by decide +kernel
theorem dL_law_421 : decode cL_law 421 = .ok (.iaload, 1) := by decide +kernel
theorem dL_law_422 : decode cL_law 422 = .ok (.aload_n 0, 1) := by decide +kernel
theorem dL_law_423 : decode cL_law 423 = .ok (.iload 4, 2) := by decide +kernel
theorem dL_law_425 : decode cL_law 425 = .ok (.iconst 2, 1) := by decide +kernel
theorem dL_law_426 : decode cL_law 426 = .ok (.iadd, 1) := by decide +kernel
theorem dL_law_427 : decode cL_law 427 = .ok (.iaload, 1) := by decide +kernel
theorem dL_law_428 : decode cL_law 428 = .ok (.aload_n 3, 1) := by decide +kernel
theorem dL_law_429 : decode cL_law 429 = .ok (.invokestatic 69, 3) := by decide +kernel
theorem dL_law_432 : decode cL_law 432 = .ok (.istore 5, 2) := by decide +kernel
theorem dL_law_434 : decode cL_law 434 = .ok (.aload_n 2, 1) := by decide +kernel
theorem dL_law_435 : decode cL_law 435 = .ok (.aload_n 0, 1) := by decide +kernel
theorem dL_law_436 : decode cL_law 436 = .ok (.iload 4, 2) := by decide +kernel
theorem dL_law_438 : decode cL_law 438 = .ok (.iconst 1, 1) := by decide +kernel
theorem dL_law_439 : decode cL_law 439 = .ok (.iadd, 1) := by decide +kernel
theorem dL_law_440 : decode cL_law 440 = .ok (.iaload, 1) := by decide +kernel
theorem dL_law_441 : decode cL_law 441 = .ok (.aload_n 0, 1) := by decide +kernel
theorem dL_law_442 : decode cL_law 442 = .ok (.iload 4, 2) := by decide +kernel
theorem dL_law_444 : decode cL_law 444 = .ok (.iconst 2, 1) := by decide +kernel
theorem dL_law_445 : decode cL_law 445 = .ok (.iadd, 1) := by decide +kernel
theorem dL_law_446 : decode cL_law 446 = .ok (.iaload, 1) := by decide +kernel
theorem dL_law_447 : decode cL_law 447 = .ok (.invokevirtual 72, 3) := by decide +kernel
theorem dL_law_450 : decode cL_law 450 = .ok (.istore 6, 2) := by decide +kernel
theorem dL_law_452 : decode cL_law 452 = .ok (.aload_n 2, 1) := by decide +kernel
theorem dL_law_453 : decode cL_law 453 = .ok (.invokevirtual 52, 3) := by decide +kernel
theorem dL_law_456 : decode cL_law 456 = .ok (.iload 5, 2) := by decide +kernel
theorem dL_law_458 : decode cL_law 458 = .ok (.if_icmp .eq 5, 3) := by decide +kernel
theorem dL_law_461 : decode cL_law 461 = .ok (.iconst 0, 1) := by decide +kernel
theorem dL_law_462 : decode cL_law 462 = .ok (.ireturn, 1) := by decide +kernel
theorem dL_law_463 : decode cL_law 463 = .ok (.iload 5, 2) := by decide +kernel
theorem dL_law_465 : decode cL_law 465 = .ok (.ifCond .ne 15, 3) := by decide +kernel
theorem dL_law_468 : decode cL_law 468 = .ok (.aload_n 3, 1) := by decide +kernel
theorem dL_law_469 : decode cL_law 469 = .ok (.iconst 0, 1) := by decide +kernel
theorem dL_law_470 : decode cL_law 470 = .ok (.laload, 1) := by decide +kernel
theorem dL_law_471 : decode cL_law 471 = .ok (.iload 6, 2) := by decide +kernel
theorem dL_law_473 : decode cL_law 473 = .ok (.i2l, 1) := by decide +kernel
theorem dL_law_474 : decode cL_law 474 = .ok (.lcmp, 1) := by decide +kernel
theorem dL_law_475 : decode cL_law 475 = .ok (.ifCond .eq 5, 3) := by decide +kernel
theorem dL_law_478 : decode cL_law 478 = .ok (.iconst 0, 1) := by decide +kernel
theorem dL_law_479 : decode cL_law 479 = .ok (.ireturn, 1) := by decide +kernel
theorem dL_law_480 : decode cL_law 480 = .ok (.goto 151, 3) := by decide +kernel
theorem dL_law_483 : decode cL_law 483 = .ok (.aload_n 1, 1) := by decide +kernel
theorem dL_law_484 : decode cL_law 484 = .ok (.aload_n 0, 1) := by decide +kernel
theorem dL_law_485 : decode cL_law 485 = .ok (.iload 4, 2) := by decide +kernel
theorem dL_law_487 : decode cL_law 487 = .ok (.iconst 1, 1) := by decide +kernel
theorem dL_law_488 : decode cL_law 488 = .ok (.iadd, 1) := by decide +kernel
theorem dL_law_489 : decode cL_law 489 = .ok (.iaload, 1) := by decide +kernel
theorem dL_law_490 : decode cL_law 490 = .ok (.aload_n 0, 1) := by decide +kernel
theorem dL_law_491 : decode cL_law 491 = .ok (.iload 4, 2) := by decide +kernel
theorem dL_law_493 : decode cL_law 493 = .ok (.iconst 2, 1) := by decide +kernel
theorem dL_law_494 : decode cL_law 494 = .ok (.iadd, 1) := by decide +kernel
theorem dL_law_495 : decode cL_law 495 = .ok (.iaload, 1) := by decide +kernel
theorem dL_law_496 : decode cL_law 496 = .ok (.aload_n 3, 1) := by decide +kernel
theorem dL_law_497 : decode cL_law 497 = .ok (.invokestatic 73, 3) := by decide +kernel
theorem dL_law_500 : decode cL_law 500 = .ok (.istore 5, 2) := by decide +kernel
theorem dL_law_502 : decode cL_law 502 = .ok (.aload_n 2, 1) := by decide +kernel
theorem dL_law_503 : decode cL_law 503 = .ok (.aload_n 0, 1) := by decide +kernel
theorem dL_law_504 : decode cL_law 504 = .ok (.iload 4, 2) := by decide +kernel
theorem dL_law_506 : decode cL_law 506 = .ok (.iconst 1, 1) := by decide +kernel
theorem dL_law_507 : decode cL_law 507 = .ok (.iadd, 1) := by decide +kernel
theorem dL_law_508 : decode cL_law 508 = .ok (.iaload, 1) := by decide +kernel
theorem dL_law_509 : decode cL_law 509 = .ok (.aload_n 0, 1) := by decide +kernel
theorem dL_law_510 : decode cL_law 510 = .ok (.iload 4, 2) := by decide +kernel
theorem dL_law_512 : decode cL_law 512 = .ok (.iconst 2, 1) := by decide +kernel
theorem dL_law_513 : decode cL_law 513 = .ok (.iadd, 1) := by decide +kernel
theorem dL_law_514 : decode cL_law 514 = .ok (.iaload, 1) := by decide +kernel
theorem dL_law_515 : decode cL_law 515 = .ok (.invokevirtual 75, 3) := by decide +kernel
theorem dL_law_518 : decode cL_law 518 = .ok (.lstore 6, 2) := by decide +kernel
theorem dL_law_520 : decode cL_law 520 = .ok (.aload_n 2, 1) := by decide +kernel
theorem dL_law_521 : decode cL_law 521 = .ok (.invokevirtual 52, 3) := by decide +kernel
theorem dL_law_524 : decode cL_law 524 = .ok (.iload 5, 2) := by decide +kernel
theorem dL_law_526 : decode cL_law 526 = .ok (.if_icmp .eq 5, 3) := by decide +kernel
theorem dL_law_529 : decode cL_law 529 = .ok (.iconst 0, 1) := by decide +kernel
theorem dL_law_530 : decode cL_law 530 = .ok (.ireturn, 1) := by decide +kernel
theorem dL_law_531 : decode cL_law 531 = .ok (.iload 5, 2) := by decide +kernel
theorem dL_law_533 : decode cL_law 533 = .ok (.ifCond .ne 14, 3) := by decide +kernel
theorem dL_law_536 : decode cL_law 536 = .ok (.aload_n 3, 1) := by decide +kernel
theorem dL_law_537 : decode cL_law 537 = .ok (.iconst 0, 1) := by decide +kernel
theorem dL_law_538 : decode cL_law 538 = .ok (.laload, 1) := by decide +kernel
theorem dL_law_539 : decode cL_law 539 = .ok (.lload 6, 2) := by decide +kernel
theorem dL_law_541 : decode cL_law 541 = .ok (.lcmp, 1) := by decide +kernel
theorem dL_law_542 : decode cL_law 542 = .ok (.ifCond .eq 5, 3) := by decide +kernel
theorem dL_law_545 : decode cL_law 545 = .ok (.iconst 0, 1) := by decide +kernel
theorem dL_law_546 : decode cL_law 546 = .ok (.ireturn, 1) := by decide +kernel
theorem dL_law_547 : decode cL_law 547 = .ok (.goto 84, 3) := by decide +kernel
theorem dL_law_550 : decode cL_law 550 = .ok (.aload_n 1, 1) := by decide +kernel
theorem dL_law_551 : decode cL_law 551 = .ok (.aload_n 0, 1) := by decide +kernel
theorem dL_law_552 : decode cL_law 552 = .ok (.iload 4, 2) := by decide +kernel
theorem dL_law_554 : decode cL_law 554 = .ok (.iconst 1, 1) := by decide +kernel
theorem dL_law_555 : decode cL_law 555 = .ok (.iadd, 1) := by decide +kernel
theorem dL_law_556 : decode cL_law 556 = .ok (.iaload, 1) := by decide +kernel
theorem dL_law_557 : decode cL_law 557 = .ok (.aload_n 3, 1) := by decide +kernel
theorem dL_law_558 : decode cL_law 558 = .ok (.invokestatic 76, 3) := by decide +kernel
theorem dL_law_561 : decode cL_law 561 = .ok (.istore 5, 2) := by decide +kernel
theorem dL_law_563 : decode cL_law 563 = .ok (.aload_n 2, 1) := by decide +kernel
theorem dL_law_564 : decode cL_law 564 = .ok (.aload_n 0, 1) := by decide +kernel
theorem dL_law_565 : decode cL_law 565 = .ok (.iload 4, 2) := by decide +kernel
theorem dL_law_567 : decode cL_law 567 = .ok (.iconst 1, 1) := by decide +kernel
theorem dL_law_568 : decode cL_law 568 = .ok (.iadd, 1) := by decide +kernel
theorem dL_law_569 : decode cL_law 569 = .ok (.iaload, 1) := by decide +kernel
theorem dL_law_570 : decode cL_law 570 = .ok (.invokevirtual 79, 3) := by decide +kernel
theorem dL_law_573 : decode cL_law 573 = .ok (.istore 6, 2) := by decide +kernel
theorem dL_law_575 : decode cL_law 575 = .ok (.aload_n 2, 1) := by decide +kernel
theorem dL_law_576 : decode cL_law 576 = .ok (.invokevirtual 52, 3) := by decide +kernel
theorem dL_law_579 : decode cL_law 579 = .ok (.iload 5, 2) := by decide +kernel
theorem dL_law_581 : decode cL_law 581 = .ok (.if_icmp .eq 5, 3) := by decide +kernel
theorem dL_law_584 : decode cL_law 584 = .ok (.iconst 0, 1) := by decide +kernel
theorem dL_law_585 : decode cL_law 585 = .ok (.ireturn, 1) := by decide +kernel
theorem dL_law_586 : decode cL_law 586 = .ok (.iload 5, 2) := by decide +kernel
theorem dL_law_588 : decode cL_law 588 = .ok (.ifCond .ne 15, 3) := by decide +kernel
theorem dL_law_591 : decode cL_law 591 = .ok (.aload_n 3, 1) := by decide +kernel
theorem dL_law_592 : decode cL_law 592 = .ok (.iconst 0, 1) := by decide +kernel
theorem dL_law_593 : decode cL_law 593 = .ok (.laload, 1) := by decide +kernel
theorem dL_law_594 : decode cL_law 594 = .ok (.iload 6, 2) := by decide +kernel
theorem dL_law_596 : decode cL_law 596 = .ok (.i2l, 1) := by decide +kernel
theorem dL_law_597 : decode cL_law 597 = .ok (.lcmp, 1) := by decide +kernel
theorem dL_law_598 : decode cL_law 598 = .ok (.ifCond .eq 5, 3) := by decide +kernel
theorem dL_law_601 : decode cL_law 601 = .ok (.iconst 0, 1) := by decide +kernel
theorem dL_law_602 : decode cL_law 602 = .ok (.ireturn, 1) := by decide +kernel
theorem dL_law_603 : decode cL_law 603 = .ok (.goto 28, 3) := by decide +kernel
theorem dL_law_606 : decode cL_law 606 = .ok (.aload_n 1, 1) := by decide +kernel
theorem dL_law_607 : decode cL_law 607 = .ok (.aload_n 0, 1) := by decide +kernel
theorem dL_law_608 : decode cL_law 608 = .ok (.iload 4, 2) := by decide +kernel
theorem dL_law_610 : decode cL_law 610 = .ok (.iconst 1, 1) := by decide +kernel
theorem dL_law_611 : decode cL_law 611 = .ok (.iadd, 1) := by decide +kernel
theorem dL_law_612 : decode cL_law 612 = .ok (.iaload, 1) := by decide +kernel
theorem dL_law_613 : decode cL_law 613 = .ok (.invokevirtual 80, 3) := by decide +kernel
theorem dL_law_616 : decode cL_law 616 = .ok (.aload_n 2, 1) := by decide +kernel
theorem dL_law_617 : decode cL_law 617 = .ok (.aload_n 0, 1) := by decide +kernel
theorem dL_law_618 : decode cL_law 618 = .ok (.iload 4, 2) := by decide +kernel
theorem dL_law_620 : decode cL_law 620 = .ok (.iconst 1, 1) := by decide +kernel
theorem dL_law_621 : decode cL_law 621 = .ok (.iadd, 1) := by decide +kernel
theorem dL_law_622 : decode cL_law 622 = .ok (.iaload, 1) := by decide +kernel
theorem dL_law_623 : decode cL_law 623 = .ok (.invokevirtual 83, 3) := by decide +kernel
theorem dL_law_626 : decode cL_law 626 = .ok (.if_icmp .eq 5, 3) := by decide +kernel
theorem dL_law_629 : decode cL_law 629 = .ok (.iconst 0, 1) := by decide +kernel
theorem dL_law_630 : decode cL_law 630 = .ok (.ireturn, 1) := by decide +kernel
theorem dL_law_631 : decode cL_law 631 = .ok (.iinc 4 5, 3) := by decide +kernel
theorem dL_law_634 : decode cL_law 634 = .ok (.goto (-611), 3) := by decide +kernel
theorem dL_law_637 : decode cL_law 637 = .ok (.iconst 1, 1) := by decide +kernel
theorem dL_law_638 : decode cL_law 638 = .ok (.ireturn, 1) := by decide +kernel
abbrev vwCl : List vw_C := [(RX0, TX0, 4), (RX1, TX1, 7)]
/-! ===== END printed: names ===== -/
