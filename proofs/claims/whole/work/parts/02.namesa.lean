/-! ===== BEGIN words of one list among another's, by their places ===== -/
theorem goodIn_r {big : List Cond} (ws : List Cond) (ps : List Nat) (hp : ws = ps.filterMap (fun i => big[i]?)) (h : ws.all goodWord = true) : GoodIn big ws := by
  intro w hw
  have h1 := List.all_eq_true.mp h w hw
  rw [hp] at hw
  obtain ⟨i, -, hi⟩ := List.mem_filterMap.mp hw
  have hm : w ∈ big := by first | exact List.mem_of_getElem? hi | exact List.getElem?_mem hi
  exact ⟨hm, good_of_word h1⟩
theorem goodIn_app {big a b : List Cond} (ha : GoodIn big a) (hb : GoodIn big b) : GoodIn big (a ++ b) := fun w h => (List.mem_append.mp h).elim (ha w) (hb w)
theorem goodIn_ca {big a b : List Cond} {c : Cond} (ha : GoodIn big (c :: a)) (hb : GoodIn big b) : GoodIn big (c :: (a ++ b)) := fun w h => (List.mem_cons.mp h).elim (fun e => ha w (List.mem_cons.mpr (Or.inl e))) (fun h => (List.mem_append.mp h).elim (fun h => ha w (List.mem_cons.mpr (Or.inr h))) (hb w))
theorem goodIn_sub {big ws : List Cond} (hm : ∀ w ∈ ws, w ∈ big) (h : ws.all goodWord = true) : GoodIn big ws := fun w hw => ⟨hm w hw, good_of_word (List.all_eq_true.mp h w hw)⟩
/-! ===== END ===== -/

/-! ===== BEGIN printed: names, fields, word lists, decode rows ===== -/
def RX0 : String := "PartsFlow"
def TX0 : u_T := fun k => match k with
  | 0 => ("PartsFlow", "variableCount", "I", false)
  | 1 => ("PartsFlow", "variableParts", "[I", true)
  | 2 => ("PartsFlow", "variableOnce", "[Z", true)
  | 3 => ("PartsFlow", "variableGiven", "[Z", true)
  | 4 => ("PartsFlow", "pointCount", "I", false)
  | 5 => ("PartsFlow", "pointDoing", "[I", true)
  | 6 => ("PartsFlow", "pointVariable", "[I", true)
  | 7 => ("PartsFlow", "pointBits", "[I", true)
  | 8 => ("PartsFlow", "pointNextX", "[I", true)
  | 9 => ("PartsFlow", "pointNextY", "[I", true)
  | 10 => ("PartsFlow", "solved", "Z", false)
  | 11 => ("PartsFlow", "reached", "[Z", true)
  | 12 => ("PartsFlow", "ahead", "[J", true)
  | 13 => ("PartsFlow", "behind", "[J", true)
  | 14 => ("PartsFlow", "waiting", "[I", true)
  | 15 => ("PartsFlow", "isWaiting", "[Z", true)
  | 16 => ("PartsFlow", "waitingHead", "I", false)
  | _ => ("PartsFlow", "waitingCount", "I", false)
def tyX0 : Nat → FieldType := fun k => match k with
  | 0 => .int
  | 1 => .array .int
  | 2 => .array .boolean
  | 3 => .array .boolean
  | 4 => .int
  | 5 => .array .int
  | 6 => .array .int
  | 7 => .array .int
  | 8 => .array .int
  | 9 => .array .int
  | 10 => .boolean
  | 11 => .array .boolean
  | 12 => .array .long
  | 13 => .array .long
  | 14 => .array .int
  | 15 => .array .boolean
  | 16 => .int
  | _ => .int
abbrev wsX00 : List Cond := u_ws RX0 TX0 18
theorem nmX0 : ∀ a, a < 18 → ∀ b, b < 18 → a ≠ b → (TX0 a).2.1 ≠ (TX0 b).2.1 := by decide +kernel
theorem tyX0_ok : ∀ k, k < 18 → parseFieldDescriptor (TX0 k).2.2.1 = some (tyX0 k) := by decide +kernel
abbrev cX0_init : ByteArray := prog_1_method_1_code
def yX0_init : MethodName := ⟨RX0, "<init>", "()V"⟩
abbrev cX0_variable : ByteArray := prog_1_method_2_code
def yX0_variable : MethodName := ⟨RX0, "variable", "(IZZ)I"⟩
abbrev cX0_point : ByteArray := prog_1_method_3_code
def yX0_point : MethodName := ⟨RX0, "point", "(IIII)I"⟩
abbrev cX0_next : ByteArray := prog_1_method_4_code
def yX0_next : MethodName := ⟨RX0, "next", "(III)Z"⟩
abbrev cX0_isReached : ByteArray := prog_1_method_5_code
def yX0_isReached : MethodName := ⟨RX0, "isReached", "(I)Z"⟩
abbrev cX0_without : ByteArray := prog_1_method_6_code
def yX0_without : MethodName := ⟨RX0, "without", "(II)I"⟩
abbrev cX0_having : ByteArray := prog_1_method_7_code
def yX0_having : MethodName := ⟨RX0, "having", "(II)I"⟩
abbrev cX0_fault : ByteArray := prog_1_method_8_code
def yX0_fault : MethodName := ⟨RX0, "fault", "(I)I"⟩
abbrev cX0_count : ByteArray := prog_1_method_9_code
def yX0_count : MethodName := ⟨RX0, "count", "(I)I"⟩
abbrev cX0_clear : ByteArray := prog_1_method_10_code
def yX0_clear : MethodName := ⟨RX0, "clear", "()I"⟩
abbrev cX0_isPoint : ByteArray := prog_1_method_11_code
def yX0_isPoint : MethodName := ⟨RX0, "isPoint", "(I)Z"⟩
abbrev cX0_isVariable : ByteArray := prog_1_method_12_code
def yX0_isVariable : MethodName := ⟨RX0, "isVariable", "(I)Z"⟩
abbrev cX0_canBeNext : ByteArray := prog_1_method_13_code
def yX0_canBeNext : MethodName := ⟨RX0, "canBeNext", "(I)Z"⟩
abbrev cX0_isDoing : ByteArray := prog_1_method_14_code
def yX0_isDoing : MethodName := ⟨RX0, "isDoing", "(IIII)Z"⟩
abbrev cX0_isOfSomeParts : ByteArray := prog_1_method_15_code
def yX0_isOfSomeParts : MethodName := ⟨RX0, "isOfSomeParts", "(I)Z"⟩
abbrev cX0_bitsOfDoing : ByteArray := prog_1_method_16_code
def yX0_bitsOfDoing : MethodName := ⟨RX0, "bitsOfDoing", "(IIII)I"⟩
abbrev cX0_lowBits : ByteArray := prog_1_method_17_code
def yX0_lowBits : MethodName := ⟨RX0, "lowBits", "(I)I"⟩
abbrev cX0_allParts : ByteArray := prog_1_method_18_code
def yX0_allParts : MethodName := ⟨RX0, "allParts", "(I)I"⟩
abbrev cX0_wordOf : ByteArray := prog_1_method_19_code
def yX0_wordOf : MethodName := ⟨RX0, "wordOf", "(I)I"⟩
abbrev cX0_shiftOf : ByteArray := prog_1_method_20_code
def yX0_shiftOf : MethodName := ⟨RX0, "shiftOf", "(I)I"⟩
abbrev cX0_inWord : ByteArray := prog_1_method_21_code
def yX0_inWord : MethodName := ⟨RX0, "inWord", "(II)J"⟩
abbrev cX0_bitsAhead : ByteArray := prog_1_method_22_code
def yX0_bitsAhead : MethodName := ⟨RX0, "bitsAhead", "(III)I"⟩
abbrev cX0_solvedBits : ByteArray := prog_1_method_23_code
def yX0_solvedBits : MethodName := ⟨RX0, "solvedBits", "(III)I"⟩
abbrev cX0_faultOfPoint : ByteArray := prog_1_method_24_code
def yX0_faultOfPoint : MethodName := ⟨RX0, "faultOfPoint", "(I)I"⟩
abbrev cX0_countReached : ByteArray := prog_1_method_25_code
def yX0_countReached : MethodName := ⟨RX0, "countReached", "()I"⟩
abbrev cX0_countFaults : ByteArray := prog_1_method_26_code
def yX0_countFaults : MethodName := ⟨RX0, "countFaults", "()I"⟩
abbrev cX0_firstFault : ByteArray := prog_1_method_27_code
def yX0_firstFault : MethodName := ⟨RX0, "firstFault", "()I"⟩
abbrev cX0_countParts : ByteArray := prog_1_method_28_code
def yX0_countParts : MethodName := ⟨RX0, "countParts", "()I"⟩
abbrev cX0_solve : ByteArray := prog_1_method_29_code
def yX0_solve : MethodName := ⟨RX0, "solve", "()V"⟩
abbrev cX0_forgetFlow : ByteArray := prog_1_method_30_code
def yX0_forgetFlow : MethodName := ⟨RX0, "forgetFlow", "()V"⟩
abbrev cX0_beginWays : ByteArray := prog_1_method_31_code
def yX0_beginWays : MethodName := ⟨RX0, "beginWays", "()V"⟩
abbrev cX0_passThrough : ByteArray := prog_1_method_32_code
def yX0_passThrough : MethodName := ⟨RX0, "passThrough", "(I)V"⟩
abbrev cX0_goOnTo : ByteArray := prog_1_method_33_code
def yX0_goOnTo : MethodName := ⟨RX0, "goOnTo", "(I)V"⟩
abbrev cX0_addWaiting : ByteArray := prog_1_method_34_code
def yX0_addWaiting : MethodName := ⟨RX0, "addWaiting", "(I)V"⟩
abbrev cX0_takeWaiting : ByteArray := prog_1_method_35_code
def yX0_takeWaiting : MethodName := ⟨RX0, "takeWaiting", "()I"⟩
def wsX0_init : List Cond := .code yX0_init cX0_init 1 none :: ([.methodLink RX0 3 objectInit, .instanceMethod objectInit, .code objectInit ⟨#[0xb1]⟩ 1 none, .arrayClass .int, .fieldLink RX0 9 "PartsFlow" "variableParts" "[I", .arrayClass .boolean, .fieldLink RX0 13 "PartsFlow" "variableOnce" "[Z", .fieldLink RX0 17 "PartsFlow" "variableGiven" "[Z", .fieldLink RX0 20 "PartsFlow" "pointDoing" "[I", .fieldLink RX0 23 "PartsFlow" "pointVariable" "[I", .fieldLink RX0 26 "PartsFlow" "pointBits" "[I", .fieldLink RX0 29 "PartsFlow" "pointNextX" "[I", .fieldLink RX0 32 "PartsFlow" "pointNextY" "[I", .fieldLink RX0 35 "PartsFlow" "reached" "[Z", .arrayClass .long, .fieldLink RX0 38 "PartsFlow" "ahead" "[J", .fieldLink RX0 42 "PartsFlow" "behind" "[J", .fieldLink RX0 45 "PartsFlow" "waiting" "[I", .fieldLink RX0 48 "PartsFlow" "isWaiting" "[Z"] ++ wsX00)
def wsX0_variable : List Cond := .code yX0_variable cX0_variable 5 (some .int) :: ([.fieldLink RX0 51 "PartsFlow" "variableCount" "I", .fieldLink RX0 9 "PartsFlow" "variableParts" "[I", .fieldLink RX0 13 "PartsFlow" "variableOnce" "[Z", .fieldLink RX0 17 "PartsFlow" "variableGiven" "[Z", .fieldLink RX0 55 "PartsFlow" "solved" "Z"] ++ wsX00)
def wsX0_isVariable : List Cond := .code yX0_isVariable cX0_isVariable 2 (some .boolean) :: ([.fieldLink RX0 51 "PartsFlow" "variableCount" "I"] ++ wsX00)
def wsX0_isOfSomeParts : List Cond := .code yX0_isOfSomeParts cX0_isOfSomeParts 1 (some .boolean) :: ([])
def wsX0_isDoing : List Cond := .code yX0_isDoing cX0_isDoing 5 (some .boolean) :: ([.fieldLink RX0 9 "PartsFlow" "variableParts" "[I", .methodLink RX0 101 yX0_isVariable, .instanceMethod yX0_isVariable, .selects RX0 yX0_isVariable yX0_isVariable, .initialized RX0, .code yX0_isVariable cX0_isVariable 2 (some .boolean), .fieldLink RX0 51 "PartsFlow" "variableCount" "I", .methodLink RX0 104 yX0_isOfSomeParts, .static yX0_isOfSomeParts, .code yX0_isOfSomeParts cX0_isOfSomeParts 1 (some .boolean)] ++ wsX00)
def wsX0_lowBits : List Cond := .code yX0_lowBits cX0_lowBits 1 (some .int) :: ([])
def wsX0_allParts : List Cond := .code yX0_allParts cX0_allParts 2 (some .int) :: ([.fieldLink RX0 9 "PartsFlow" "variableParts" "[I", .methodLink RX0 107 yX0_lowBits, .static yX0_lowBits, .initialized RX0, .code yX0_lowBits cX0_lowBits 1 (some .int)] ++ wsX00)
def wsX0_bitsOfDoing : List Cond := .code yX0_bitsOfDoing cX0_bitsOfDoing 5 (some .int) :: ([.methodLink RX0 104 yX0_isOfSomeParts, .static yX0_isOfSomeParts, .initialized RX0, .code yX0_isOfSomeParts cX0_isOfSomeParts 1 (some .boolean), .methodLink RX0 107 yX0_lowBits, .static yX0_lowBits, .code yX0_lowBits cX0_lowBits 1 (some .int), .methodLink RX0 110 yX0_allParts, .instanceMethod yX0_allParts, .selects RX0 yX0_allParts yX0_allParts, .code yX0_allParts cX0_allParts 2 (some .int), .fieldLink RX0 9 "PartsFlow" "variableParts" "[I"] ++ wsX00)
def wsX0_point_r1 : List Cond := [Cond.fieldLink RX0 59 "PartsFlow" "pointCount" "I", Cond.fieldLink RX0 20 "PartsFlow" "pointDoing" "[I", Cond.fieldLink RX0 23 "PartsFlow" "pointVariable" "[I", Cond.fieldLink RX0 26 "PartsFlow" "pointBits" "[I", Cond.fieldLink RX0 29 "PartsFlow" "pointNextX" "[I", Cond.fieldLink RX0 32 "PartsFlow" "pointNextY" "[I", Cond.fieldLink RX0 55 "PartsFlow" "solved" "Z", Cond.methodLink RX0 62 yX0_isDoing, Cond.instanceMethod yX0_isDoing, Cond.selects RX0 yX0_isDoing yX0_isDoing, Cond.initialized RX0, Cond.code yX0_isDoing cX0_isDoing 5 (some .boolean), Cond.fieldLink RX0 9 "PartsFlow" "variableParts" "[I", Cond.methodLink RX0 101 yX0_isVariable, Cond.instanceMethod yX0_isVariable, Cond.selects RX0 yX0_isVariable yX0_isVariable, Cond.code yX0_isVariable cX0_isVariable 2 (some .boolean), Cond.fieldLink RX0 51 "PartsFlow" "variableCount" "I", Cond.methodLink RX0 104 yX0_isOfSomeParts, Cond.static yX0_isOfSomeParts, Cond.code yX0_isOfSomeParts cX0_isOfSomeParts 1 (some .boolean), Cond.methodLink RX0 66 yX0_bitsOfDoing, Cond.instanceMethod yX0_bitsOfDoing, Cond.selects RX0 yX0_bitsOfDoing yX0_bitsOfDoing]
def wsX0_point_r2 : List Cond := [Cond.code yX0_bitsOfDoing cX0_bitsOfDoing 5 (some .int), Cond.methodLink RX0 107 yX0_lowBits, Cond.static yX0_lowBits, Cond.code yX0_lowBits cX0_lowBits 1 (some .int), Cond.methodLink RX0 110 yX0_allParts, Cond.instanceMethod yX0_allParts, Cond.selects RX0 yX0_allParts yX0_allParts, Cond.code yX0_allParts cX0_allParts 2 (some .int)]
def wsX0_point : List Cond := .code yX0_point cX0_point 6 (some .int) :: ((wsX0_point_r1 ++ wsX0_point_r2) ++ wsX00)
def wsX0_isPoint : List Cond := .code yX0_isPoint cX0_isPoint 2 (some .boolean) :: ([.fieldLink RX0 59 "PartsFlow" "pointCount" "I"] ++ wsX00)
def wsX0_canBeNext : List Cond := .code yX0_canBeNext cX0_canBeNext 1 (some .boolean) :: ([])
def wsX0_next : List Cond := .code yX0_next cX0_next 4 (some .boolean) :: ([.fieldLink RX0 29 "PartsFlow" "pointNextX" "[I", .fieldLink RX0 32 "PartsFlow" "pointNextY" "[I", .fieldLink RX0 55 "PartsFlow" "solved" "Z", .methodLink RX0 70 yX0_isPoint, .instanceMethod yX0_isPoint, .selects RX0 yX0_isPoint yX0_isPoint, .initialized RX0, .code yX0_isPoint cX0_isPoint 2 (some .boolean), .fieldLink RX0 59 "PartsFlow" "pointCount" "I", .methodLink RX0 74 yX0_canBeNext, .static yX0_canBeNext, .code yX0_canBeNext cX0_canBeNext 1 (some .boolean)] ++ wsX00)
def wsX0_forgetFlow : List Cond := .code yX0_forgetFlow cX0_forgetFlow 2 none :: ([.fieldLink RX0 142 "PartsFlow" "waitingHead" "I", .fieldLink RX0 129 "PartsFlow" "waitingCount" "I", .fieldLink RX0 59 "PartsFlow" "pointCount" "I", .fieldLink RX0 35 "PartsFlow" "reached" "[Z", .fieldLink RX0 48 "PartsFlow" "isWaiting" "[Z", .fieldLink RX0 38 "PartsFlow" "ahead" "[J"] ++ wsX00)
def wsX0_wordOf : List Cond := .code yX0_wordOf cX0_wordOf 1 (some .int) :: ([])
def wsX0_shiftOf : List Cond := .code yX0_shiftOf cX0_shiftOf 1 (some .int) :: ([])
def wsX0_inWord : List Cond := .code yX0_inWord cX0_inWord 2 (some .long) :: ([.methodLink RX0 113 yX0_shiftOf, .static yX0_shiftOf, .initialized RX0, .code yX0_shiftOf cX0_shiftOf 1 (some .int)])
def wsX0_addWaiting : List Cond := .code yX0_addWaiting cX0_addWaiting 2 none :: ([.fieldLink RX0 48 "PartsFlow" "isWaiting" "[Z", .fieldLink RX0 129 "PartsFlow" "waitingCount" "I", .fieldLink RX0 45 "PartsFlow" "waiting" "[I", .fieldLink RX0 142 "PartsFlow" "waitingHead" "I"] ++ wsX00)
def wsX0_goOnTo : List Cond := .code yX0_goOnTo cX0_goOnTo 7 none :: ([.fieldLink RX0 35 "PartsFlow" "reached" "[Z", .fieldLink RX0 38 "PartsFlow" "ahead" "[J", .fieldLink RX0 42 "PartsFlow" "behind" "[J", .methodLink RX0 70 yX0_isPoint, .instanceMethod yX0_isPoint, .selects RX0 yX0_isPoint yX0_isPoint, .initialized RX0, .code yX0_isPoint cX0_isPoint 2 (some .boolean), .fieldLink RX0 59 "PartsFlow" "pointCount" "I", .methodLink RX0 151 yX0_addWaiting, .instanceMethod yX0_addWaiting, .selects RX0 yX0_addWaiting yX0_addWaiting, .code yX0_addWaiting cX0_addWaiting 2 none, .fieldLink RX0 48 "PartsFlow" "isWaiting" "[Z", .fieldLink RX0 129 "PartsFlow" "waitingCount" "I", .fieldLink RX0 45 "PartsFlow" "waiting" "[I", .fieldLink RX0 142 "PartsFlow" "waitingHead" "I"] ++ wsX00)
def wsX0_beginWays_r1 : List Cond := [Cond.fieldLink RX0 42 "PartsFlow" "behind" "[J", Cond.fieldLink RX0 51 "PartsFlow" "variableCount" "I", Cond.fieldLink RX0 17 "PartsFlow" "variableGiven" "[Z", Cond.methodLink RX0 119 yX0_wordOf, Cond.static yX0_wordOf, Cond.initialized RX0, Cond.code yX0_wordOf cX0_wordOf 1 (some .int), Cond.methodLink RX0 110 yX0_allParts, Cond.instanceMethod yX0_allParts, Cond.selects RX0 yX0_allParts yX0_allParts, Cond.code yX0_allParts cX0_allParts 2 (some .int), Cond.fieldLink RX0 9 "PartsFlow" "variableParts" "[I", Cond.methodLink RX0 107 yX0_lowBits, Cond.static yX0_lowBits, Cond.code yX0_lowBits cX0_lowBits 1 (some .int), Cond.methodLink RX0 145 yX0_inWord, Cond.static yX0_inWord, Cond.code yX0_inWord cX0_inWord 2 (some .long), Cond.methodLink RX0 113 yX0_shiftOf, Cond.static yX0_shiftOf, Cond.code yX0_shiftOf cX0_shiftOf 1 (some .int), Cond.methodLink RX0 139 yX0_goOnTo, Cond.instanceMethod yX0_goOnTo, Cond.selects RX0 yX0_goOnTo yX0_goOnTo]
def wsX0_beginWays_r2 : List Cond := [Cond.code yX0_goOnTo cX0_goOnTo 7 none, Cond.fieldLink RX0 35 "PartsFlow" "reached" "[Z", Cond.fieldLink RX0 38 "PartsFlow" "ahead" "[J", Cond.methodLink RX0 70 yX0_isPoint, Cond.instanceMethod yX0_isPoint, Cond.selects RX0 yX0_isPoint yX0_isPoint, Cond.code yX0_isPoint cX0_isPoint 2 (some .boolean), Cond.fieldLink RX0 59 "PartsFlow" "pointCount" "I", Cond.methodLink RX0 151 yX0_addWaiting, Cond.instanceMethod yX0_addWaiting, Cond.selects RX0 yX0_addWaiting yX0_addWaiting, Cond.code yX0_addWaiting cX0_addWaiting 2 none, Cond.fieldLink RX0 48 "PartsFlow" "isWaiting" "[Z", Cond.fieldLink RX0 129 "PartsFlow" "waitingCount" "I", Cond.fieldLink RX0 45 "PartsFlow" "waiting" "[I", Cond.fieldLink RX0 142 "PartsFlow" "waitingHead" "I"]
def wsX0_beginWays : List Cond := .code yX0_beginWays cX0_beginWays 3 none :: ((wsX0_beginWays_r1 ++ wsX0_beginWays_r2) ++ wsX00)
def wsX0_takeWaiting : List Cond := .code yX0_takeWaiting cX0_takeWaiting 2 (some .int) :: ([.fieldLink RX0 45 "PartsFlow" "waiting" "[I", .fieldLink RX0 142 "PartsFlow" "waitingHead" "I", .fieldLink RX0 129 "PartsFlow" "waitingCount" "I", .fieldLink RX0 48 "PartsFlow" "isWaiting" "[Z"] ++ wsX00)
def wsX0_passThrough : List Cond := .code yX0_passThrough cX0_passThrough 10 none :: ([.fieldLink RX0 42 "PartsFlow" "behind" "[J", .fieldLink RX0 38 "PartsFlow" "ahead" "[J", .fieldLink RX0 20 "PartsFlow" "pointDoing" "[I", .fieldLink RX0 23 "PartsFlow" "pointVariable" "[I", .fieldLink RX0 26 "PartsFlow" "pointBits" "[I", .constantLong RX0 149 (-1), .methodLink RX0 145 yX0_inWord, .static yX0_inWord, .initialized RX0, .code yX0_inWord cX0_inWord 2 (some .long), .methodLink RX0 113 yX0_shiftOf, .static yX0_shiftOf, .code yX0_shiftOf cX0_shiftOf 1 (some .int), .methodLink RX0 119 yX0_wordOf, .static yX0_wordOf, .code yX0_wordOf cX0_wordOf 1 (some .int)] ++ wsX00)
def wsX0_solve_r1 : List Cond := [Cond.fieldLink RX0 55 "PartsFlow" "solved" "Z", Cond.constant RX0 128 (46200), Cond.fieldLink RX0 129 "PartsFlow" "waitingCount" "I", Cond.fieldLink RX0 29 "PartsFlow" "pointNextX" "[I", Cond.fieldLink RX0 32 "PartsFlow" "pointNextY" "[I", Cond.methodLink RX0 122 yX0_forgetFlow, Cond.instanceMethod yX0_forgetFlow, Cond.selects RX0 yX0_forgetFlow yX0_forgetFlow, Cond.initialized RX0, Cond.code yX0_forgetFlow cX0_forgetFlow 2 none, Cond.fieldLink RX0 142 "PartsFlow" "waitingHead" "I", Cond.fieldLink RX0 59 "PartsFlow" "pointCount" "I", Cond.fieldLink RX0 35 "PartsFlow" "reached" "[Z", Cond.fieldLink RX0 48 "PartsFlow" "isWaiting" "[Z", Cond.fieldLink RX0 38 "PartsFlow" "ahead" "[J", Cond.methodLink RX0 125 yX0_beginWays, Cond.instanceMethod yX0_beginWays, Cond.selects RX0 yX0_beginWays yX0_beginWays, Cond.code yX0_beginWays cX0_beginWays 3 none, Cond.fieldLink RX0 42 "PartsFlow" "behind" "[J", Cond.fieldLink RX0 51 "PartsFlow" "variableCount" "I", Cond.fieldLink RX0 17 "PartsFlow" "variableGiven" "[Z", Cond.methodLink RX0 119 yX0_wordOf, Cond.static yX0_wordOf]
def wsX0_solve_r2 : List Cond := [Cond.code yX0_wordOf cX0_wordOf 1 (some .int), Cond.methodLink RX0 110 yX0_allParts, Cond.instanceMethod yX0_allParts, Cond.selects RX0 yX0_allParts yX0_allParts, Cond.code yX0_allParts cX0_allParts 2 (some .int), Cond.fieldLink RX0 9 "PartsFlow" "variableParts" "[I", Cond.methodLink RX0 107 yX0_lowBits, Cond.static yX0_lowBits, Cond.code yX0_lowBits cX0_lowBits 1 (some .int), Cond.methodLink RX0 145 yX0_inWord, Cond.static yX0_inWord, Cond.code yX0_inWord cX0_inWord 2 (some .long), Cond.methodLink RX0 113 yX0_shiftOf, Cond.static yX0_shiftOf, Cond.code yX0_shiftOf cX0_shiftOf 1 (some .int), Cond.methodLink RX0 139 yX0_goOnTo, Cond.instanceMethod yX0_goOnTo, Cond.selects RX0 yX0_goOnTo yX0_goOnTo, Cond.code yX0_goOnTo cX0_goOnTo 7 none, Cond.methodLink RX0 70 yX0_isPoint, Cond.instanceMethod yX0_isPoint, Cond.selects RX0 yX0_isPoint yX0_isPoint, Cond.code yX0_isPoint cX0_isPoint 2 (some .boolean), Cond.methodLink RX0 151 yX0_addWaiting]
def wsX0_solve_r3 : List Cond := [Cond.instanceMethod yX0_addWaiting, Cond.selects RX0 yX0_addWaiting yX0_addWaiting, Cond.code yX0_addWaiting cX0_addWaiting 2 none, Cond.fieldLink RX0 45 "PartsFlow" "waiting" "[I", Cond.methodLink RX0 132 yX0_takeWaiting, Cond.instanceMethod yX0_takeWaiting, Cond.selects RX0 yX0_takeWaiting yX0_takeWaiting, Cond.code yX0_takeWaiting cX0_takeWaiting 2 (some .int), Cond.methodLink RX0 135 yX0_passThrough, Cond.instanceMethod yX0_passThrough, Cond.selects RX0 yX0_passThrough yX0_passThrough, Cond.code yX0_passThrough cX0_passThrough 10 none, Cond.fieldLink RX0 20 "PartsFlow" "pointDoing" "[I", Cond.fieldLink RX0 23 "PartsFlow" "pointVariable" "[I", Cond.fieldLink RX0 26 "PartsFlow" "pointBits" "[I", Cond.constantLong RX0 149 (-1)]
def wsX0_solve : List Cond := .code yX0_solve cX0_solve 3 none :: ((wsX0_solve_r1 ++ (wsX0_solve_r2 ++ wsX0_solve_r3)) ++ wsX00)
def wsX0_isReached_r1 : List Cond := [Cond.fieldLink RX0 35 "PartsFlow" "reached" "[Z", Cond.methodLink RX0 70 yX0_isPoint, Cond.instanceMethod yX0_isPoint, Cond.selects RX0 yX0_isPoint yX0_isPoint, Cond.initialized RX0, Cond.code yX0_isPoint cX0_isPoint 2 (some .boolean), Cond.fieldLink RX0 59 "PartsFlow" "pointCount" "I", Cond.methodLink RX0 77 yX0_solve, Cond.instanceMethod yX0_solve, Cond.selects RX0 yX0_solve yX0_solve, Cond.code yX0_solve cX0_solve 3 none, Cond.fieldLink RX0 55 "PartsFlow" "solved" "Z", Cond.constant RX0 128 (46200), Cond.fieldLink RX0 129 "PartsFlow" "waitingCount" "I", Cond.fieldLink RX0 29 "PartsFlow" "pointNextX" "[I", Cond.fieldLink RX0 32 "PartsFlow" "pointNextY" "[I", Cond.methodLink RX0 122 yX0_forgetFlow, Cond.instanceMethod yX0_forgetFlow, Cond.selects RX0 yX0_forgetFlow yX0_forgetFlow, Cond.code yX0_forgetFlow cX0_forgetFlow 2 none, Cond.fieldLink RX0 142 "PartsFlow" "waitingHead" "I", Cond.fieldLink RX0 48 "PartsFlow" "isWaiting" "[Z", Cond.fieldLink RX0 38 "PartsFlow" "ahead" "[J", Cond.methodLink RX0 125 yX0_beginWays]
def wsX0_isReached_r2 : List Cond := [Cond.instanceMethod yX0_beginWays, Cond.selects RX0 yX0_beginWays yX0_beginWays, Cond.code yX0_beginWays cX0_beginWays 3 none, Cond.fieldLink RX0 42 "PartsFlow" "behind" "[J", Cond.fieldLink RX0 51 "PartsFlow" "variableCount" "I", Cond.fieldLink RX0 17 "PartsFlow" "variableGiven" "[Z", Cond.methodLink RX0 119 yX0_wordOf, Cond.static yX0_wordOf, Cond.code yX0_wordOf cX0_wordOf 1 (some .int), Cond.methodLink RX0 110 yX0_allParts, Cond.instanceMethod yX0_allParts, Cond.selects RX0 yX0_allParts yX0_allParts, Cond.code yX0_allParts cX0_allParts 2 (some .int), Cond.fieldLink RX0 9 "PartsFlow" "variableParts" "[I", Cond.methodLink RX0 107 yX0_lowBits, Cond.static yX0_lowBits, Cond.code yX0_lowBits cX0_lowBits 1 (some .int), Cond.methodLink RX0 145 yX0_inWord, Cond.static yX0_inWord, Cond.code yX0_inWord cX0_inWord 2 (some .long), Cond.methodLink RX0 113 yX0_shiftOf, Cond.static yX0_shiftOf, Cond.code yX0_shiftOf cX0_shiftOf 1 (some .int), Cond.methodLink RX0 139 yX0_goOnTo]
def wsX0_isReached_r3 : List Cond := [Cond.instanceMethod yX0_goOnTo, Cond.selects RX0 yX0_goOnTo yX0_goOnTo, Cond.code yX0_goOnTo cX0_goOnTo 7 none, Cond.methodLink RX0 151 yX0_addWaiting, Cond.instanceMethod yX0_addWaiting, Cond.selects RX0 yX0_addWaiting yX0_addWaiting, Cond.code yX0_addWaiting cX0_addWaiting 2 none, Cond.fieldLink RX0 45 "PartsFlow" "waiting" "[I", Cond.methodLink RX0 132 yX0_takeWaiting, Cond.instanceMethod yX0_takeWaiting, Cond.selects RX0 yX0_takeWaiting yX0_takeWaiting, Cond.code yX0_takeWaiting cX0_takeWaiting 2 (some .int), Cond.methodLink RX0 135 yX0_passThrough, Cond.instanceMethod yX0_passThrough, Cond.selects RX0 yX0_passThrough yX0_passThrough, Cond.code yX0_passThrough cX0_passThrough 10 none, Cond.fieldLink RX0 20 "PartsFlow" "pointDoing" "[I", Cond.fieldLink RX0 23 "PartsFlow" "pointVariable" "[I", Cond.fieldLink RX0 26 "PartsFlow" "pointBits" "[I", Cond.constantLong RX0 149 (-1)]
def wsX0_isReached : List Cond := .code yX0_isReached cX0_isReached 2 (some .boolean) :: ((wsX0_isReached_r1 ++ (wsX0_isReached_r2 ++ wsX0_isReached_r3)) ++ wsX00)
def wsX0_solvedBits : List Cond := .code yX0_solvedBits cX0_solvedBits 6 (some .int) :: ([.fieldLink RX0 38 "PartsFlow" "ahead" "[J", .methodLink RX0 119 yX0_wordOf, .static yX0_wordOf, .initialized RX0, .code yX0_wordOf cX0_wordOf 1 (some .int), .methodLink RX0 113 yX0_shiftOf, .static yX0_shiftOf, .code yX0_shiftOf cX0_shiftOf 1 (some .int), .methodLink RX0 107 yX0_lowBits, .static yX0_lowBits, .code yX0_lowBits cX0_lowBits 1 (some .int)] ++ wsX00)
def wsX0_bitsAhead_r1 : List Cond := [Cond.methodLink RX0 70 yX0_isPoint, Cond.instanceMethod yX0_isPoint, Cond.selects RX0 yX0_isPoint yX0_isPoint, Cond.initialized RX0, Cond.code yX0_isPoint cX0_isPoint 2 (some .boolean), Cond.fieldLink RX0 59 "PartsFlow" "pointCount" "I", Cond.methodLink RX0 101 yX0_isVariable, Cond.instanceMethod yX0_isVariable, Cond.selects RX0 yX0_isVariable yX0_isVariable, Cond.code yX0_isVariable cX0_isVariable 2 (some .boolean), Cond.fieldLink RX0 51 "PartsFlow" "variableCount" "I", Cond.methodLink RX0 77 yX0_solve, Cond.instanceMethod yX0_solve, Cond.selects RX0 yX0_solve yX0_solve, Cond.code yX0_solve cX0_solve 3 none, Cond.fieldLink RX0 55 "PartsFlow" "solved" "Z", Cond.constant RX0 128 (46200), Cond.fieldLink RX0 129 "PartsFlow" "waitingCount" "I", Cond.fieldLink RX0 29 "PartsFlow" "pointNextX" "[I", Cond.fieldLink RX0 32 "PartsFlow" "pointNextY" "[I", Cond.methodLink RX0 122 yX0_forgetFlow, Cond.instanceMethod yX0_forgetFlow, Cond.selects RX0 yX0_forgetFlow yX0_forgetFlow, Cond.code yX0_forgetFlow cX0_forgetFlow 2 none]
def wsX0_bitsAhead_r2 : List Cond := [Cond.fieldLink RX0 142 "PartsFlow" "waitingHead" "I", Cond.fieldLink RX0 35 "PartsFlow" "reached" "[Z", Cond.fieldLink RX0 48 "PartsFlow" "isWaiting" "[Z", Cond.fieldLink RX0 38 "PartsFlow" "ahead" "[J", Cond.methodLink RX0 125 yX0_beginWays, Cond.instanceMethod yX0_beginWays, Cond.selects RX0 yX0_beginWays yX0_beginWays, Cond.code yX0_beginWays cX0_beginWays 3 none, Cond.fieldLink RX0 42 "PartsFlow" "behind" "[J", Cond.fieldLink RX0 17 "PartsFlow" "variableGiven" "[Z", Cond.methodLink RX0 119 yX0_wordOf, Cond.static yX0_wordOf, Cond.code yX0_wordOf cX0_wordOf 1 (some .int), Cond.methodLink RX0 110 yX0_allParts, Cond.instanceMethod yX0_allParts, Cond.selects RX0 yX0_allParts yX0_allParts, Cond.code yX0_allParts cX0_allParts 2 (some .int), Cond.fieldLink RX0 9 "PartsFlow" "variableParts" "[I", Cond.methodLink RX0 107 yX0_lowBits, Cond.static yX0_lowBits, Cond.code yX0_lowBits cX0_lowBits 1 (some .int), Cond.methodLink RX0 145 yX0_inWord, Cond.static yX0_inWord, Cond.code yX0_inWord cX0_inWord 2 (some .long)]
def wsX0_bitsAhead_r3 : List Cond := [Cond.methodLink RX0 113 yX0_shiftOf, Cond.static yX0_shiftOf, Cond.code yX0_shiftOf cX0_shiftOf 1 (some .int), Cond.methodLink RX0 139 yX0_goOnTo, Cond.instanceMethod yX0_goOnTo, Cond.selects RX0 yX0_goOnTo yX0_goOnTo, Cond.code yX0_goOnTo cX0_goOnTo 7 none, Cond.methodLink RX0 151 yX0_addWaiting, Cond.instanceMethod yX0_addWaiting, Cond.selects RX0 yX0_addWaiting yX0_addWaiting, Cond.code yX0_addWaiting cX0_addWaiting 2 none, Cond.fieldLink RX0 45 "PartsFlow" "waiting" "[I", Cond.methodLink RX0 132 yX0_takeWaiting, Cond.instanceMethod yX0_takeWaiting, Cond.selects RX0 yX0_takeWaiting yX0_takeWaiting, Cond.code yX0_takeWaiting cX0_takeWaiting 2 (some .int), Cond.methodLink RX0 135 yX0_passThrough, Cond.instanceMethod yX0_passThrough, Cond.selects RX0 yX0_passThrough yX0_passThrough, Cond.code yX0_passThrough cX0_passThrough 10 none, Cond.fieldLink RX0 20 "PartsFlow" "pointDoing" "[I", Cond.fieldLink RX0 23 "PartsFlow" "pointVariable" "[I", Cond.fieldLink RX0 26 "PartsFlow" "pointBits" "[I", Cond.constantLong RX0 149 (-1)]
def wsX0_bitsAhead_r4 : List Cond := [Cond.methodLink RX0 116 yX0_solvedBits, Cond.instanceMethod yX0_solvedBits, Cond.selects RX0 yX0_solvedBits yX0_solvedBits, Cond.code yX0_solvedBits cX0_solvedBits 6 (some .int)]
def wsX0_bitsAhead : List Cond := .code yX0_bitsAhead cX0_bitsAhead 4 (some .int) :: ((wsX0_bitsAhead_r1 ++ (wsX0_bitsAhead_r2 ++ (wsX0_bitsAhead_r3 ++ wsX0_bitsAhead_r4))) ++ wsX00)
def wsX0_without_r1 : List Cond := [Cond.methodLink RX0 80 yX0_bitsAhead, Cond.instanceMethod yX0_bitsAhead, Cond.selects RX0 yX0_bitsAhead yX0_bitsAhead, Cond.initialized RX0, Cond.code yX0_bitsAhead cX0_bitsAhead 4 (some .int), Cond.methodLink RX0 70 yX0_isPoint, Cond.instanceMethod yX0_isPoint, Cond.selects RX0 yX0_isPoint yX0_isPoint, Cond.code yX0_isPoint cX0_isPoint 2 (some .boolean), Cond.fieldLink RX0 59 "PartsFlow" "pointCount" "I", Cond.methodLink RX0 101 yX0_isVariable, Cond.instanceMethod yX0_isVariable, Cond.selects RX0 yX0_isVariable yX0_isVariable, Cond.code yX0_isVariable cX0_isVariable 2 (some .boolean), Cond.fieldLink RX0 51 "PartsFlow" "variableCount" "I", Cond.methodLink RX0 77 yX0_solve, Cond.instanceMethod yX0_solve, Cond.selects RX0 yX0_solve yX0_solve, Cond.code yX0_solve cX0_solve 3 none, Cond.fieldLink RX0 55 "PartsFlow" "solved" "Z", Cond.constant RX0 128 (46200), Cond.fieldLink RX0 129 "PartsFlow" "waitingCount" "I", Cond.fieldLink RX0 29 "PartsFlow" "pointNextX" "[I", Cond.fieldLink RX0 32 "PartsFlow" "pointNextY" "[I"]
def wsX0_without_r2 : List Cond := [Cond.methodLink RX0 122 yX0_forgetFlow, Cond.instanceMethod yX0_forgetFlow, Cond.selects RX0 yX0_forgetFlow yX0_forgetFlow, Cond.code yX0_forgetFlow cX0_forgetFlow 2 none, Cond.fieldLink RX0 142 "PartsFlow" "waitingHead" "I", Cond.fieldLink RX0 35 "PartsFlow" "reached" "[Z", Cond.fieldLink RX0 48 "PartsFlow" "isWaiting" "[Z", Cond.fieldLink RX0 38 "PartsFlow" "ahead" "[J", Cond.methodLink RX0 125 yX0_beginWays, Cond.instanceMethod yX0_beginWays, Cond.selects RX0 yX0_beginWays yX0_beginWays, Cond.code yX0_beginWays cX0_beginWays 3 none, Cond.fieldLink RX0 42 "PartsFlow" "behind" "[J", Cond.fieldLink RX0 17 "PartsFlow" "variableGiven" "[Z", Cond.methodLink RX0 119 yX0_wordOf, Cond.static yX0_wordOf, Cond.code yX0_wordOf cX0_wordOf 1 (some .int), Cond.methodLink RX0 110 yX0_allParts, Cond.instanceMethod yX0_allParts, Cond.selects RX0 yX0_allParts yX0_allParts, Cond.code yX0_allParts cX0_allParts 2 (some .int), Cond.fieldLink RX0 9 "PartsFlow" "variableParts" "[I", Cond.methodLink RX0 107 yX0_lowBits, Cond.static yX0_lowBits]
def wsX0_without_r3 : List Cond := [Cond.code yX0_lowBits cX0_lowBits 1 (some .int), Cond.methodLink RX0 145 yX0_inWord, Cond.static yX0_inWord, Cond.code yX0_inWord cX0_inWord 2 (some .long), Cond.methodLink RX0 113 yX0_shiftOf, Cond.static yX0_shiftOf, Cond.code yX0_shiftOf cX0_shiftOf 1 (some .int), Cond.methodLink RX0 139 yX0_goOnTo, Cond.instanceMethod yX0_goOnTo, Cond.selects RX0 yX0_goOnTo yX0_goOnTo, Cond.code yX0_goOnTo cX0_goOnTo 7 none, Cond.methodLink RX0 151 yX0_addWaiting, Cond.instanceMethod yX0_addWaiting, Cond.selects RX0 yX0_addWaiting yX0_addWaiting, Cond.code yX0_addWaiting cX0_addWaiting 2 none, Cond.fieldLink RX0 45 "PartsFlow" "waiting" "[I", Cond.methodLink RX0 132 yX0_takeWaiting, Cond.instanceMethod yX0_takeWaiting, Cond.selects RX0 yX0_takeWaiting yX0_takeWaiting, Cond.code yX0_takeWaiting cX0_takeWaiting 2 (some .int), Cond.methodLink RX0 135 yX0_passThrough, Cond.instanceMethod yX0_passThrough, Cond.selects RX0 yX0_passThrough yX0_passThrough, Cond.code yX0_passThrough cX0_passThrough 10 none]
def wsX0_without_r4 : List Cond := [Cond.fieldLink RX0 20 "PartsFlow" "pointDoing" "[I", Cond.fieldLink RX0 23 "PartsFlow" "pointVariable" "[I", Cond.fieldLink RX0 26 "PartsFlow" "pointBits" "[I", Cond.constantLong RX0 149 (-1), Cond.methodLink RX0 116 yX0_solvedBits, Cond.instanceMethod yX0_solvedBits, Cond.selects RX0 yX0_solvedBits yX0_solvedBits, Cond.code yX0_solvedBits cX0_solvedBits 6 (some .int)]
def wsX0_without : List Cond := .code yX0_without cX0_without 3 (some .int) :: ((wsX0_without_r1 ++ (wsX0_without_r2 ++ (wsX0_without_r3 ++ wsX0_without_r4))) ++ wsX00)
def wsX0_having_r1 : List Cond := [Cond.methodLink RX0 80 yX0_bitsAhead, Cond.instanceMethod yX0_bitsAhead, Cond.selects RX0 yX0_bitsAhead yX0_bitsAhead, Cond.initialized RX0, Cond.code yX0_bitsAhead cX0_bitsAhead 4 (some .int), Cond.methodLink RX0 70 yX0_isPoint, Cond.instanceMethod yX0_isPoint, Cond.selects RX0 yX0_isPoint yX0_isPoint, Cond.code yX0_isPoint cX0_isPoint 2 (some .boolean), Cond.fieldLink RX0 59 "PartsFlow" "pointCount" "I", Cond.methodLink RX0 101 yX0_isVariable, Cond.instanceMethod yX0_isVariable, Cond.selects RX0 yX0_isVariable yX0_isVariable, Cond.code yX0_isVariable cX0_isVariable 2 (some .boolean), Cond.fieldLink RX0 51 "PartsFlow" "variableCount" "I", Cond.methodLink RX0 77 yX0_solve, Cond.instanceMethod yX0_solve, Cond.selects RX0 yX0_solve yX0_solve, Cond.code yX0_solve cX0_solve 3 none, Cond.fieldLink RX0 55 "PartsFlow" "solved" "Z", Cond.constant RX0 128 (46200), Cond.fieldLink RX0 129 "PartsFlow" "waitingCount" "I", Cond.fieldLink RX0 29 "PartsFlow" "pointNextX" "[I", Cond.fieldLink RX0 32 "PartsFlow" "pointNextY" "[I"]
def wsX0_having_r2 : List Cond := [Cond.methodLink RX0 122 yX0_forgetFlow, Cond.instanceMethod yX0_forgetFlow, Cond.selects RX0 yX0_forgetFlow yX0_forgetFlow, Cond.code yX0_forgetFlow cX0_forgetFlow 2 none, Cond.fieldLink RX0 142 "PartsFlow" "waitingHead" "I", Cond.fieldLink RX0 35 "PartsFlow" "reached" "[Z", Cond.fieldLink RX0 48 "PartsFlow" "isWaiting" "[Z", Cond.fieldLink RX0 38 "PartsFlow" "ahead" "[J", Cond.methodLink RX0 125 yX0_beginWays, Cond.instanceMethod yX0_beginWays, Cond.selects RX0 yX0_beginWays yX0_beginWays, Cond.code yX0_beginWays cX0_beginWays 3 none, Cond.fieldLink RX0 42 "PartsFlow" "behind" "[J", Cond.fieldLink RX0 17 "PartsFlow" "variableGiven" "[Z", Cond.methodLink RX0 119 yX0_wordOf, Cond.static yX0_wordOf, Cond.code yX0_wordOf cX0_wordOf 1 (some .int), Cond.methodLink RX0 110 yX0_allParts, Cond.instanceMethod yX0_allParts, Cond.selects RX0 yX0_allParts yX0_allParts, Cond.code yX0_allParts cX0_allParts 2 (some .int), Cond.fieldLink RX0 9 "PartsFlow" "variableParts" "[I", Cond.methodLink RX0 107 yX0_lowBits, Cond.static yX0_lowBits]
def wsX0_having_r3 : List Cond := [Cond.code yX0_lowBits cX0_lowBits 1 (some .int), Cond.methodLink RX0 145 yX0_inWord, Cond.static yX0_inWord, Cond.code yX0_inWord cX0_inWord 2 (some .long), Cond.methodLink RX0 113 yX0_shiftOf, Cond.static yX0_shiftOf, Cond.code yX0_shiftOf cX0_shiftOf 1 (some .int), Cond.methodLink RX0 139 yX0_goOnTo, Cond.instanceMethod yX0_goOnTo, Cond.selects RX0 yX0_goOnTo yX0_goOnTo, Cond.code yX0_goOnTo cX0_goOnTo 7 none, Cond.methodLink RX0 151 yX0_addWaiting, Cond.instanceMethod yX0_addWaiting, Cond.selects RX0 yX0_addWaiting yX0_addWaiting, Cond.code yX0_addWaiting cX0_addWaiting 2 none, Cond.fieldLink RX0 45 "PartsFlow" "waiting" "[I", Cond.methodLink RX0 132 yX0_takeWaiting, Cond.instanceMethod yX0_takeWaiting, Cond.selects RX0 yX0_takeWaiting yX0_takeWaiting, Cond.code yX0_takeWaiting cX0_takeWaiting 2 (some .int), Cond.methodLink RX0 135 yX0_passThrough, Cond.instanceMethod yX0_passThrough, Cond.selects RX0 yX0_passThrough yX0_passThrough, Cond.code yX0_passThrough cX0_passThrough 10 none]
def wsX0_having_r4 : List Cond := [Cond.fieldLink RX0 20 "PartsFlow" "pointDoing" "[I", Cond.fieldLink RX0 23 "PartsFlow" "pointVariable" "[I", Cond.fieldLink RX0 26 "PartsFlow" "pointBits" "[I", Cond.constantLong RX0 149 (-1), Cond.methodLink RX0 116 yX0_solvedBits, Cond.instanceMethod yX0_solvedBits, Cond.selects RX0 yX0_solvedBits yX0_solvedBits, Cond.code yX0_solvedBits cX0_solvedBits 6 (some .int)]
def wsX0_having : List Cond := .code yX0_having cX0_having 3 (some .int) :: ((wsX0_having_r1 ++ (wsX0_having_r2 ++ (wsX0_having_r3 ++ wsX0_having_r4))) ++ wsX00)
def wsX0_faultOfPoint_r1 : List Cond := [Cond.fieldLink RX0 35 "PartsFlow" "reached" "[Z", Cond.fieldLink RX0 20 "PartsFlow" "pointDoing" "[I", Cond.fieldLink RX0 23 "PartsFlow" "pointVariable" "[I", Cond.fieldLink RX0 26 "PartsFlow" "pointBits" "[I", Cond.fieldLink RX0 13 "PartsFlow" "variableOnce" "[Z", Cond.methodLink RX0 116 yX0_solvedBits, Cond.instanceMethod yX0_solvedBits, Cond.selects RX0 yX0_solvedBits yX0_solvedBits, Cond.initialized RX0, Cond.code yX0_solvedBits cX0_solvedBits 6 (some .int), Cond.fieldLink RX0 38 "PartsFlow" "ahead" "[J", Cond.methodLink RX0 119 yX0_wordOf, Cond.static yX0_wordOf, Cond.code yX0_wordOf cX0_wordOf 1 (some .int), Cond.methodLink RX0 113 yX0_shiftOf, Cond.static yX0_shiftOf, Cond.code yX0_shiftOf cX0_shiftOf 1 (some .int), Cond.methodLink RX0 107 yX0_lowBits, Cond.static yX0_lowBits, Cond.code yX0_lowBits cX0_lowBits 1 (some .int), Cond.methodLink RX0 110 yX0_allParts, Cond.instanceMethod yX0_allParts, Cond.selects RX0 yX0_allParts yX0_allParts, Cond.code yX0_allParts cX0_allParts 2 (some .int)]
def wsX0_faultOfPoint_r2 : List Cond := [Cond.fieldLink RX0 9 "PartsFlow" "variableParts" "[I"]
def wsX0_faultOfPoint : List Cond := .code yX0_faultOfPoint cX0_faultOfPoint 5 (some .int) :: ((wsX0_faultOfPoint_r1 ++ wsX0_faultOfPoint_r2) ++ wsX00)
def wsX0_fault_r1 : List Cond := [Cond.methodLink RX0 70 yX0_isPoint, Cond.instanceMethod yX0_isPoint, Cond.selects RX0 yX0_isPoint yX0_isPoint, Cond.initialized RX0, Cond.code yX0_isPoint cX0_isPoint 2 (some .boolean), Cond.fieldLink RX0 59 "PartsFlow" "pointCount" "I", Cond.methodLink RX0 77 yX0_solve, Cond.instanceMethod yX0_solve, Cond.selects RX0 yX0_solve yX0_solve, Cond.code yX0_solve cX0_solve 3 none, Cond.fieldLink RX0 55 "PartsFlow" "solved" "Z", Cond.constant RX0 128 (46200), Cond.fieldLink RX0 129 "PartsFlow" "waitingCount" "I", Cond.fieldLink RX0 29 "PartsFlow" "pointNextX" "[I", Cond.fieldLink RX0 32 "PartsFlow" "pointNextY" "[I", Cond.methodLink RX0 122 yX0_forgetFlow, Cond.instanceMethod yX0_forgetFlow, Cond.selects RX0 yX0_forgetFlow yX0_forgetFlow, Cond.code yX0_forgetFlow cX0_forgetFlow 2 none, Cond.fieldLink RX0 142 "PartsFlow" "waitingHead" "I", Cond.fieldLink RX0 35 "PartsFlow" "reached" "[Z", Cond.fieldLink RX0 48 "PartsFlow" "isWaiting" "[Z", Cond.fieldLink RX0 38 "PartsFlow" "ahead" "[J", Cond.methodLink RX0 125 yX0_beginWays]
def wsX0_fault_r2 : List Cond := [Cond.instanceMethod yX0_beginWays, Cond.selects RX0 yX0_beginWays yX0_beginWays, Cond.code yX0_beginWays cX0_beginWays 3 none, Cond.fieldLink RX0 42 "PartsFlow" "behind" "[J", Cond.fieldLink RX0 51 "PartsFlow" "variableCount" "I", Cond.fieldLink RX0 17 "PartsFlow" "variableGiven" "[Z", Cond.methodLink RX0 119 yX0_wordOf, Cond.static yX0_wordOf, Cond.code yX0_wordOf cX0_wordOf 1 (some .int), Cond.methodLink RX0 110 yX0_allParts, Cond.instanceMethod yX0_allParts, Cond.selects RX0 yX0_allParts yX0_allParts, Cond.code yX0_allParts cX0_allParts 2 (some .int), Cond.fieldLink RX0 9 "PartsFlow" "variableParts" "[I", Cond.methodLink RX0 107 yX0_lowBits, Cond.static yX0_lowBits, Cond.code yX0_lowBits cX0_lowBits 1 (some .int), Cond.methodLink RX0 145 yX0_inWord, Cond.static yX0_inWord, Cond.code yX0_inWord cX0_inWord 2 (some .long), Cond.methodLink RX0 113 yX0_shiftOf, Cond.static yX0_shiftOf, Cond.code yX0_shiftOf cX0_shiftOf 1 (some .int), Cond.methodLink RX0 139 yX0_goOnTo]
def wsX0_fault_r3 : List Cond := [Cond.instanceMethod yX0_goOnTo, Cond.selects RX0 yX0_goOnTo yX0_goOnTo, Cond.code yX0_goOnTo cX0_goOnTo 7 none, Cond.methodLink RX0 151 yX0_addWaiting, Cond.instanceMethod yX0_addWaiting, Cond.selects RX0 yX0_addWaiting yX0_addWaiting, Cond.code yX0_addWaiting cX0_addWaiting 2 none, Cond.fieldLink RX0 45 "PartsFlow" "waiting" "[I", Cond.methodLink RX0 132 yX0_takeWaiting, Cond.instanceMethod yX0_takeWaiting, Cond.selects RX0 yX0_takeWaiting yX0_takeWaiting, Cond.code yX0_takeWaiting cX0_takeWaiting 2 (some .int), Cond.methodLink RX0 135 yX0_passThrough, Cond.instanceMethod yX0_passThrough, Cond.selects RX0 yX0_passThrough yX0_passThrough, Cond.code yX0_passThrough cX0_passThrough 10 none, Cond.fieldLink RX0 20 "PartsFlow" "pointDoing" "[I", Cond.fieldLink RX0 23 "PartsFlow" "pointVariable" "[I", Cond.fieldLink RX0 26 "PartsFlow" "pointBits" "[I", Cond.constantLong RX0 149 (-1), Cond.methodLink RX0 84 yX0_faultOfPoint, Cond.instanceMethod yX0_faultOfPoint, Cond.selects RX0 yX0_faultOfPoint yX0_faultOfPoint, Cond.code yX0_faultOfPoint cX0_faultOfPoint 5 (some .int)]
def wsX0_fault_r4 : List Cond := [Cond.fieldLink RX0 13 "PartsFlow" "variableOnce" "[Z", Cond.methodLink RX0 116 yX0_solvedBits, Cond.instanceMethod yX0_solvedBits, Cond.selects RX0 yX0_solvedBits yX0_solvedBits, Cond.code yX0_solvedBits cX0_solvedBits 6 (some .int)]
def wsX0_fault : List Cond := .code yX0_fault cX0_fault 2 (some .int) :: ((wsX0_fault_r1 ++ (wsX0_fault_r2 ++ (wsX0_fault_r3 ++ wsX0_fault_r4))) ++ wsX00)
def wsX0_countReached_r1 : List Cond := [Cond.fieldLink RX0 59 "PartsFlow" "pointCount" "I", Cond.fieldLink RX0 35 "PartsFlow" "reached" "[Z", Cond.methodLink RX0 77 yX0_solve, Cond.instanceMethod yX0_solve, Cond.selects RX0 yX0_solve yX0_solve, Cond.initialized RX0, Cond.code yX0_solve cX0_solve 3 none, Cond.fieldLink RX0 55 "PartsFlow" "solved" "Z", Cond.constant RX0 128 (46200), Cond.fieldLink RX0 129 "PartsFlow" "waitingCount" "I", Cond.fieldLink RX0 29 "PartsFlow" "pointNextX" "[I", Cond.fieldLink RX0 32 "PartsFlow" "pointNextY" "[I", Cond.methodLink RX0 122 yX0_forgetFlow, Cond.instanceMethod yX0_forgetFlow, Cond.selects RX0 yX0_forgetFlow yX0_forgetFlow, Cond.code yX0_forgetFlow cX0_forgetFlow 2 none, Cond.fieldLink RX0 142 "PartsFlow" "waitingHead" "I", Cond.fieldLink RX0 48 "PartsFlow" "isWaiting" "[Z", Cond.fieldLink RX0 38 "PartsFlow" "ahead" "[J", Cond.methodLink RX0 125 yX0_beginWays, Cond.instanceMethod yX0_beginWays, Cond.selects RX0 yX0_beginWays yX0_beginWays, Cond.code yX0_beginWays cX0_beginWays 3 none, Cond.fieldLink RX0 42 "PartsFlow" "behind" "[J"]
def wsX0_countReached_r2 : List Cond := [Cond.fieldLink RX0 51 "PartsFlow" "variableCount" "I", Cond.fieldLink RX0 17 "PartsFlow" "variableGiven" "[Z", Cond.methodLink RX0 119 yX0_wordOf, Cond.static yX0_wordOf, Cond.code yX0_wordOf cX0_wordOf 1 (some .int), Cond.methodLink RX0 110 yX0_allParts, Cond.instanceMethod yX0_allParts, Cond.selects RX0 yX0_allParts yX0_allParts, Cond.code yX0_allParts cX0_allParts 2 (some .int), Cond.fieldLink RX0 9 "PartsFlow" "variableParts" "[I", Cond.methodLink RX0 107 yX0_lowBits, Cond.static yX0_lowBits, Cond.code yX0_lowBits cX0_lowBits 1 (some .int), Cond.methodLink RX0 145 yX0_inWord, Cond.static yX0_inWord, Cond.code yX0_inWord cX0_inWord 2 (some .long), Cond.methodLink RX0 113 yX0_shiftOf, Cond.static yX0_shiftOf, Cond.code yX0_shiftOf cX0_shiftOf 1 (some .int), Cond.methodLink RX0 139 yX0_goOnTo, Cond.instanceMethod yX0_goOnTo, Cond.selects RX0 yX0_goOnTo yX0_goOnTo, Cond.code yX0_goOnTo cX0_goOnTo 7 none, Cond.methodLink RX0 70 yX0_isPoint]
def wsX0_countReached_r3 : List Cond := [Cond.instanceMethod yX0_isPoint, Cond.selects RX0 yX0_isPoint yX0_isPoint, Cond.code yX0_isPoint cX0_isPoint 2 (some .boolean), Cond.methodLink RX0 151 yX0_addWaiting, Cond.instanceMethod yX0_addWaiting, Cond.selects RX0 yX0_addWaiting yX0_addWaiting, Cond.code yX0_addWaiting cX0_addWaiting 2 none, Cond.fieldLink RX0 45 "PartsFlow" "waiting" "[I", Cond.methodLink RX0 132 yX0_takeWaiting, Cond.instanceMethod yX0_takeWaiting, Cond.selects RX0 yX0_takeWaiting yX0_takeWaiting, Cond.code yX0_takeWaiting cX0_takeWaiting 2 (some .int), Cond.methodLink RX0 135 yX0_passThrough, Cond.instanceMethod yX0_passThrough, Cond.selects RX0 yX0_passThrough yX0_passThrough, Cond.code yX0_passThrough cX0_passThrough 10 none, Cond.fieldLink RX0 20 "PartsFlow" "pointDoing" "[I", Cond.fieldLink RX0 23 "PartsFlow" "pointVariable" "[I", Cond.fieldLink RX0 26 "PartsFlow" "pointBits" "[I", Cond.constantLong RX0 149 (-1)]
def wsX0_countReached : List Cond := .code yX0_countReached cX0_countReached 3 (some .int) :: ((wsX0_countReached_r1 ++ (wsX0_countReached_r2 ++ wsX0_countReached_r3)) ++ wsX00)
def wsX0_countFaults_r1 : List Cond := [Cond.fieldLink RX0 59 "PartsFlow" "pointCount" "I", Cond.methodLink RX0 77 yX0_solve, Cond.instanceMethod yX0_solve, Cond.selects RX0 yX0_solve yX0_solve, Cond.initialized RX0, Cond.code yX0_solve cX0_solve 3 none, Cond.fieldLink RX0 55 "PartsFlow" "solved" "Z", Cond.constant RX0 128 (46200), Cond.fieldLink RX0 129 "PartsFlow" "waitingCount" "I", Cond.fieldLink RX0 29 "PartsFlow" "pointNextX" "[I", Cond.fieldLink RX0 32 "PartsFlow" "pointNextY" "[I", Cond.methodLink RX0 122 yX0_forgetFlow, Cond.instanceMethod yX0_forgetFlow, Cond.selects RX0 yX0_forgetFlow yX0_forgetFlow, Cond.code yX0_forgetFlow cX0_forgetFlow 2 none, Cond.fieldLink RX0 142 "PartsFlow" "waitingHead" "I", Cond.fieldLink RX0 35 "PartsFlow" "reached" "[Z", Cond.fieldLink RX0 48 "PartsFlow" "isWaiting" "[Z", Cond.fieldLink RX0 38 "PartsFlow" "ahead" "[J", Cond.methodLink RX0 125 yX0_beginWays, Cond.instanceMethod yX0_beginWays, Cond.selects RX0 yX0_beginWays yX0_beginWays, Cond.code yX0_beginWays cX0_beginWays 3 none, Cond.fieldLink RX0 42 "PartsFlow" "behind" "[J"]
def wsX0_countFaults_r2 : List Cond := [Cond.fieldLink RX0 51 "PartsFlow" "variableCount" "I", Cond.fieldLink RX0 17 "PartsFlow" "variableGiven" "[Z", Cond.methodLink RX0 119 yX0_wordOf, Cond.static yX0_wordOf, Cond.code yX0_wordOf cX0_wordOf 1 (some .int), Cond.methodLink RX0 110 yX0_allParts, Cond.instanceMethod yX0_allParts, Cond.selects RX0 yX0_allParts yX0_allParts, Cond.code yX0_allParts cX0_allParts 2 (some .int), Cond.fieldLink RX0 9 "PartsFlow" "variableParts" "[I", Cond.methodLink RX0 107 yX0_lowBits, Cond.static yX0_lowBits, Cond.code yX0_lowBits cX0_lowBits 1 (some .int), Cond.methodLink RX0 145 yX0_inWord, Cond.static yX0_inWord, Cond.code yX0_inWord cX0_inWord 2 (some .long), Cond.methodLink RX0 113 yX0_shiftOf, Cond.static yX0_shiftOf, Cond.code yX0_shiftOf cX0_shiftOf 1 (some .int), Cond.methodLink RX0 139 yX0_goOnTo, Cond.instanceMethod yX0_goOnTo, Cond.selects RX0 yX0_goOnTo yX0_goOnTo, Cond.code yX0_goOnTo cX0_goOnTo 7 none, Cond.methodLink RX0 70 yX0_isPoint]
def wsX0_countFaults_r3 : List Cond := [Cond.instanceMethod yX0_isPoint, Cond.selects RX0 yX0_isPoint yX0_isPoint, Cond.code yX0_isPoint cX0_isPoint 2 (some .boolean), Cond.methodLink RX0 151 yX0_addWaiting, Cond.instanceMethod yX0_addWaiting, Cond.selects RX0 yX0_addWaiting yX0_addWaiting, Cond.code yX0_addWaiting cX0_addWaiting 2 none, Cond.fieldLink RX0 45 "PartsFlow" "waiting" "[I", Cond.methodLink RX0 132 yX0_takeWaiting, Cond.instanceMethod yX0_takeWaiting, Cond.selects RX0 yX0_takeWaiting yX0_takeWaiting, Cond.code yX0_takeWaiting cX0_takeWaiting 2 (some .int), Cond.methodLink RX0 135 yX0_passThrough, Cond.instanceMethod yX0_passThrough, Cond.selects RX0 yX0_passThrough yX0_passThrough, Cond.code yX0_passThrough cX0_passThrough 10 none, Cond.fieldLink RX0 20 "PartsFlow" "pointDoing" "[I", Cond.fieldLink RX0 23 "PartsFlow" "pointVariable" "[I", Cond.fieldLink RX0 26 "PartsFlow" "pointBits" "[I", Cond.constantLong RX0 149 (-1), Cond.methodLink RX0 84 yX0_faultOfPoint, Cond.instanceMethod yX0_faultOfPoint, Cond.selects RX0 yX0_faultOfPoint yX0_faultOfPoint, Cond.code yX0_faultOfPoint cX0_faultOfPoint 5 (some .int)]
def wsX0_countFaults_r4 : List Cond := [Cond.fieldLink RX0 13 "PartsFlow" "variableOnce" "[Z", Cond.methodLink RX0 116 yX0_solvedBits, Cond.instanceMethod yX0_solvedBits, Cond.selects RX0 yX0_solvedBits yX0_solvedBits, Cond.code yX0_solvedBits cX0_solvedBits 6 (some .int)]
def wsX0_countFaults : List Cond := .code yX0_countFaults cX0_countFaults 3 (some .int) :: ((wsX0_countFaults_r1 ++ (wsX0_countFaults_r2 ++ (wsX0_countFaults_r3 ++ wsX0_countFaults_r4))) ++ wsX00)
def wsX0_firstFault_r1 : List Cond := [Cond.fieldLink RX0 59 "PartsFlow" "pointCount" "I", Cond.methodLink RX0 77 yX0_solve, Cond.instanceMethod yX0_solve, Cond.selects RX0 yX0_solve yX0_solve, Cond.initialized RX0, Cond.code yX0_solve cX0_solve 3 none, Cond.fieldLink RX0 55 "PartsFlow" "solved" "Z", Cond.constant RX0 128 (46200), Cond.fieldLink RX0 129 "PartsFlow" "waitingCount" "I", Cond.fieldLink RX0 29 "PartsFlow" "pointNextX" "[I", Cond.fieldLink RX0 32 "PartsFlow" "pointNextY" "[I", Cond.methodLink RX0 122 yX0_forgetFlow, Cond.instanceMethod yX0_forgetFlow, Cond.selects RX0 yX0_forgetFlow yX0_forgetFlow, Cond.code yX0_forgetFlow cX0_forgetFlow 2 none, Cond.fieldLink RX0 142 "PartsFlow" "waitingHead" "I", Cond.fieldLink RX0 35 "PartsFlow" "reached" "[Z", Cond.fieldLink RX0 48 "PartsFlow" "isWaiting" "[Z", Cond.fieldLink RX0 38 "PartsFlow" "ahead" "[J", Cond.methodLink RX0 125 yX0_beginWays, Cond.instanceMethod yX0_beginWays, Cond.selects RX0 yX0_beginWays yX0_beginWays, Cond.code yX0_beginWays cX0_beginWays 3 none, Cond.fieldLink RX0 42 "PartsFlow" "behind" "[J"]
def wsX0_firstFault_r2 : List Cond := [Cond.fieldLink RX0 51 "PartsFlow" "variableCount" "I", Cond.fieldLink RX0 17 "PartsFlow" "variableGiven" "[Z", Cond.methodLink RX0 119 yX0_wordOf, Cond.static yX0_wordOf, Cond.code yX0_wordOf cX0_wordOf 1 (some .int), Cond.methodLink RX0 110 yX0_allParts, Cond.instanceMethod yX0_allParts, Cond.selects RX0 yX0_allParts yX0_allParts, Cond.code yX0_allParts cX0_allParts 2 (some .int), Cond.fieldLink RX0 9 "PartsFlow" "variableParts" "[I", Cond.methodLink RX0 107 yX0_lowBits, Cond.static yX0_lowBits, Cond.code yX0_lowBits cX0_lowBits 1 (some .int), Cond.methodLink RX0 145 yX0_inWord, Cond.static yX0_inWord, Cond.code yX0_inWord cX0_inWord 2 (some .long), Cond.methodLink RX0 113 yX0_shiftOf, Cond.static yX0_shiftOf, Cond.code yX0_shiftOf cX0_shiftOf 1 (some .int), Cond.methodLink RX0 139 yX0_goOnTo, Cond.instanceMethod yX0_goOnTo, Cond.selects RX0 yX0_goOnTo yX0_goOnTo, Cond.code yX0_goOnTo cX0_goOnTo 7 none, Cond.methodLink RX0 70 yX0_isPoint]
def wsX0_firstFault_r3 : List Cond := [Cond.instanceMethod yX0_isPoint, Cond.selects RX0 yX0_isPoint yX0_isPoint, Cond.code yX0_isPoint cX0_isPoint 2 (some .boolean), Cond.methodLink RX0 151 yX0_addWaiting, Cond.instanceMethod yX0_addWaiting, Cond.selects RX0 yX0_addWaiting yX0_addWaiting, Cond.code yX0_addWaiting cX0_addWaiting 2 none, Cond.fieldLink RX0 45 "PartsFlow" "waiting" "[I", Cond.methodLink RX0 132 yX0_takeWaiting, Cond.instanceMethod yX0_takeWaiting, Cond.selects RX0 yX0_takeWaiting yX0_takeWaiting, Cond.code yX0_takeWaiting cX0_takeWaiting 2 (some .int), Cond.methodLink RX0 135 yX0_passThrough, Cond.instanceMethod yX0_passThrough, Cond.selects RX0 yX0_passThrough yX0_passThrough, Cond.code yX0_passThrough cX0_passThrough 10 none, Cond.fieldLink RX0 20 "PartsFlow" "pointDoing" "[I", Cond.fieldLink RX0 23 "PartsFlow" "pointVariable" "[I", Cond.fieldLink RX0 26 "PartsFlow" "pointBits" "[I", Cond.constantLong RX0 149 (-1), Cond.methodLink RX0 84 yX0_faultOfPoint, Cond.instanceMethod yX0_faultOfPoint, Cond.selects RX0 yX0_faultOfPoint yX0_faultOfPoint, Cond.code yX0_faultOfPoint cX0_faultOfPoint 5 (some .int)]
def wsX0_firstFault_r4 : List Cond := [Cond.fieldLink RX0 13 "PartsFlow" "variableOnce" "[Z", Cond.methodLink RX0 116 yX0_solvedBits, Cond.instanceMethod yX0_solvedBits, Cond.selects RX0 yX0_solvedBits yX0_solvedBits, Cond.code yX0_solvedBits cX0_solvedBits 6 (some .int)]
def wsX0_firstFault : List Cond := .code yX0_firstFault cX0_firstFault 2 (some .int) :: ((wsX0_firstFault_r1 ++ (wsX0_firstFault_r2 ++ (wsX0_firstFault_r3 ++ wsX0_firstFault_r4))) ++ wsX00)
def wsX0_countParts : List Cond := .code yX0_countParts cX0_countParts 3 (some .int) :: ([.fieldLink RX0 51 "PartsFlow" "variableCount" "I", .fieldLink RX0 9 "PartsFlow" "variableParts" "[I"] ++ wsX00)
def wsX0_count_r1 : List Cond := [Cond.fieldLink RX0 59 "PartsFlow" "pointCount" "I", Cond.fieldLink RX0 51 "PartsFlow" "variableCount" "I", Cond.methodLink RX0 88 yX0_countReached, Cond.instanceMethod yX0_countReached, Cond.selects RX0 yX0_countReached yX0_countReached, Cond.initialized RX0, Cond.code yX0_countReached cX0_countReached 3 (some .int), Cond.fieldLink RX0 35 "PartsFlow" "reached" "[Z", Cond.methodLink RX0 77 yX0_solve, Cond.instanceMethod yX0_solve, Cond.selects RX0 yX0_solve yX0_solve, Cond.code yX0_solve cX0_solve 3 none, Cond.fieldLink RX0 55 "PartsFlow" "solved" "Z", Cond.constant RX0 128 (46200), Cond.fieldLink RX0 129 "PartsFlow" "waitingCount" "I", Cond.fieldLink RX0 29 "PartsFlow" "pointNextX" "[I", Cond.fieldLink RX0 32 "PartsFlow" "pointNextY" "[I", Cond.methodLink RX0 122 yX0_forgetFlow, Cond.instanceMethod yX0_forgetFlow, Cond.selects RX0 yX0_forgetFlow yX0_forgetFlow, Cond.code yX0_forgetFlow cX0_forgetFlow 2 none, Cond.fieldLink RX0 142 "PartsFlow" "waitingHead" "I", Cond.fieldLink RX0 48 "PartsFlow" "isWaiting" "[Z", Cond.fieldLink RX0 38 "PartsFlow" "ahead" "[J"]
def wsX0_count_r2 : List Cond := [Cond.methodLink RX0 125 yX0_beginWays, Cond.instanceMethod yX0_beginWays, Cond.selects RX0 yX0_beginWays yX0_beginWays, Cond.code yX0_beginWays cX0_beginWays 3 none, Cond.fieldLink RX0 42 "PartsFlow" "behind" "[J", Cond.fieldLink RX0 17 "PartsFlow" "variableGiven" "[Z", Cond.methodLink RX0 119 yX0_wordOf, Cond.static yX0_wordOf, Cond.code yX0_wordOf cX0_wordOf 1 (some .int), Cond.methodLink RX0 110 yX0_allParts, Cond.instanceMethod yX0_allParts, Cond.selects RX0 yX0_allParts yX0_allParts, Cond.code yX0_allParts cX0_allParts 2 (some .int), Cond.fieldLink RX0 9 "PartsFlow" "variableParts" "[I", Cond.methodLink RX0 107 yX0_lowBits, Cond.static yX0_lowBits, Cond.code yX0_lowBits cX0_lowBits 1 (some .int), Cond.methodLink RX0 145 yX0_inWord, Cond.static yX0_inWord, Cond.code yX0_inWord cX0_inWord 2 (some .long), Cond.methodLink RX0 113 yX0_shiftOf, Cond.static yX0_shiftOf, Cond.code yX0_shiftOf cX0_shiftOf 1 (some .int), Cond.methodLink RX0 139 yX0_goOnTo]
def wsX0_count_r3 : List Cond := [Cond.instanceMethod yX0_goOnTo, Cond.selects RX0 yX0_goOnTo yX0_goOnTo, Cond.code yX0_goOnTo cX0_goOnTo 7 none, Cond.methodLink RX0 70 yX0_isPoint, Cond.instanceMethod yX0_isPoint, Cond.selects RX0 yX0_isPoint yX0_isPoint, Cond.code yX0_isPoint cX0_isPoint 2 (some .boolean), Cond.methodLink RX0 151 yX0_addWaiting, Cond.instanceMethod yX0_addWaiting, Cond.selects RX0 yX0_addWaiting yX0_addWaiting, Cond.code yX0_addWaiting cX0_addWaiting 2 none, Cond.fieldLink RX0 45 "PartsFlow" "waiting" "[I", Cond.methodLink RX0 132 yX0_takeWaiting, Cond.instanceMethod yX0_takeWaiting, Cond.selects RX0 yX0_takeWaiting yX0_takeWaiting, Cond.code yX0_takeWaiting cX0_takeWaiting 2 (some .int), Cond.methodLink RX0 135 yX0_passThrough, Cond.instanceMethod yX0_passThrough, Cond.selects RX0 yX0_passThrough yX0_passThrough, Cond.code yX0_passThrough cX0_passThrough 10 none, Cond.fieldLink RX0 20 "PartsFlow" "pointDoing" "[I", Cond.fieldLink RX0 23 "PartsFlow" "pointVariable" "[I", Cond.fieldLink RX0 26 "PartsFlow" "pointBits" "[I", Cond.constantLong RX0 149 (-1)]
def wsX0_count_r4 : List Cond := [Cond.methodLink RX0 92 yX0_countFaults, Cond.instanceMethod yX0_countFaults, Cond.selects RX0 yX0_countFaults yX0_countFaults, Cond.code yX0_countFaults cX0_countFaults 3 (some .int), Cond.methodLink RX0 84 yX0_faultOfPoint, Cond.instanceMethod yX0_faultOfPoint, Cond.selects RX0 yX0_faultOfPoint yX0_faultOfPoint, Cond.code yX0_faultOfPoint cX0_faultOfPoint 5 (some .int), Cond.fieldLink RX0 13 "PartsFlow" "variableOnce" "[Z", Cond.methodLink RX0 116 yX0_solvedBits, Cond.instanceMethod yX0_solvedBits, Cond.selects RX0 yX0_solvedBits yX0_solvedBits, Cond.code yX0_solvedBits cX0_solvedBits 6 (some .int), Cond.methodLink RX0 95 yX0_firstFault, Cond.instanceMethod yX0_firstFault, Cond.selects RX0 yX0_firstFault yX0_firstFault, Cond.code yX0_firstFault cX0_firstFault 2 (some .int), Cond.methodLink RX0 98 yX0_countParts, Cond.instanceMethod yX0_countParts, Cond.selects RX0 yX0_countParts yX0_countParts, Cond.code yX0_countParts cX0_countParts 3 (some .int)]
def wsX0_count : List Cond := .code yX0_count cX0_count 2 (some .int) :: ((wsX0_count_r1 ++ (wsX0_count_r2 ++ (wsX0_count_r3 ++ wsX0_count_r4))) ++ wsX00)
def wsX0_clear : List Cond := .code yX0_clear cX0_clear 2 (some .int) :: ([.fieldLink RX0 59 "PartsFlow" "pointCount" "I", .fieldLink RX0 55 "PartsFlow" "solved" "Z"] ++ wsX00)
theorem dX0_init_0 : decode cX0_init 0 = .ok (.aload_n 0, 1) := by decide +kernel
theorem dX0_init_1 : decode cX0_init 1 = .ok (.invokespecial 3, 3) := by decide +kernel
theorem dX0_init_4 : decode cX0_init 4 = .ok (.aload_n 0, 1) := by decide +kernel
theorem dX0_init_5 : decode cX0_init 5 = .ok (.bipush 20, 2) := by decide +kernel
theorem dX0_init_7 : decode cX0_init 7 = .ok (.newarray .int, 2) := by decide +kernel
theorem dX0_init_9 : decode cX0_init 9 = .ok (.putfield 9, 3) := by decide +kernel
theorem dX0_init_12 : decode cX0_init 12 = .ok (.aload_n 0, 1) := by decide +kernel
theorem dX0_init_13 : decode cX0_init 13 = .ok (.bipush 20, 2) := by decide +kernel
theorem dX0_init_15 : decode cX0_init 15 = .ok (.newarray .boolean, 2) := by decide +kernel
theorem dX0_init_17 : decode cX0_init 17 = .ok (.putfield 13, 3) := by decide +kernel
theorem dX0_init_20 : decode cX0_init 20 = .ok (.aload_n 0, 1) := by decide +kernel
theorem dX0_init_21 : decode cX0_init 21 = .ok (.bipush 20, 2) := by decide +kernel
theorem dX0_init_23 : decode cX0_init 23 = .ok (.newarray .boolean, 2) := by decide +kernel
theorem dX0_init_25 : decode cX0_init 25 = .ok (.putfield 17, 3) := by decide +kernel
theorem dX0_init_28 : decode cX0_init 28 = .ok (.aload_n 0, 1) := by decide +kernel
theorem dX0_init_29 : decode cX0_init 29 = .ok (.bipush 120, 2) := by decide +kernel
theorem dX0_init_31 : decode cX0_init 31 = .ok (.newarray .int, 2) := by decide +kernel
theorem dX0_init_33 : decode cX0_init 33 = .ok (.putfield 20, 3) := by decide +kernel
theorem dX0_init_36 : decode cX0_init 36 = .ok (.aload_n 0, 1) := by decide +kernel
theorem dX0_init_37 : decode cX0_init 37 = .ok (.bipush 120, 2) := by decide +kernel
theorem dX0_init_39 : decode cX0_init 39 = .ok (.newarray .int, 2) := by decide +kernel
theorem dX0_init_41 : decode cX0_init 41 = .ok (.putfield 23, 3) := by decide +kernel
theorem dX0_init_44 : decode cX0_init 44 = .ok (.aload_n 0, 1) := by decide +kernel
theorem dX0_init_45 : decode cX0_init 45 = .ok (.bipush 120, 2) := by decide +kernel
theorem dX0_init_47 : decode cX0_init 47 = .ok (.newarray .int, 2) := by decide +kernel
theorem dX0_init_49 : decode cX0_init 49 = .ok (.putfield 26, 3) := by decide +kernel
theorem dX0_init_52 : decode cX0_init 52 = .ok (.aload_n 0, 1) := by decide +kernel
theorem dX0_init_53 : decode cX0_init 53 = .ok (.bipush 120, 2) := by decide +kernel
theorem dX0_init_55 : decode cX0_init 55 = .ok (.newarray .int, 2) := by decide +kernel
theorem dX0_init_57 : decode cX0_init 57 = .ok (.putfield 29, 3) := by decide +kernel
theorem dX0_init_60 : decode cX0_init 60 = .ok (.aload_n 0, 1) := by decide +kernel
theorem dX0_init_61 : decode cX0_init 61 = .ok (.bipush 120, 2) := by decide +kernel
theorem dX0_init_63 : decode cX0_init 63 = .ok (.newarray .int, 2) := by decide +kernel
theorem dX0_init_65 : decode cX0_init 65 = .ok (.putfield 32, 3) := by decide +kernel
theorem dX0_init_68 : decode cX0_init 68 = .ok (.aload_n 0, 1) := by decide +kernel
theorem dX0_init_69 : decode cX0_init 69 = .ok (.bipush 120, 2) := by decide +kernel
theorem dX0_init_71 : decode cX0_init 71 = .ok (.newarray .boolean, 2) := by decide +kernel
theorem dX0_init_73 : decode cX0_init 73 = .ok (.putfield 35, 3) := by decide +kernel
theorem dX0_init_76 : decode cX0_init 76 = .ok (.aload_n 0, 1) := by decide +kernel
theorem dX0_init_77 : decode cX0_init 77 = .ok (.sipush 720, 3) := by decide +kernel
theorem dX0_init_80 : decode cX0_init 80 = .ok (.newarray .long, 2) := by decide +kernel
theorem dX0_init_82 : decode cX0_init 82 = .ok (.putfield 38, 3) := by decide +kernel
theorem dX0_init_85 : decode cX0_init 85 = .ok (.aload_n 0, 1) := by decide +kernel
theorem dX0_init_86 : decode cX0_init 86 = .ok (.bipush 6, 2) := by decide +kernel
theorem dX0_init_88 : decode cX0_init 88 = .ok (.newarray .long, 2) := by decide +kernel
theorem dX0_init_90 : decode cX0_init 90 = .ok (.putfield 42, 3) := by decide +kernel
theorem dX0_init_93 : decode cX0_init 93 = .ok (.aload_n 0, 1) := by decide +kernel
theorem dX0_init_94 : decode cX0_init 94 = .ok (.bipush 120, 2) := by decide +kernel
theorem dX0_init_96 : decode cX0_init 96 = .ok (.newarray .int, 2) := by decide +kernel
theorem dX0_init_98 : decode cX0_init 98 = .ok (.putfield 45, 3) := by decide +kernel
theorem dX0_init_101 : decode cX0_init 101 = .ok (.aload_n 0, 1) := by decide +kernel
theorem dX0_init_102 : decode cX0_init 102 = .ok (.bipush 120, 2) := by decide +kernel
theorem dX0_init_104 : decode cX0_init 104 = .ok (.newarray .boolean, 2) := by decide +kernel
theorem dX0_init_106 : decode cX0_init 106 = .ok (.putfield 48, 3) := by decide +kernel
theorem dX0_init_109 : decode cX0_init 109 = .ok (.return_, 1) := by decide +kernel
theorem dX0_variable_0 : decode cX0_variable 0 = .ok (.iload_n 1, 1) := by decide +kernel
theorem dX0_variable_1 : decode cX0_variable 1 = .ok (.iconst 1, 1) := by decide +kernel
theorem dX0_variable_2 : decode cX0_variable 2 = .ok (.if_icmp .lt 18, 3) := by decide +kernel
theorem dX0_variable_5 : decode cX0_variable 5 = .ok (.iload_n 1, 1) := by decide +kernel
theorem dX0_variable_6 : decode cX0_variable 6 = .ok (.bipush 8, 2) := by decide +kernel
theorem dX0_variable_8 : decode cX0_variable 8 = .ok (.if_icmp .gt 12, 3) := by decide +kernel
theorem dX0_variable_11 : decode cX0_variable 11 = .ok (.aload_n 0, 1) := by decide +kernel
theorem dX0_variable_12 : decode cX0_variable 12 = .ok (.getfield 51, 3) := by decide +kernel
theorem dX0_variable_15 : decode cX0_variable 15 = .ok (.bipush 20, 2) := by decide +kernel
theorem dX0_variable_17 : decode cX0_variable 17 = .ok (.if_icmp .lt 5, 3) := by decide +kernel
theorem dX0_variable_20 : decode cX0_variable 20 = .ok (.iconst (-1), 1) := by decide +kernel
theorem dX0_variable_21 : decode cX0_variable 21 = .ok (.ireturn, 1) := by decide +kernel
theorem dX0_variable_22 : decode cX0_variable 22 = .ok (.aload_n 0, 1) := by decide +kernel
theorem dX0_variable_23 : decode cX0_variable 23 = .ok (.getfield 51, 3) := by decide +kernel
theorem dX0_variable_26 : decode cX0_variable 26 = .ok (.istore 4, 2) := by decide +kernel
theorem dX0_variable_28 : decode cX0_variable 28 = .ok (.aload_n 0, 1) := by decide +kernel
theorem dX0_variable_29 : decode cX0_variable 29 = .ok (.getfield 9, 3) := by decide +kernel
theorem dX0_variable_32 : decode cX0_variable 32 = .ok (.iload 4, 2) := by decide +kernel
theorem dX0_variable_34 : decode cX0_variable 34 = .ok (.iload_n 1, 1) := by decide +kernel
theorem dX0_variable_35 : decode cX0_variable 35 = .ok (.iastore, 1) := by decide +kernel
theorem dX0_variable_36 : decode cX0_variable 36 = .ok (.aload_n 0, 1) := by decide +kernel
theorem dX0_variable_37 : decode cX0_variable 37 = .ok (.getfield 13, 3) := by decide +kernel
theorem dX0_variable_40 : decode cX0_variable 40 = .ok (.iload 4, 2) := by decide +kernel
theorem dX0_variable_42 : decode cX0_variable 42 = .ok (.iload_n 2, 1) := by decide +kernel
theorem dX0_variable_43 : decode cX0_variable 43 = .ok (.bastore, 1) := by decide +kernel
theorem dX0_variable_44 : decode cX0_variable 44 = .ok (.aload_n 0, 1) := by decide +kernel
theorem dX0_variable_45 : decode cX0_variable 45 = .ok (.getfield 17, 3) := by decide +kernel
theorem dX0_variable_48 : decode cX0_variable 48 = .ok (.iload 4, 2) := by decide +kernel
theorem dX0_variable_50 : decode cX0_variable 50 = .ok (.iload_n 3, 1) := by decide +kernel
theorem dX0_variable_51 : decode cX0_variable 51 = .ok (.bastore, 1) := by decide +kernel
theorem dX0_variable_52 : decode cX0_variable 52 = .ok (.aload_n 0, 1) := by decide +kernel
theorem dX0_variable_53 : decode cX0_variable 53 = .ok (.iload 4, 2) := by decide +kernel
theorem dX0_variable_55 : decode cX0_variable 55 = .ok (.iconst 1, 1) := by decide +kernel
theorem dX0_variable_56 : decode cX0_variable 56 = .ok (.iadd, 1) := by decide +kernel
theorem dX0_variable_57 : decode cX0_variable 57 = .ok (.putfield 51, 3) := by decide +kernel
theorem dX0_variable_60 : decode cX0_variable 60 = .ok (.aload_n 0, 1) := by decide +kernel
theorem dX0_variable_61 : decode cX0_variable 61 = .ok (.iconst 0, 1) := by decide +kernel
theorem dX0_variable_62 : decode cX0_variable 62 = .ok (.putfield 55, 3) := by decide +kernel
theorem dX0_variable_65 : decode cX0_variable 65 = .ok (.iload 4, 2) := by decide +kernel
theorem dX0_variable_67 : decode cX0_variable 67 = .ok (.ireturn, 1) := by decide +kernel
set_option maxRecDepth 20000 in
theorem ggX0_point_X0_isDoing : GoodIn wsX0_point wsX0_isDoing := goodIn_r _ [12, 13, 14, 15, 16, 11, 17, 18, 19, 20, 21, 33, 34, 35, 36, 37, 38, 39, 40, 41, 42, 43, 44, 45, 46, 47, 48, 49, 50] (by decide +kernel) (by decide +kernel)
set_option maxRecDepth 20000 in
theorem gX0_point_X0_isDoing : GoodIn wsX0_point (wsV RX0 62 RX0 yX0_isDoing wsX0_isDoing) := goodIn_app (goodIn_of _ (by decide +kernel)) ggX0_point_X0_isDoing
set_option maxRecDepth 20000 in
theorem ggX0_point_X0_bitsOfDoing : GoodIn wsX0_point wsX0_bitsOfDoing := goodIn_r _ [25, 19, 20, 11, 21, 26, 27, 28, 29, 30, 31, 32, 13, 33, 34, 35, 36, 37, 38, 39, 40, 41, 42, 43, 44, 45, 46, 47, 48, 49, 50] (by decide +kernel) (by decide +kernel)
set_option maxRecDepth 20000 in
theorem gX0_point_X0_bitsOfDoing : GoodIn wsX0_point (wsV RX0 66 RX0 yX0_bitsOfDoing wsX0_bitsOfDoing) := goodIn_app (goodIn_of _ (by decide +kernel)) ggX0_point_X0_bitsOfDoing
theorem dX0_point_0 : decode cX0_point 0 = .ok (.aload_n 0, 1) := by decide +kernel
theorem dX0_point_1 : decode cX0_point 1 = .ok (.getfield 59, 3) := by decide +kernel
theorem dX0_point_4 : decode cX0_point 4 = .ok (.bipush 120, 2) := by decide +kernel
theorem dX0_point_6 : decode cX0_point 6 = .ok (.if_icmp .ge 15, 3) := by decide +kernel
theorem dX0_point_9 : decode cX0_point 9 = .ok (.aload_n 0, 1) := by decide +kernel
theorem dX0_point_10 : decode cX0_point 10 = .ok (.iload_n 1, 1) := by decide +kernel
theorem dX0_point_11 : decode cX0_point 11 = .ok (.iload_n 2, 1) := by decide +kernel
theorem dX0_point_12 : decode cX0_point 12 = .ok (.iload_n 3, 1) := by decide +kernel
theorem dX0_point_13 : decode cX0_point 13 = .ok (.iload 4, 2) := by decide +kernel
theorem dX0_point_15 : decode cX0_point 15 = .ok (.invokevirtual 62, 3) := by decide +kernel
theorem dX0_point_18 : decode cX0_point 18 = .ok (.ifCond .ne 5, 3) := by decide +kernel
theorem dX0_point_21 : decode cX0_point 21 = .ok (.iconst (-1), 1) := by decide +kernel
theorem dX0_point_22 : decode cX0_point 22 = .ok (.ireturn, 1) := by decide +kernel
theorem dX0_point_23 : decode cX0_point 23 = .ok (.aload_n 0, 1) := by decide +kernel
theorem dX0_point_24 : decode cX0_point 24 = .ok (.getfield 59, 3) := by decide +kernel
theorem dX0_point_27 : decode cX0_point 27 = .ok (.istore 5, 2) := by decide +kernel
theorem dX0_point_29 : decode cX0_point 29 = .ok (.aload_n 0, 1) := by decide +kernel
theorem dX0_point_30 : decode cX0_point 30 = .ok (.getfield 20, 3) := by decide +kernel
theorem dX0_point_33 : decode cX0_point 33 = .ok (.iload 5, 2) := by decide +kernel
theorem dX0_point_35 : decode cX0_point 35 = .ok (.iload_n 1, 1) := by decide +kernel
theorem dX0_point_36 : decode cX0_point 36 = .ok (.iastore, 1) := by decide +kernel
theorem dX0_point_37 : decode cX0_point 37 = .ok (.aload_n 0, 1) := by decide +kernel
theorem dX0_point_38 : decode cX0_point 38 = .ok (.getfield 23, 3) := by decide +kernel
theorem dX0_point_41 : decode cX0_point 41 = .ok (.iload 5, 2) := by decide +kernel
theorem dX0_point_43 : decode cX0_point 43 = .ok (.iload_n 1, 1) := by decide +kernel
theorem dX0_point_44 : decode cX0_point 44 = .ok (.ifCond .ne 7, 3) := by decide +kernel
theorem dX0_point_47 : decode cX0_point 47 = .ok (.iconst 0, 1) := by decide +kernel
theorem dX0_point_48 : decode cX0_point 48 = .ok (.goto 4, 3) := by decide +kernel
theorem dX0_point_51 : decode cX0_point 51 = .ok (.iload_n 2, 1) := by decide +kernel
theorem dX0_point_52 : decode cX0_point 52 = .ok (.iastore, 1) := by decide +kernel
theorem dX0_point_53 : decode cX0_point 53 = .ok (.aload_n 0, 1) := by decide +kernel
theorem dX0_point_54 : decode cX0_point 54 = .ok (.getfield 26, 3) := by decide +kernel
theorem dX0_point_57 : decode cX0_point 57 = .ok (.iload 5, 2) := by decide +kernel
theorem dX0_point_59 : decode cX0_point 59 = .ok (.aload_n 0, 1) := by decide +kernel
theorem dX0_point_60 : decode cX0_point 60 = .ok (.iload_n 1, 1) := by decide +kernel
theorem dX0_point_61 : decode cX0_point 61 = .ok (.iload_n 2, 1) := by decide +kernel
theorem dX0_point_62 : decode cX0_point 62 = .ok (.iload_n 3, 1) := by decide +kernel
theorem dX0_point_63 : decode cX0_point 63 = .ok (.iload 4, 2) := by decide +kernel
theorem dX0_point_65 : decode cX0_point 65 = .ok (.invokevirtual 66, 3) := by decide +kernel
theorem dX0_point_68 : decode cX0_point 68 = .ok (.iastore, 1) := by decide +kernel
theorem dX0_point_69 : decode cX0_point 69 = .ok (.aload_n 0, 1) := by decide +kernel
theorem dX0_point_70 : decode cX0_point 70 = .ok (.getfield 29, 3) := by decide +kernel
theorem dX0_point_73 : decode cX0_point 73 = .ok (.iload 5, 2) := by decide +kernel
theorem dX0_point_75 : decode cX0_point 75 = .ok (.iload 5, 2) := by decide +kernel
theorem dX0_point_77 : decode cX0_point 77 = .ok (.iconst 1, 1) := by decide +kernel
theorem dX0_point_78 : decode cX0_point 78 = .ok (.iadd, 1) := by decide +kernel
theorem dX0_point_79 : decode cX0_point 79 = .ok (.iastore, 1) := by decide +kernel
theorem dX0_point_80 : decode cX0_point 80 = .ok (.aload_n 0, 1) := by decide +kernel
theorem dX0_point_81 : decode cX0_point 81 = .ok (.getfield 32, 3) := by decide +kernel
theorem dX0_point_84 : decode cX0_point 84 = .ok (.iload 5, 2) := by decide +kernel
theorem dX0_point_86 : decode cX0_point 86 = .ok (.iconst (-1), 1) := by decide +kernel
theorem dX0_point_87 : decode cX0_point 87 = .ok (.iastore, 1) := by decide +kernel
theorem dX0_point_88 : decode cX0_point 88 = .ok (.aload_n 0, 1) := by decide +kernel
theorem dX0_point_89 : decode cX0_point 89 = .ok (.iload 5, 2) := by decide +kernel
theorem dX0_point_91 : decode cX0_point 91 = .ok (.iconst 1, 1) := by decide +kernel
theorem dX0_point_92 : decode cX0_point 92 = .ok (.iadd, 1) := by decide +kernel
theorem dX0_point_93 : decode cX0_point 93 = .ok (.putfield 59, 3) := by decide +kernel
theorem dX0_point_96 : decode cX0_point 96 = .ok (.aload_n 0, 1) := by decide +kernel
theorem dX0_point_97 : decode cX0_point 97 = .ok (.iconst 0, 1) := by decide +kernel
theorem dX0_point_98 : decode cX0_point 98 = .ok (.putfield 55, 3) := by decide +kernel
theorem dX0_point_101 : decode cX0_point 101 = .ok (.iload 5, 2) := by decide +kernel
theorem dX0_point_103 : decode cX0_point 103 = .ok (.ireturn, 1) := by decide +kernel
set_option maxRecDepth 20000 in
theorem ggX0_next_X0_isPoint : GoodIn wsX0_next wsX0_isPoint := goodIn_r _ [8, 9, 13, 14, 15, 16, 17, 18, 19, 20, 21, 22, 23, 24, 25, 26, 27, 28, 29, 30] (by decide +kernel) (by decide +kernel)
set_option maxRecDepth 20000 in
theorem gX0_next_X0_isPoint : GoodIn wsX0_next (wsV RX0 70 RX0 yX0_isPoint wsX0_isPoint) := goodIn_app (goodIn_of _ (by decide +kernel)) ggX0_next_X0_isPoint
set_option maxRecDepth 20000 in
theorem ggX0_next_X0_canBeNext : GoodIn wsX0_next wsX0_canBeNext := goodIn_r _ [12] (by decide +kernel) (by decide +kernel)
set_option maxRecDepth 20000 in
theorem gX0_next_X0_canBeNext : GoodIn wsX0_next (va_wsS RX0 74 yX0_canBeNext wsX0_canBeNext) := goodIn_app (goodIn_of _ (by decide +kernel)) ggX0_next_X0_canBeNext
theorem dX0_next_0 : decode cX0_next 0 = .ok (.aload_n 0, 1) := by decide +kernel
theorem dX0_next_1 : decode cX0_next 1 = .ok (.iload_n 1, 1) := by decide +kernel
theorem dX0_next_2 : decode cX0_next 2 = .ok (.invokevirtual 70, 3) := by decide +kernel
theorem dX0_next_5 : decode cX0_next 5 = .ok (.ifCond .eq 17, 3) := by decide +kernel
theorem dX0_next_8 : decode cX0_next 8 = .ok (.iload_n 2, 1) := by decide +kernel
theorem dX0_next_9 : decode cX0_next 9 = .ok (.invokestatic 74, 3) := by decide +kernel
theorem dX0_next_12 : decode cX0_next 12 = .ok (.ifCond .eq 10, 3) := by decide +kernel
theorem dX0_next_15 : decode cX0_next 15 = .ok (.iload_n 3, 1) := by decide +kernel
theorem dX0_next_16 : decode cX0_next 16 = .ok (.invokestatic 74, 3) := by decide +kernel
theorem dX0_next_19 : decode cX0_next 19 = .ok (.ifCond .ne 5, 3) := by decide +kernel
theorem dX0_next_22 : decode cX0_next 22 = .ok (.iconst 0, 1) := by decide +kernel
theorem dX0_next_23 : decode cX0_next 23 = .ok (.ireturn, 1) := by decide +kernel
theorem dX0_next_24 : decode cX0_next 24 = .ok (.aload_n 0, 1) := by decide +kernel
theorem dX0_next_25 : decode cX0_next 25 = .ok (.getfield 29, 3) := by decide +kernel
theorem dX0_next_28 : decode cX0_next 28 = .ok (.iload_n 1, 1) := by decide +kernel
theorem dX0_next_29 : decode cX0_next 29 = .ok (.iload_n 2, 1) := by decide +kernel
theorem dX0_next_30 : decode cX0_next 30 = .ok (.iastore, 1) := by decide +kernel
theorem dX0_next_31 : decode cX0_next 31 = .ok (.aload_n 0, 1) := by decide +kernel
theorem dX0_next_32 : decode cX0_next 32 = .ok (.getfield 32, 3) := by decide +kernel
theorem dX0_next_35 : decode cX0_next 35 = .ok (.iload_n 1, 1) := by decide +kernel
theorem dX0_next_36 : decode cX0_next 36 = .ok (.iload_n 3, 1) := by decide +kernel
theorem dX0_next_37 : decode cX0_next 37 = .ok (.iastore, 1) := by decide +kernel
theorem dX0_next_38 : decode cX0_next 38 = .ok (.aload_n 0, 1) := by decide +kernel
theorem dX0_next_39 : decode cX0_next 39 = .ok (.iconst 0, 1) := by decide +kernel
theorem dX0_next_40 : decode cX0_next 40 = .ok (.putfield 55, 3) := by decide +kernel
theorem dX0_next_43 : decode cX0_next 43 = .ok (.iconst 1, 1) := by decide +kernel
theorem dX0_next_44 : decode cX0_next 44 = .ok (.ireturn, 1) := by decide +kernel
set_option maxRecDepth 20000 in
theorem ggX0_isReached_X0_isPoint : GoodIn wsX0_isReached wsX0_isPoint := goodIn_r _ [6, 7, 69, 70, 71, 72, 73, 74, 75, 76, 77, 78, 79, 80, 81, 82, 83, 84, 85, 86] (by decide +kernel) (by decide +kernel)
set_option maxRecDepth 20000 in
theorem gX0_isReached_X0_isPoint : GoodIn wsX0_isReached (wsV RX0 70 RX0 yX0_isPoint wsX0_isPoint) := goodIn_app (goodIn_of _ (by decide +kernel)) ggX0_isReached_X0_isPoint
set_option maxRecDepth 20000 in
theorem ggX0_isReached_X0_solve : GoodIn wsX0_isReached wsX0_solve := goodIn_r _ [11, 12, 13, 14, 15, 16, 17, 18, 19, 5, 20, 21, 7, 1, 22, 23, 24, 25, 26, 27, 28, 29, 30, 31, 32, 33, 34, 35, 36, 37, 38, 39, 40, 41, 42, 43, 44, 45, 46, 47, 48, 49, 50, 51, 2, 3, 4, 6, 52, 53, 54, 55, 56, 57, 58, 59, 60, 61, 62, 63, 64, 65, 66, 67, 68, 69, 70, 71, 72, 73, 74, 75, 76, 77, 78, 79, 80, 81, 82, 83, 84, 85, 86] (by decide +kernel) (by decide +kernel)
set_option maxRecDepth 20000 in
theorem gX0_isReached_X0_solve : GoodIn wsX0_isReached (wsV RX0 77 RX0 yX0_solve wsX0_solve) := goodIn_app (goodIn_of _ (by decide +kernel)) ggX0_isReached_X0_solve
theorem dX0_isReached_0 : decode cX0_isReached 0 = .ok (.aload_n 0, 1) := by decide +kernel
theorem dX0_isReached_1 : decode cX0_isReached 1 = .ok (.iload_n 1, 1) := by decide +kernel
theorem dX0_isReached_2 : decode cX0_isReached 2 = .ok (.invokevirtual 70, 3) := by decide +kernel
theorem dX0_isReached_5 : decode cX0_isReached 5 = .ok (.ifCond .ne 5, 3) := by decide +kernel
theorem dX0_isReached_8 : decode cX0_isReached 8 = .ok (.iconst 0, 1) := by decide +kernel
theorem dX0_isReached_9 : decode cX0_isReached 9 = .ok (.ireturn, 1) := by decide +kernel
theorem dX0_isReached_10 : decode cX0_isReached 10 = .ok (.aload_n 0, 1) := by decide +kernel
theorem dX0_isReached_11 : decode cX0_isReached 11 = .ok (.invokevirtual 77, 3) := by decide +kernel
theorem dX0_isReached_14 : decode cX0_isReached 14 = .ok (.aload_n 0, 1) := by decide +kernel
theorem dX0_isReached_15 : decode cX0_isReached 15 = .ok (.getfield 35, 3) := by decide +kernel
theorem dX0_isReached_18 : decode cX0_isReached 18 = .ok (.iload_n 1, 1) := by decide +kernel
theorem dX0_isReached_19 : decode cX0_isReached 19 = .ok (.baload, 1) := by decide +kernel
theorem dX0_isReached_20 : decode cX0_isReached 20 = .ok (.ireturn, 1) := by decide +kernel
set_option maxRecDepth 20000 in
theorem ggX0_without_X0_bitsAhead : GoodIn wsX0_without wsX0_bitsAhead := goodIn_r _ [5, 6, 7, 8, 4, 9, 10, 11, 12, 13, 14, 15, 16, 17, 18, 19, 20, 21, 22, 23, 24, 25, 26, 27, 28, 29, 30, 31, 32, 33, 34, 35, 36, 37, 38, 39, 40, 41, 42, 43, 44, 45, 46, 47, 48, 49, 50, 51, 52, 53, 54, 55, 56, 57, 58, 59, 60, 61, 62, 63, 64, 65, 66, 67, 68, 69, 70, 71, 72, 73, 74, 75, 76, 77, 78, 79, 80, 81, 82, 83, 84, 85, 86, 87, 88, 89, 90, 91, 92, 93, 94, 95, 96, 97, 98] (by decide +kernel) (by decide +kernel)
set_option maxRecDepth 20000 in
theorem gX0_without_X0_bitsAhead : GoodIn wsX0_without (wsV RX0 80 RX0 yX0_bitsAhead wsX0_bitsAhead) := goodIn_app (goodIn_of _ (by decide +kernel)) ggX0_without_X0_bitsAhead
theorem dX0_without_0 : decode cX0_without 0 = .ok (.aload_n 0, 1) := by decide +kernel
theorem dX0_without_1 : decode cX0_without 1 = .ok (.iload_n 1, 1) := by decide +kernel
theorem dX0_without_2 : decode cX0_without 2 = .ok (.iload_n 2, 1) := by decide +kernel
theorem dX0_without_3 : decode cX0_without 3 = .ok (.iconst 0, 1) := by decide +kernel
theorem dX0_without_4 : decode cX0_without 4 = .ok (.invokevirtual 80, 3) := by decide +kernel
theorem dX0_without_7 : decode cX0_without 7 = .ok (.ireturn, 1) := by decide +kernel
set_option maxRecDepth 20000 in
theorem ggX0_having_X0_bitsAhead : GoodIn wsX0_having wsX0_bitsAhead := goodIn_r _ [5, 6, 7, 8, 4, 9, 10, 11, 12, 13, 14, 15, 16, 17, 18, 19, 20, 21, 22, 23, 24, 25, 26, 27, 28, 29, 30, 31, 32, 33, 34, 35, 36, 37, 38, 39, 40, 41, 42, 43, 44, 45, 46, 47, 48, 49, 50, 51, 52, 53, 54, 55, 56, 57, 58, 59, 60, 61, 62, 63, 64, 65, 66, 67, 68, 69, 70, 71, 72, 73, 74, 75, 76, 77, 78, 79, 80, 81, 82, 83, 84, 85, 86, 87, 88, 89, 90, 91, 92, 93, 94, 95, 96, 97, 98] (by decide +kernel) (by decide +kernel)
set_option maxRecDepth 20000 in
theorem gX0_having_X0_bitsAhead : GoodIn wsX0_having (wsV RX0 80 RX0 yX0_bitsAhead wsX0_bitsAhead) := goodIn_app (goodIn_of _ (by decide +kernel)) ggX0_having_X0_bitsAhead
theorem dX0_having_0 : decode cX0_having 0 = .ok (.aload_n 0, 1) := by decide +kernel
theorem dX0_having_1 : decode cX0_having 1 = .ok (.iload_n 1, 1) := by decide +kernel
theorem dX0_having_2 : decode cX0_having 2 = .ok (.iload_n 2, 1) := by decide +kernel
theorem dX0_having_3 : decode cX0_having 3 = .ok (.iconst 3, 1) := by decide +kernel
theorem dX0_having_4 : decode cX0_having 4 = .ok (.invokevirtual 80, 3) := by decide +kernel
theorem dX0_having_7 : decode cX0_having 7 = .ok (.ireturn, 1) := by decide +kernel
set_option maxRecDepth 20000 in
theorem ggX0_fault_X0_isPoint : GoodIn wsX0_fault wsX0_isPoint := goodIn_r _ [5, 6, 78, 79, 80, 81, 82, 83, 84, 85, 86, 87, 88, 89, 90, 91, 92, 93, 94, 95] (by decide +kernel) (by decide +kernel)
set_option maxRecDepth 20000 in
theorem gX0_fault_X0_isPoint : GoodIn wsX0_fault (wsV RX0 70 RX0 yX0_isPoint wsX0_isPoint) := goodIn_app (goodIn_of _ (by decide +kernel)) ggX0_fault_X0_isPoint
set_option maxRecDepth 20000 in
theorem ggX0_fault_X0_solve : GoodIn wsX0_fault wsX0_solve := goodIn_r _ [10, 11, 12, 13, 14, 15, 16, 17, 18, 4, 19, 20, 6, 21, 22, 23, 24, 25, 26, 27, 28, 29, 30, 31, 32, 33, 34, 35, 36, 37, 38, 39, 40, 41, 42, 43, 44, 45, 46, 47, 48, 49, 50, 51, 1, 2, 3, 5, 52, 53, 54, 55, 56, 57, 58, 59, 60, 61, 62, 63, 64, 65, 66, 67, 68, 78, 79, 80, 81, 82, 83, 84, 85, 86, 87, 88, 89, 90, 91, 92, 93, 94, 95] (by decide +kernel) (by decide +kernel)
set_option maxRecDepth 20000 in
theorem gX0_fault_X0_solve : GoodIn wsX0_fault (wsV RX0 77 RX0 yX0_solve wsX0_solve) := goodIn_app (goodIn_of _ (by decide +kernel)) ggX0_fault_X0_solve
set_option maxRecDepth 20000 in
theorem ggX0_fault_X0_faultOfPoint : GoodIn wsX0_fault wsX0_faultOfPoint := goodIn_r _ [72, 21, 65, 66, 67, 73, 74, 75, 76, 4, 77, 23, 31, 32, 33, 45, 46, 47, 39, 40, 41, 34, 35, 36, 37, 38, 78, 79, 80, 81, 82, 83, 84, 85, 86, 87, 88, 89, 90, 91, 92, 93, 94, 95] (by decide +kernel) (by decide +kernel)
set_option maxRecDepth 20000 in
theorem gX0_fault_X0_faultOfPoint : GoodIn wsX0_fault (wsV RX0 84 RX0 yX0_faultOfPoint wsX0_faultOfPoint) := goodIn_app (goodIn_of _ (by decide +kernel)) ggX0_fault_X0_faultOfPoint
theorem dX0_fault_0 : decode cX0_fault 0 = .ok (.aload_n 0, 1) := by decide +kernel
theorem dX0_fault_1 : decode cX0_fault 1 = .ok (.iload_n 1, 1) := by decide +kernel
theorem dX0_fault_2 : decode cX0_fault 2 = .ok (.invokevirtual 70, 3) := by decide +kernel
theorem dX0_fault_5 : decode cX0_fault 5 = .ok (.ifCond .ne 5, 3) := by decide +kernel
theorem dX0_fault_8 : decode cX0_fault 8 = .ok (.iconst (-1), 1) := by decide +kernel
theorem dX0_fault_9 : decode cX0_fault 9 = .ok (.ireturn, 1) := by decide +kernel
theorem dX0_fault_10 : decode cX0_fault 10 = .ok (.aload_n 0, 1) := by decide +kernel
theorem dX0_fault_11 : decode cX0_fault 11 = .ok (.invokevirtual 77, 3) := by decide +kernel
theorem dX0_fault_14 : decode cX0_fault 14 = .ok (.aload_n 0, 1) := by decide +kernel
theorem dX0_fault_15 : decode cX0_fault 15 = .ok (.iload_n 1, 1) := by decide +kernel
theorem dX0_fault_16 : decode cX0_fault 16 = .ok (.invokevirtual 84, 3) := by decide +kernel
theorem dX0_fault_19 : decode cX0_fault 19 = .ok (.ireturn, 1) := by decide +kernel
set_option maxRecDepth 20000 in
theorem ggX0_count_X0_countReached : GoodIn wsX0_count wsX0_countReached := goodIn_r _ [7, 1, 8, 9, 10, 11, 6, 12, 13, 14, 15, 16, 17, 18, 19, 20, 21, 22, 23, 24, 25, 26, 27, 28, 29, 2, 30, 31, 32, 33, 34, 35, 36, 37, 38, 39, 40, 41, 42, 43, 44, 45, 46, 47, 48, 49, 50, 51, 52, 53, 54, 55, 56, 57, 58, 59, 60, 61, 62, 63, 64, 65, 66, 67, 68, 69, 70, 71, 72, 94, 95, 96, 97, 98, 99, 100, 101, 102, 103, 104, 105, 106, 107, 108, 109, 110, 111] (by decide +kernel) (by decide +kernel)
set_option maxRecDepth 20000 in
theorem gX0_count_X0_countReached : GoodIn wsX0_count (wsV RX0 88 RX0 yX0_countReached wsX0_countReached) := goodIn_app (goodIn_of _ (by decide +kernel)) ggX0_count_X0_countReached
set_option maxRecDepth 20000 in
theorem ggX0_count_X0_countFaults : GoodIn wsX0_count wsX0_countFaults := goodIn_r _ [76, 1, 9, 10, 11, 6, 12, 13, 14, 15, 16, 17, 18, 19, 20, 21, 22, 8, 23, 24, 25, 26, 27, 28, 29, 2, 30, 31, 32, 33, 34, 35, 36, 37, 38, 39, 40, 41, 42, 43, 44, 45, 46, 47, 48, 49, 50, 51, 52, 53, 54, 55, 56, 57, 58, 59, 60, 61, 62, 63, 64, 65, 66, 67, 68, 69, 70, 71, 72, 77, 78, 79, 80, 81, 82, 83, 84, 85, 94, 95, 96, 97, 98, 99, 100, 101, 102, 103, 104, 105, 106, 107, 108, 109, 110, 111] (by decide +kernel) (by decide +kernel)
set_option maxRecDepth 20000 in
theorem gX0_count_X0_countFaults : GoodIn wsX0_count (wsV RX0 92 RX0 yX0_countFaults wsX0_countFaults) := goodIn_app (goodIn_of _ (by decide +kernel)) ggX0_count_X0_countFaults
set_option maxRecDepth 20000 in
theorem ggX0_count_X0_firstFault : GoodIn wsX0_count wsX0_firstFault := goodIn_r _ [89, 1, 9, 10, 11, 6, 12, 13, 14, 15, 16, 17, 18, 19, 20, 21, 22, 8, 23, 24, 25, 26, 27, 28, 29, 2, 30, 31, 32, 33, 34, 35, 36, 37, 38, 39, 40, 41, 42, 43, 44, 45, 46, 47, 48, 49, 50, 51, 52, 53, 54, 55, 56, 57, 58, 59, 60, 61, 62, 63, 64, 65, 66, 67, 68, 69, 70, 71, 72, 77, 78, 79, 80, 81, 82, 83, 84, 85, 94, 95, 96, 97, 98, 99, 100, 101, 102, 103, 104, 105, 106, 107, 108, 109, 110, 111] (by decide +kernel) (by decide +kernel)
set_option maxRecDepth 20000 in
theorem gX0_count_X0_firstFault : GoodIn wsX0_count (wsV RX0 95 RX0 yX0_firstFault wsX0_firstFault) := goodIn_app (goodIn_of _ (by decide +kernel)) ggX0_count_X0_firstFault
set_option maxRecDepth 20000 in
theorem ggX0_count_X0_countParts : GoodIn wsX0_count wsX0_countParts := goodIn_r _ [93, 2, 38, 94, 95, 96, 97, 98, 99, 100, 101, 102, 103, 104, 105, 106, 107, 108, 109, 110, 111] (by decide +kernel) (by decide +kernel)
set_option maxRecDepth 20000 in
theorem gX0_count_X0_countParts : GoodIn wsX0_count (wsV RX0 98 RX0 yX0_countParts wsX0_countParts) := goodIn_app (goodIn_of _ (by decide +kernel)) ggX0_count_X0_countParts
theorem dX0_count_0 : decode cX0_count 0 = .ok (.iload_n 1, 1) := by decide +kernel
theorem dX0_count_1 : decode cX0_count 1 = .ok (.tableswitch 69 0 5 #[39, 44, 49, 54, 59, 64], 39) := by decide +kernel
theorem dX0_count_40 : decode cX0_count 40 = .ok (.aload_n 0, 1) := by decide +kernel
theorem dX0_count_41 : decode cX0_count 41 = .ok (.getfield 59, 3) := by decide +kernel
theorem dX0_count_44 : decode cX0_count 44 = .ok (.ireturn, 1) := by decide +kernel
theorem dX0_count_45 : decode cX0_count 45 = .ok (.aload_n 0, 1) := by decide +kernel
theorem dX0_count_46 : decode cX0_count 46 = .ok (.invokevirtual 88, 3) := by decide +kernel
theorem dX0_count_49 : decode cX0_count 49 = .ok (.ireturn, 1) := by decide +kernel
theorem dX0_count_50 : decode cX0_count 50 = .ok (.aload_n 0, 1) := by decide +kernel
theorem dX0_count_51 : decode cX0_count 51 = .ok (.invokevirtual 92, 3) := by decide +kernel
theorem dX0_count_54 : decode cX0_count 54 = .ok (.ireturn, 1) := by decide +kernel
theorem dX0_count_55 : decode cX0_count 55 = .ok (.aload_n 0, 1) := by decide +kernel
theorem dX0_count_56 : decode cX0_count 56 = .ok (.invokevirtual 95, 3) := by decide +kernel
theorem dX0_count_59 : decode cX0_count 59 = .ok (.ireturn, 1) := by decide +kernel
theorem dX0_count_60 : decode cX0_count 60 = .ok (.aload_n 0, 1) := by decide +kernel
theorem dX0_count_61 : decode cX0_count 61 = .ok (.getfield 51, 3) := by decide +kernel
theorem dX0_count_64 : decode cX0_count 64 = .ok (.ireturn, 1) := by decide +kernel
theorem dX0_count_65 : decode cX0_count 65 = .ok (.aload_n 0, 1) := by decide +kernel
theorem dX0_count_66 : decode cX0_count 66 = .ok (.invokevirtual 98, 3) := by decide +kernel
theorem dX0_count_69 : decode cX0_count 69 = .ok (.ireturn, 1) := by decide +kernel
theorem dX0_count_70 : decode cX0_count 70 = .ok (.iconst (-1), 1) := by decide +kernel
theorem dX0_count_71 : decode cX0_count 71 = .ok (.ireturn, 1) := by decide +kernel
theorem dX0_clear_0 : decode cX0_clear 0 = .ok (.aload_n 0, 1) := by decide +kernel
theorem dX0_clear_1 : decode cX0_clear 1 = .ok (.getfield 59, 3) := by decide +kernel
theorem dX0_clear_4 : decode cX0_clear 4 = .ok (.istore_n 1, 1) := by decide +kernel
theorem dX0_clear_5 : decode cX0_clear 5 = .ok (.aload_n 0, 1) := by decide +kernel
theorem dX0_clear_6 : decode cX0_clear 6 = .ok (.iconst 0, 1) := by decide +kernel
theorem dX0_clear_7 : decode cX0_clear 7 = .ok (.putfield 59, 3) := by decide +kernel
theorem dX0_clear_10 : decode cX0_clear 10 = .ok (.aload_n 0, 1) := by decide +kernel
theorem dX0_clear_11 : decode cX0_clear 11 = .ok (.iconst 0, 1) := by decide +kernel
theorem dX0_clear_12 : decode cX0_clear 12 = .ok (.putfield 55, 3) := by decide +kernel
theorem dX0_clear_15 : decode cX0_clear 15 = .ok (.iload_n 1, 1) := by decide +kernel
theorem dX0_clear_16 : decode cX0_clear 16 = .ok (.ireturn, 1) := by decide +kernel
theorem dX0_isPoint_0 : decode cX0_isPoint 0 = .ok (.iload_n 1, 1) := by decide +kernel
theorem dX0_isPoint_1 : decode cX0_isPoint 1 = .ok (.ifCond .lt 15, 3) := by decide +kernel
theorem dX0_isPoint_4 : decode cX0_isPoint 4 = .ok (.iload_n 1, 1) := by decide +kernel
theorem dX0_isPoint_5 : decode cX0_isPoint 5 = .ok (.aload_n 0, 1) := by decide +kernel
theorem dX0_isPoint_6 : decode cX0_isPoint 6 = .ok (.getfield 59, 3) := by decide +kernel
theorem dX0_isPoint_9 : decode cX0_isPoint 9 = .ok (.if_icmp .ge 7, 3) := by decide +kernel
theorem dX0_isPoint_12 : decode cX0_isPoint 12 = .ok (.iconst 1, 1) := by decide +kernel
theorem dX0_isPoint_13 : decode cX0_isPoint 13 = .ok (.goto 4, 3) := by decide +kernel
theorem dX0_isPoint_16 : decode cX0_isPoint 16 = .ok (.iconst 0, 1) := by decide +kernel
theorem dX0_isPoint_17 : decode cX0_isPoint 17 = .ok (.ireturn, 1) := by decide +kernel
theorem dX0_isVariable_0 : decode cX0_isVariable 0 = .ok (.iload_n 1, 1) := by decide +kernel
theorem dX0_isVariable_1 : decode cX0_isVariable 1 = .ok (.ifCond .lt 15, 3) := by decide +kernel
theorem dX0_isVariable_4 : decode cX0_isVariable 4 = .ok (.iload_n 1, 1) := by decide +kernel
theorem dX0_isVariable_5 : decode cX0_isVariable 5 = .ok (.aload_n 0, 1) := by decide +kernel
theorem dX0_isVariable_6 : decode cX0_isVariable 6 = .ok (.getfield 51, 3) := by decide +kernel
theorem dX0_isVariable_9 : decode cX0_isVariable 9 = .ok (.if_icmp .ge 7, 3) := by decide +kernel
theorem dX0_isVariable_12 : decode cX0_isVariable 12 = .ok (.iconst 1, 1) := by decide +kernel
theorem dX0_isVariable_13 : decode cX0_isVariable 13 = .ok (.goto 4, 3) := by decide +kernel
theorem dX0_isVariable_16 : decode cX0_isVariable 16 = .ok (.iconst 0, 1) := by decide +kernel
theorem dX0_isVariable_17 : decode cX0_isVariable 17 = .ok (.ireturn, 1) := by decide +kernel
theorem dX0_canBeNext_0 : decode cX0_canBeNext 0 = .ok (.iload_n 0, 1) := by decide +kernel
theorem dX0_canBeNext_1 : decode cX0_canBeNext 1 = .ok (.iconst (-1), 1) := by decide +kernel
theorem dX0_canBeNext_2 : decode cX0_canBeNext 2 = .ok (.if_icmp .lt 13, 3) := by decide +kernel
theorem dX0_canBeNext_5 : decode cX0_canBeNext 5 = .ok (.iload_n 0, 1) := by decide +kernel
theorem dX0_canBeNext_6 : decode cX0_canBeNext 6 = .ok (.bipush 120, 2) := by decide +kernel
theorem dX0_canBeNext_8 : decode cX0_canBeNext 8 = .ok (.if_icmp .ge 7, 3) := by decide +kernel
theorem dX0_canBeNext_11 : decode cX0_canBeNext 11 = .ok (.iconst 1, 1) := by decide +kernel
theorem dX0_canBeNext_12 : decode cX0_canBeNext 12 = .ok (.goto 4, 3) := by decide +kernel
theorem dX0_canBeNext_15 : decode cX0_canBeNext 15 = .ok (.iconst 0, 1) := by decide +kernel
theorem dX0_canBeNext_16 : decode cX0_canBeNext 16 = .ok (.ireturn, 1) := by decide +kernel
set_option maxRecDepth 20000 in
theorem ggX0_isDoing_X0_isVariable : GoodIn wsX0_isDoing wsX0_isVariable := goodIn_r _ [6, 7, 11, 12, 13, 14, 15, 16, 17, 18, 19, 20, 21, 22, 23, 24, 25, 26, 27, 28] (by decide +kernel) (by decide +kernel)
set_option maxRecDepth 20000 in
theorem gX0_isDoing_X0_isVariable : GoodIn wsX0_isDoing (wsV RX0 101 RX0 yX0_isVariable wsX0_isVariable) := goodIn_app (goodIn_of _ (by decide +kernel)) ggX0_isDoing_X0_isVariable
set_option maxRecDepth 20000 in
theorem ggX0_isDoing_X0_isOfSomeParts : GoodIn wsX0_isDoing wsX0_isOfSomeParts := goodIn_r _ [10] (by decide +kernel) (by decide +kernel)
set_option maxRecDepth 20000 in
theorem gX0_isDoing_X0_isOfSomeParts : GoodIn wsX0_isDoing (va_wsS RX0 104 yX0_isOfSomeParts wsX0_isOfSomeParts) := goodIn_app (goodIn_of _ (by decide +kernel)) ggX0_isDoing_X0_isOfSomeParts
theorem dX0_isDoing_0 : decode cX0_isDoing 0 = .ok (.iload_n 1, 1) := by decide +kernel
theorem dX0_isDoing_1 : decode cX0_isDoing 1 = .ok (.ifCond .lt 8, 3) := by decide +kernel
theorem dX0_isDoing_4 : decode cX0_isDoing 4 = .ok (.iload_n 1, 1) := by decide +kernel
theorem dX0_isDoing_5 : decode cX0_isDoing 5 = .ok (.iconst 5, 1) := by decide +kernel
theorem dX0_isDoing_6 : decode cX0_isDoing 6 = .ok (.if_icmp .le 5, 3) := by decide +kernel
theorem dX0_isDoing_9 : decode cX0_isDoing 9 = .ok (.iconst 0, 1) := by decide +kernel
theorem dX0_isDoing_10 : decode cX0_isDoing 10 = .ok (.ireturn, 1) := by decide +kernel
theorem dX0_isDoing_11 : decode cX0_isDoing 11 = .ok (.iload_n 1, 1) := by decide +kernel
theorem dX0_isDoing_12 : decode cX0_isDoing 12 = .ok (.ifCond .ne 5, 3) := by decide +kernel
theorem dX0_isDoing_15 : decode cX0_isDoing 15 = .ok (.iconst 1, 1) := by decide +kernel
theorem dX0_isDoing_16 : decode cX0_isDoing 16 = .ok (.ireturn, 1) := by decide +kernel
theorem dX0_isDoing_17 : decode cX0_isDoing 17 = .ok (.aload_n 0, 1) := by decide +kernel
theorem dX0_isDoing_18 : decode cX0_isDoing 18 = .ok (.iload_n 2, 1) := by decide +kernel
theorem dX0_isDoing_19 : decode cX0_isDoing 19 = .ok (.invokevirtual 101, 3) := by decide +kernel
theorem dX0_isDoing_22 : decode cX0_isDoing 22 = .ok (.ifCond .ne 5, 3) := by decide +kernel
theorem dX0_isDoing_25 : decode cX0_isDoing 25 = .ok (.iconst 0, 1) := by decide +kernel
theorem dX0_isDoing_26 : decode cX0_isDoing 26 = .ok (.ireturn, 1) := by decide +kernel
theorem dX0_isDoing_27 : decode cX0_isDoing 27 = .ok (.iload_n 1, 1) := by decide +kernel
theorem dX0_isDoing_28 : decode cX0_isDoing 28 = .ok (.invokestatic 104, 3) := by decide +kernel
theorem dX0_isDoing_31 : decode cX0_isDoing 31 = .ok (.ifCond .eq 26, 3) := by decide +kernel
theorem dX0_isDoing_34 : decode cX0_isDoing 34 = .ok (.iload_n 3, 1) := by decide +kernel
theorem dX0_isDoing_35 : decode cX0_isDoing 35 = .ok (.ifCond .lt 26, 3) := by decide +kernel
theorem dX0_isDoing_38 : decode cX0_isDoing 38 = .ok (.iload 4, 2) := by decide +kernel
theorem dX0_isDoing_40 : decode cX0_isDoing 40 = .ok (.iconst 1, 1) := by decide +kernel
theorem dX0_isDoing_41 : decode cX0_isDoing 41 = .ok (.if_icmp .lt 20, 3) := by decide +kernel
theorem dX0_isDoing_44 : decode cX0_isDoing 44 = .ok (.iload_n 3, 1) := by decide +kernel
theorem dX0_isDoing_45 : decode cX0_isDoing 45 = .ok (.aload_n 0, 1) := by decide +kernel
theorem dX0_isDoing_46 : decode cX0_isDoing 46 = .ok (.getfield 9, 3) := by decide +kernel
theorem dX0_isDoing_49 : decode cX0_isDoing 49 = .ok (.iload_n 2, 1) := by decide +kernel
theorem dX0_isDoing_50 : decode cX0_isDoing 50 = .ok (.iaload, 1) := by decide +kernel
theorem dX0_isDoing_51 : decode cX0_isDoing 51 = .ok (.iload 4, 2) := by decide +kernel
theorem dX0_isDoing_53 : decode cX0_isDoing 53 = .ok (.isub, 1) := by decide +kernel
theorem dX0_isDoing_54 : decode cX0_isDoing 54 = .ok (.if_icmp .gt 7, 3) := by decide +kernel
theorem dX0_isDoing_57 : decode cX0_isDoing 57 = .ok (.iconst 1, 1) := by decide +kernel
theorem dX0_isDoing_58 : decode cX0_isDoing 58 = .ok (.goto 4, 3) := by decide +kernel
theorem dX0_isDoing_61 : decode cX0_isDoing 61 = .ok (.iconst 0, 1) := by decide +kernel
theorem dX0_isDoing_62 : decode cX0_isDoing 62 = .ok (.ireturn, 1) := by decide +kernel
theorem dX0_isOfSomeParts_0 : decode cX0_isOfSomeParts 0 = .ok (.iload_n 0, 1) := by decide +kernel
theorem dX0_isOfSomeParts_1 : decode cX0_isOfSomeParts 1 = .ok (.iconst 1, 1) := by decide +kernel
theorem dX0_isOfSomeParts_2 : decode cX0_isOfSomeParts 2 = .ok (.if_icmp .eq 13, 3) := by decide +kernel
theorem dX0_isOfSomeParts_5 : decode cX0_isOfSomeParts 5 = .ok (.iload_n 0, 1) := by decide +kernel
theorem dX0_isOfSomeParts_6 : decode cX0_isOfSomeParts 6 = .ok (.iconst 2, 1) := by decide +kernel
theorem dX0_isOfSomeParts_7 : decode cX0_isOfSomeParts 7 = .ok (.if_icmp .eq 8, 3) := by decide +kernel
theorem dX0_isOfSomeParts_10 : decode cX0_isOfSomeParts 10 = .ok (.iload_n 0, 1) := by decide +kernel
theorem dX0_isOfSomeParts_11 : decode cX0_isOfSomeParts 11 = .ok (.iconst 3, 1) := by decide +kernel
theorem dX0_isOfSomeParts_12 : decode cX0_isOfSomeParts 12 = .ok (.if_icmp .ne 7, 3) := by decide +kernel
theorem dX0_isOfSomeParts_15 : decode cX0_isOfSomeParts 15 = .ok (.iconst 1, 1) := by decide +kernel
theorem dX0_isOfSomeParts_16 : decode cX0_isOfSomeParts 16 = .ok (.goto 4, 3) := by decide +kernel
theorem dX0_isOfSomeParts_19 : decode cX0_isOfSomeParts 19 = .ok (.iconst 0, 1) := by decide +kernel
theorem dX0_isOfSomeParts_20 : decode cX0_isOfSomeParts 20 = .ok (.ireturn, 1) := by decide +kernel
set_option maxRecDepth 20000 in
theorem ggX0_bitsOfDoing_X0_isOfSomeParts : GoodIn wsX0_bitsOfDoing wsX0_isOfSomeParts := goodIn_r _ [4] (by decide +kernel) (by decide +kernel)
set_option maxRecDepth 20000 in
theorem gX0_bitsOfDoing_X0_isOfSomeParts : GoodIn wsX0_bitsOfDoing (va_wsS RX0 104 yX0_isOfSomeParts wsX0_isOfSomeParts) := goodIn_app (goodIn_of _ (by decide +kernel)) ggX0_bitsOfDoing_X0_isOfSomeParts
set_option maxRecDepth 20000 in
theorem ggX0_bitsOfDoing_X0_lowBits : GoodIn wsX0_bitsOfDoing wsX0_lowBits := goodIn_r _ [7] (by decide +kernel) (by decide +kernel)
set_option maxRecDepth 20000 in
theorem gX0_bitsOfDoing_X0_lowBits : GoodIn wsX0_bitsOfDoing (va_wsS RX0 107 yX0_lowBits wsX0_lowBits) := goodIn_app (goodIn_of _ (by decide +kernel)) ggX0_bitsOfDoing_X0_lowBits
set_option maxRecDepth 20000 in
theorem ggX0_bitsOfDoing_X0_allParts : GoodIn wsX0_bitsOfDoing wsX0_allParts := goodIn_r _ [11, 12, 5, 6, 3, 7, 13, 14, 15, 16, 17, 18, 19, 20, 21, 22, 23, 24, 25, 26, 27, 28, 29, 30] (by decide +kernel) (by decide +kernel)
set_option maxRecDepth 20000 in
theorem gX0_bitsOfDoing_X0_allParts : GoodIn wsX0_bitsOfDoing (wsV RX0 110 RX0 yX0_allParts wsX0_allParts) := goodIn_app (goodIn_of _ (by decide +kernel)) ggX0_bitsOfDoing_X0_allParts
theorem dX0_bitsOfDoing_0 : decode cX0_bitsOfDoing 0 = .ok (.iload_n 1, 1) := by decide +kernel
theorem dX0_bitsOfDoing_1 : decode cX0_bitsOfDoing 1 = .ok (.ifCond .ne 5, 3) := by decide +kernel
theorem dX0_bitsOfDoing_4 : decode cX0_bitsOfDoing 4 = .ok (.iconst 0, 1) := by decide +kernel
theorem dX0_bitsOfDoing_5 : decode cX0_bitsOfDoing 5 = .ok (.ireturn, 1) := by decide +kernel
theorem dX0_bitsOfDoing_6 : decode cX0_bitsOfDoing 6 = .ok (.iload_n 1, 1) := by decide +kernel
theorem dX0_bitsOfDoing_7 : decode cX0_bitsOfDoing 7 = .ok (.invokestatic 104, 3) := by decide +kernel
theorem dX0_bitsOfDoing_10 : decode cX0_bitsOfDoing 10 = .ok (.ifCond .eq 13, 3) := by decide +kernel
theorem dX0_bitsOfDoing_13 : decode cX0_bitsOfDoing 13 = .ok (.iload 4, 2) := by decide +kernel
theorem dX0_bitsOfDoing_15 : decode cX0_bitsOfDoing 15 = .ok (.invokestatic 107, 3) := by decide +kernel
theorem dX0_bitsOfDoing_18 : decode cX0_bitsOfDoing 18 = .ok (.iload_n 3, 1) := by decide +kernel
theorem dX0_bitsOfDoing_19 : decode cX0_bitsOfDoing 19 = .ok (.ishl, 1) := by decide +kernel
theorem dX0_bitsOfDoing_20 : decode cX0_bitsOfDoing 20 = .ok (.goto 8, 3) := by decide +kernel
theorem dX0_bitsOfDoing_23 : decode cX0_bitsOfDoing 23 = .ok (.aload_n 0, 1) := by decide +kernel
theorem dX0_bitsOfDoing_24 : decode cX0_bitsOfDoing 24 = .ok (.iload_n 2, 1) := by decide +kernel
theorem dX0_bitsOfDoing_25 : decode cX0_bitsOfDoing 25 = .ok (.invokevirtual 110, 3) := by decide +kernel
theorem dX0_bitsOfDoing_28 : decode cX0_bitsOfDoing 28 = .ok (.ireturn, 1) := by decide +kernel
theorem dX0_lowBits_0 : decode cX0_lowBits 0 = .ok (.iconst 1, 1) := by decide +kernel
theorem dX0_lowBits_1 : decode cX0_lowBits 1 = .ok (.iload_n 0, 1) := by decide +kernel
theorem dX0_lowBits_2 : decode cX0_lowBits 2 = .ok (.ishl, 1) := by decide +kernel
theorem dX0_lowBits_3 : decode cX0_lowBits 3 = .ok (.iconst 1, 1) := by decide +kernel
theorem dX0_lowBits_4 : decode cX0_lowBits 4 = .ok (.isub, 1) := by decide +kernel
theorem dX0_lowBits_5 : decode cX0_lowBits 5 = .ok (.ireturn, 1) := by decide +kernel
set_option maxRecDepth 20000 in
theorem ggX0_allParts_X0_lowBits : GoodIn wsX0_allParts wsX0_lowBits := goodIn_r _ [5] (by decide +kernel) (by decide +kernel)
set_option maxRecDepth 20000 in
theorem gX0_allParts_X0_lowBits : GoodIn wsX0_allParts (va_wsS RX0 107 yX0_lowBits wsX0_lowBits) := goodIn_app (goodIn_of _ (by decide +kernel)) ggX0_allParts_X0_lowBits
theorem dX0_allParts_0 : decode cX0_allParts 0 = .ok (.aload_n 0, 1) := by decide +kernel
theorem dX0_allParts_1 : decode cX0_allParts 1 = .ok (.getfield 9, 3) := by decide +kernel
theorem dX0_allParts_4 : decode cX0_allParts 4 = .ok (.iload_n 1, 1) := by decide +kernel
theorem dX0_allParts_5 : decode cX0_allParts 5 = .ok (.iaload, 1) := by decide +kernel
theorem dX0_allParts_6 : decode cX0_allParts 6 = .ok (.invokestatic 107, 3) := by decide +kernel
theorem dX0_allParts_9 : decode cX0_allParts 9 = .ok (.ireturn, 1) := by decide +kernel
theorem dX0_wordOf_0 : decode cX0_wordOf 0 = .ok (.iload_n 0, 1) := by decide +kernel
theorem dX0_wordOf_1 : decode cX0_wordOf 1 = .ok (.bipush 8, 2) := by decide +kernel
theorem dX0_wordOf_3 : decode cX0_wordOf 3 = .ok (.idiv, 1) := by decide +kernel
theorem dX0_wordOf_4 : decode cX0_wordOf 4 = .ok (.ireturn, 1) := by decide +kernel
theorem dX0_shiftOf_0 : decode cX0_shiftOf 0 = .ok (.iload_n 0, 1) := by decide +kernel
theorem dX0_shiftOf_1 : decode cX0_shiftOf 1 = .ok (.bipush 8, 2) := by decide +kernel
theorem dX0_shiftOf_3 : decode cX0_shiftOf 3 = .ok (.irem, 1) := by decide +kernel
theorem dX0_shiftOf_4 : decode cX0_shiftOf 4 = .ok (.bipush 8, 2) := by decide +kernel
theorem dX0_shiftOf_6 : decode cX0_shiftOf 6 = .ok (.imul, 1) := by decide +kernel
theorem dX0_shiftOf_7 : decode cX0_shiftOf 7 = .ok (.ireturn, 1) := by decide +kernel
set_option maxRecDepth 20000 in
theorem ggX0_inWord_X0_shiftOf : GoodIn wsX0_inWord wsX0_shiftOf := goodIn_r _ [4] (by decide +kernel) (by decide +kernel)
set_option maxRecDepth 20000 in
theorem gX0_inWord_X0_shiftOf : GoodIn wsX0_inWord (va_wsS RX0 113 yX0_shiftOf wsX0_shiftOf) := goodIn_app (goodIn_of _ (by decide +kernel)) ggX0_inWord_X0_shiftOf
theorem dX0_inWord_0 : decode cX0_inWord 0 = .ok (.iload_n 1, 1) := by decide +kernel
theorem dX0_inWord_1 : decode cX0_inWord 1 = .ok (.i2l, 1) := by decide +kernel
theorem dX0_inWord_2 : decode cX0_inWord 2 = .ok (.iload_n 0, 1) := by decide +kernel
theorem dX0_inWord_3 : decode cX0_inWord 3 = .ok (.invokestatic 113, 3) := by decide +kernel
theorem dX0_inWord_6 : decode cX0_inWord 6 = .ok (.lshl, 1) := by decide +kernel
theorem dX0_inWord_7 : decode cX0_inWord 7 = .ok (.lreturn, 1) := by decide +kernel
set_option maxRecDepth 20000 in
theorem ggX0_bitsAhead_X0_isPoint : GoodIn wsX0_bitsAhead wsX0_isPoint := goodIn_r _ [5, 6, 77, 78, 79, 80, 81, 82, 83, 84, 85, 86, 87, 88, 89, 90, 91, 92, 93, 94] (by decide +kernel) (by decide +kernel)
set_option maxRecDepth 20000 in
theorem gX0_bitsAhead_X0_isPoint : GoodIn wsX0_bitsAhead (wsV RX0 70 RX0 yX0_isPoint wsX0_isPoint) := goodIn_app (goodIn_of _ (by decide +kernel)) ggX0_bitsAhead_X0_isPoint
set_option maxRecDepth 20000 in
theorem ggX0_bitsAhead_X0_isVariable : GoodIn wsX0_bitsAhead wsX0_isVariable := goodIn_r _ [10, 11, 77, 78, 79, 80, 81, 82, 83, 84, 85, 86, 87, 88, 89, 90, 91, 92, 93, 94] (by decide +kernel) (by decide +kernel)
set_option maxRecDepth 20000 in
theorem gX0_bitsAhead_X0_isVariable : GoodIn wsX0_bitsAhead (wsV RX0 101 RX0 yX0_isVariable wsX0_isVariable) := goodIn_app (goodIn_of _ (by decide +kernel)) ggX0_bitsAhead_X0_isVariable
set_option maxRecDepth 20000 in
theorem ggX0_bitsAhead_X0_solve : GoodIn wsX0_bitsAhead wsX0_solve := goodIn_r _ [15, 16, 17, 18, 19, 20, 21, 22, 23, 4, 24, 25, 6, 26, 27, 28, 29, 30, 31, 32, 33, 11, 34, 35, 36, 37, 38, 39, 40, 41, 42, 43, 44, 45, 46, 47, 48, 49, 50, 51, 52, 53, 54, 55, 1, 2, 3, 5, 56, 57, 58, 59, 60, 61, 62, 63, 64, 65, 66, 67, 68, 69, 70, 71, 72, 77, 78, 79, 80, 81, 82, 83, 84, 85, 86, 87, 88, 89, 90, 91, 92, 93, 94] (by decide +kernel) (by decide +kernel)
set_option maxRecDepth 20000 in
theorem gX0_bitsAhead_X0_solve : GoodIn wsX0_bitsAhead (wsV RX0 77 RX0 yX0_solve wsX0_solve) := goodIn_app (goodIn_of _ (by decide +kernel)) ggX0_bitsAhead_X0_solve
set_option maxRecDepth 20000 in
theorem ggX0_bitsAhead_X0_solvedBits : GoodIn wsX0_bitsAhead wsX0_solvedBits := goodIn_r _ [76, 28, 35, 36, 4, 37, 49, 50, 51, 43, 44, 45, 77, 78, 79, 80, 81, 82, 83, 84, 85, 86, 87, 88, 89, 90, 91, 92, 93, 94] (by decide +kernel) (by decide +kernel)
set_option maxRecDepth 20000 in
theorem gX0_bitsAhead_X0_solvedBits : GoodIn wsX0_bitsAhead (wsV RX0 116 RX0 yX0_solvedBits wsX0_solvedBits) := goodIn_app (goodIn_of _ (by decide +kernel)) ggX0_bitsAhead_X0_solvedBits
theorem dX0_bitsAhead_0 : decode cX0_bitsAhead 0 = .ok (.aload_n 0, 1) := by decide +kernel
theorem dX0_bitsAhead_1 : decode cX0_bitsAhead 1 = .ok (.iload_n 1, 1) := by decide +kernel
theorem dX0_bitsAhead_2 : decode cX0_bitsAhead 2 = .ok (.invokevirtual 70, 3) := by decide +kernel
theorem dX0_bitsAhead_5 : decode cX0_bitsAhead 5 = .ok (.ifCond .eq 11, 3) := by decide +kernel
theorem dX0_bitsAhead_8 : decode cX0_bitsAhead 8 = .ok (.aload_n 0, 1) := by decide +kernel
theorem dX0_bitsAhead_9 : decode cX0_bitsAhead 9 = .ok (.iload_n 2, 1) := by decide +kernel
theorem dX0_bitsAhead_10 : decode cX0_bitsAhead 10 = .ok (.invokevirtual 101, 3) := by decide +kernel
theorem dX0_bitsAhead_13 : decode cX0_bitsAhead 13 = .ok (.ifCond .ne 5, 3) := by decide +kernel
theorem dX0_bitsAhead_16 : decode cX0_bitsAhead 16 = .ok (.iconst 0, 1) := by decide +kernel
theorem dX0_bitsAhead_17 : decode cX0_bitsAhead 17 = .ok (.ireturn, 1) := by decide +kernel
theorem dX0_bitsAhead_18 : decode cX0_bitsAhead 18 = .ok (.aload_n 0, 1) := by decide +kernel
theorem dX0_bitsAhead_19 : decode cX0_bitsAhead 19 = .ok (.invokevirtual 77, 3) := by decide +kernel
theorem dX0_bitsAhead_22 : decode cX0_bitsAhead 22 = .ok (.aload_n 0, 1) := by decide +kernel
theorem dX0_bitsAhead_23 : decode cX0_bitsAhead 23 = .ok (.iload_n 1, 1) := by decide +kernel
theorem dX0_bitsAhead_24 : decode cX0_bitsAhead 24 = .ok (.iload_n 2, 1) := by decide +kernel
theorem dX0_bitsAhead_25 : decode cX0_bitsAhead 25 = .ok (.iload_n 3, 1) := by decide +kernel
theorem dX0_bitsAhead_26 : decode cX0_bitsAhead 26 = .ok (.invokevirtual 116, 3) := by decide +kernel
theorem dX0_bitsAhead_29 : decode cX0_bitsAhead 29 = .ok (.ireturn, 1) := by decide +kernel
set_option maxRecDepth 20000 in
theorem ggX0_solvedBits_X0_wordOf : GoodIn wsX0_solvedBits wsX0_wordOf := goodIn_r _ [5] (by decide +kernel) (by decide +kernel)
set_option maxRecDepth 20000 in
theorem gX0_solvedBits_X0_wordOf : GoodIn wsX0_solvedBits (va_wsS RX0 119 yX0_wordOf wsX0_wordOf) := goodIn_app (goodIn_of _ (by decide +kernel)) ggX0_solvedBits_X0_wordOf
set_option maxRecDepth 20000 in
theorem ggX0_solvedBits_X0_shiftOf : GoodIn wsX0_solvedBits wsX0_shiftOf := goodIn_r _ [8] (by decide +kernel) (by decide +kernel)
set_option maxRecDepth 20000 in
theorem gX0_solvedBits_X0_shiftOf : GoodIn wsX0_solvedBits (va_wsS RX0 113 yX0_shiftOf wsX0_shiftOf) := goodIn_app (goodIn_of _ (by decide +kernel)) ggX0_solvedBits_X0_shiftOf
set_option maxRecDepth 20000 in
theorem ggX0_solvedBits_X0_lowBits : GoodIn wsX0_solvedBits wsX0_lowBits := goodIn_r _ [11] (by decide +kernel) (by decide +kernel)
set_option maxRecDepth 20000 in
theorem gX0_solvedBits_X0_lowBits : GoodIn wsX0_solvedBits (va_wsS RX0 107 yX0_lowBits wsX0_lowBits) := goodIn_app (goodIn_of _ (by decide +kernel)) ggX0_solvedBits_X0_lowBits
theorem dX0_solvedBits_0 : decode cX0_solvedBits 0 = .ok (.aload_n 0, 1) := by decide +kernel
theorem dX0_solvedBits_1 : decode cX0_solvedBits 1 = .ok (.getfield 38, 3) := by decide +kernel
theorem dX0_solvedBits_4 : decode cX0_solvedBits 4 = .ok (.iload_n 1, 1) := by decide +kernel
theorem dX0_solvedBits_5 : decode cX0_solvedBits 5 = .ok (.bipush 6, 2) := by decide +kernel
theorem dX0_solvedBits_7 : decode cX0_solvedBits 7 = .ok (.imul, 1) := by decide +kernel
theorem dX0_solvedBits_8 : decode cX0_solvedBits 8 = .ok (.iload_n 3, 1) := by decide +kernel
theorem dX0_solvedBits_9 : decode cX0_solvedBits 9 = .ok (.iadd, 1) := by decide +kernel
theorem dX0_solvedBits_10 : decode cX0_solvedBits 10 = .ok (.iload_n 2, 1) := by decide +kernel
theorem dX0_solvedBits_11 : decode cX0_solvedBits 11 = .ok (.invokestatic 119, 3) := by decide +kernel
theorem dX0_solvedBits_14 : decode cX0_solvedBits 14 = .ok (.iadd, 1) := by decide +kernel
theorem dX0_solvedBits_15 : decode cX0_solvedBits 15 = .ok (.laload, 1) := by decide +kernel
theorem dX0_solvedBits_16 : decode cX0_solvedBits 16 = .ok (.lstore 4, 2) := by decide +kernel
theorem dX0_solvedBits_18 : decode cX0_solvedBits 18 = .ok (.lload 4, 2) := by decide +kernel
theorem dX0_solvedBits_20 : decode cX0_solvedBits 20 = .ok (.iload_n 2, 1) := by decide +kernel
theorem dX0_solvedBits_21 : decode cX0_solvedBits 21 = .ok (.invokestatic 113, 3) := by decide +kernel
theorem dX0_solvedBits_24 : decode cX0_solvedBits 24 = .ok (.lushr, 1) := by decide +kernel
theorem dX0_solvedBits_25 : decode cX0_solvedBits 25 = .ok (.l2i, 1) := by decide +kernel
theorem dX0_solvedBits_26 : decode cX0_solvedBits 26 = .ok (.bipush 8, 2) := by decide +kernel
theorem dX0_solvedBits_28 : decode cX0_solvedBits 28 = .ok (.invokestatic 107, 3) := by decide +kernel
theorem dX0_solvedBits_31 : decode cX0_solvedBits 31 = .ok (.iand, 1) := by decide +kernel
theorem dX0_solvedBits_32 : decode cX0_solvedBits 32 = .ok (.ireturn, 1) := by decide +kernel
set_option maxRecDepth 20000 in
theorem ggX0_faultOfPoint_X0_solvedBits : GoodIn wsX0_faultOfPoint wsX0_solvedBits := goodIn_r _ [10, 11, 12, 13, 9, 14, 15, 16, 17, 18, 19, 20, 26, 27, 28, 29, 30, 31, 32, 33, 34, 35, 36, 37, 38, 39, 40, 41, 42, 43] (by decide +kernel) (by decide +kernel)
set_option maxRecDepth 20000 in
theorem gX0_faultOfPoint_X0_solvedBits : GoodIn wsX0_faultOfPoint (wsV RX0 116 RX0 yX0_solvedBits wsX0_solvedBits) := goodIn_app (goodIn_of _ (by decide +kernel)) ggX0_faultOfPoint_X0_solvedBits
set_option maxRecDepth 20000 in
theorem ggX0_faultOfPoint_X0_allParts : GoodIn wsX0_faultOfPoint wsX0_allParts := goodIn_r _ [24, 25, 18, 19, 9, 20, 26, 27, 28, 29, 30, 31, 32, 33, 34, 35, 36, 37, 38, 39, 40, 41, 42, 43] (by decide +kernel) (by decide +kernel)
set_option maxRecDepth 20000 in
theorem gX0_faultOfPoint_X0_allParts : GoodIn wsX0_faultOfPoint (wsV RX0 110 RX0 yX0_allParts wsX0_allParts) := goodIn_app (goodIn_of _ (by decide +kernel)) ggX0_faultOfPoint_X0_allParts
theorem dX0_faultOfPoint_0 : decode cX0_faultOfPoint 0 = .ok (.aload_n 0, 1) := by decide +kernel
theorem dX0_faultOfPoint_1 : decode cX0_faultOfPoint 1 = .ok (.getfield 35, 3) := by decide +kernel
theorem dX0_faultOfPoint_4 : decode cX0_faultOfPoint 4 = .ok (.iload_n 1, 1) := by decide +kernel
theorem dX0_faultOfPoint_5 : decode cX0_faultOfPoint 5 = .ok (.baload, 1) := by decide +kernel
theorem dX0_faultOfPoint_6 : decode cX0_faultOfPoint 6 = .ok (.ifCond .ne 5, 3) := by decide +kernel
theorem dX0_faultOfPoint_9 : decode cX0_faultOfPoint 9 = .ok (.iconst 0, 1) := by decide +kernel
theorem dX0_faultOfPoint_10 : decode cX0_faultOfPoint 10 = .ok (.ireturn, 1) := by decide +kernel
theorem dX0_faultOfPoint_11 : decode cX0_faultOfPoint 11 = .ok (.aload_n 0, 1) := by decide +kernel
theorem dX0_faultOfPoint_12 : decode cX0_faultOfPoint 12 = .ok (.getfield 20, 3) := by decide +kernel
theorem dX0_faultOfPoint_15 : decode cX0_faultOfPoint 15 = .ok (.iload_n 1, 1) := by decide +kernel
theorem dX0_faultOfPoint_16 : decode cX0_faultOfPoint 16 = .ok (.iaload, 1) := by decide +kernel
theorem dX0_faultOfPoint_17 : decode cX0_faultOfPoint 17 = .ok (.istore_n 2, 1) := by decide +kernel
theorem dX0_faultOfPoint_18 : decode cX0_faultOfPoint 18 = .ok (.aload_n 0, 1) := by decide +kernel
theorem dX0_faultOfPoint_19 : decode cX0_faultOfPoint 19 = .ok (.getfield 23, 3) := by decide +kernel
theorem dX0_faultOfPoint_22 : decode cX0_faultOfPoint 22 = .ok (.iload_n 1, 1) := by decide +kernel
theorem dX0_faultOfPoint_23 : decode cX0_faultOfPoint 23 = .ok (.iaload, 1) := by decide +kernel
theorem dX0_faultOfPoint_24 : decode cX0_faultOfPoint 24 = .ok (.istore_n 3, 1) := by decide +kernel
theorem dX0_faultOfPoint_25 : decode cX0_faultOfPoint 25 = .ok (.iload_n 2, 1) := by decide +kernel
theorem dX0_faultOfPoint_26 : decode cX0_faultOfPoint 26 = .ok (.iconst 2, 1) := by decide +kernel
theorem dX0_faultOfPoint_27 : decode cX0_faultOfPoint 27 = .ok (.if_icmp .eq 8, 3) := by decide +kernel
theorem dX0_faultOfPoint_30 : decode cX0_faultOfPoint 30 = .ok (.iload_n 2, 1) := by decide +kernel
theorem dX0_faultOfPoint_31 : decode cX0_faultOfPoint 31 = .ok (.iconst 3, 1) := by decide +kernel
theorem dX0_faultOfPoint_32 : decode cX0_faultOfPoint 32 = .ok (.if_icmp .ne 30, 3) := by decide +kernel
theorem dX0_faultOfPoint_35 : decode cX0_faultOfPoint 35 = .ok (.aload_n 0, 1) := by decide +kernel
theorem dX0_faultOfPoint_36 : decode cX0_faultOfPoint 36 = .ok (.iload_n 1, 1) := by decide +kernel
theorem dX0_faultOfPoint_37 : decode cX0_faultOfPoint 37 = .ok (.iload_n 3, 1) := by decide +kernel
theorem dX0_faultOfPoint_38 : decode cX0_faultOfPoint 38 = .ok (.iconst 0, 1) := by decide +kernel
theorem dX0_faultOfPoint_39 : decode cX0_faultOfPoint 39 = .ok (.invokevirtual 116, 3) := by decide +kernel
theorem dX0_faultOfPoint_42 : decode cX0_faultOfPoint 42 = .ok (.aload_n 0, 1) := by decide +kernel
theorem dX0_faultOfPoint_43 : decode cX0_faultOfPoint 43 = .ok (.getfield 26, 3) := by decide +kernel
theorem dX0_faultOfPoint_46 : decode cX0_faultOfPoint 46 = .ok (.iload_n 1, 1) := by decide +kernel
theorem dX0_faultOfPoint_47 : decode cX0_faultOfPoint 47 = .ok (.iaload, 1) := by decide +kernel
theorem dX0_faultOfPoint_48 : decode cX0_faultOfPoint 48 = .ok (.iand, 1) := by decide +kernel
theorem dX0_faultOfPoint_49 : decode cX0_faultOfPoint 49 = .ok (.istore 4, 2) := by decide +kernel
theorem dX0_faultOfPoint_51 : decode cX0_faultOfPoint 51 = .ok (.iload 4, 2) := by decide +kernel
theorem dX0_faultOfPoint_53 : decode cX0_faultOfPoint 53 = .ok (.ifCond .eq 7, 3) := by decide +kernel
theorem dX0_faultOfPoint_56 : decode cX0_faultOfPoint 56 = .ok (.iconst 1, 1) := by decide +kernel
theorem dX0_faultOfPoint_57 : decode cX0_faultOfPoint 57 = .ok (.goto 4, 3) := by decide +kernel
theorem dX0_faultOfPoint_60 : decode cX0_faultOfPoint 60 = .ok (.iconst 0, 1) := by decide +kernel
theorem dX0_faultOfPoint_61 : decode cX0_faultOfPoint 61 = .ok (.ireturn, 1) := by decide +kernel
theorem dX0_faultOfPoint_62 : decode cX0_faultOfPoint 62 = .ok (.iload_n 2, 1) := by decide +kernel
theorem dX0_faultOfPoint_63 : decode cX0_faultOfPoint 63 = .ok (.iconst 1, 1) := by decide +kernel
theorem dX0_faultOfPoint_64 : decode cX0_faultOfPoint 64 = .ok (.if_icmp .ne 12, 3) := by decide +kernel
theorem dX0_faultOfPoint_67 : decode cX0_faultOfPoint 67 = .ok (.aload_n 0, 1) := by decide +kernel
theorem dX0_faultOfPoint_68 : decode cX0_faultOfPoint 68 = .ok (.getfield 13, 3) := by decide +kernel
theorem dX0_faultOfPoint_71 : decode cX0_faultOfPoint 71 = .ok (.iload_n 3, 1) := by decide +kernel
theorem dX0_faultOfPoint_72 : decode cX0_faultOfPoint 72 = .ok (.baload, 1) := by decide +kernel
theorem dX0_faultOfPoint_73 : decode cX0_faultOfPoint 73 = .ok (.ifCond .ne 5, 3) := by decide +kernel
theorem dX0_faultOfPoint_76 : decode cX0_faultOfPoint 76 = .ok (.iconst 0, 1) := by decide +kernel
theorem dX0_faultOfPoint_77 : decode cX0_faultOfPoint 77 = .ok (.ireturn, 1) := by decide +kernel
theorem dX0_faultOfPoint_78 : decode cX0_faultOfPoint 78 = .ok (.aload_n 0, 1) := by decide +kernel
theorem dX0_faultOfPoint_79 : decode cX0_faultOfPoint 79 = .ok (.getfield 26, 3) := by decide +kernel
theorem dX0_faultOfPoint_82 : decode cX0_faultOfPoint 82 = .ok (.iload_n 1, 1) := by decide +kernel
theorem dX0_faultOfPoint_83 : decode cX0_faultOfPoint 83 = .ok (.iaload, 1) := by decide +kernel
theorem dX0_faultOfPoint_84 : decode cX0_faultOfPoint 84 = .ok (.aload_n 0, 1) := by decide +kernel
theorem dX0_faultOfPoint_85 : decode cX0_faultOfPoint 85 = .ok (.iload_n 3, 1) := by decide +kernel
theorem dX0_faultOfPoint_86 : decode cX0_faultOfPoint 86 = .ok (.invokevirtual 110, 3) := by decide +kernel
theorem dX0_faultOfPoint_89 : decode cX0_faultOfPoint 89 = .ok (.if_icmp .eq 5, 3) := by decide +kernel
theorem dX0_faultOfPoint_92 : decode cX0_faultOfPoint 92 = .ok (.iconst 3, 1) := by decide +kernel
theorem dX0_faultOfPoint_93 : decode cX0_faultOfPoint 93 = .ok (.ireturn, 1) := by decide +kernel
theorem dX0_faultOfPoint_94 : decode cX0_faultOfPoint 94 = .ok (.aload_n 0, 1) := by decide +kernel
theorem dX0_faultOfPoint_95 : decode cX0_faultOfPoint 95 = .ok (.iload_n 1, 1) := by decide +kernel
theorem dX0_faultOfPoint_96 : decode cX0_faultOfPoint 96 = .ok (.iload_n 3, 1) := by decide +kernel
theorem dX0_faultOfPoint_97 : decode cX0_faultOfPoint 97 = .ok (.iconst 3, 1) := by decide +kernel
theorem dX0_faultOfPoint_98 : decode cX0_faultOfPoint 98 = .ok (.invokevirtual 116, 3) := by decide +kernel
theorem dX0_faultOfPoint_101 : decode cX0_faultOfPoint 101 = .ok (.ifCond .eq 7, 3) := by decide +kernel
theorem dX0_faultOfPoint_104 : decode cX0_faultOfPoint 104 = .ok (.iconst 2, 1) := by decide +kernel
theorem dX0_faultOfPoint_105 : decode cX0_faultOfPoint 105 = .ok (.goto 4, 3) := by decide +kernel
theorem dX0_faultOfPoint_108 : decode cX0_faultOfPoint 108 = .ok (.iconst 0, 1) := by decide +kernel
theorem dX0_faultOfPoint_109 : decode cX0_faultOfPoint 109 = .ok (.ireturn, 1) := by decide +kernel
set_option maxRecDepth 20000 in
theorem ggX0_countReached_X0_solve : GoodIn wsX0_countReached wsX0_solve := goodIn_r _ [7, 8, 9, 10, 11, 12, 13, 14, 15, 6, 16, 17, 1, 2, 18, 19, 20, 21, 22, 23, 24, 25, 26, 27, 28, 29, 30, 31, 32, 33, 34, 35, 36, 37, 38, 39, 40, 41, 42, 43, 44, 45, 46, 47, 48, 49, 50, 51, 52, 53, 54, 55, 56, 57, 58, 59, 60, 61, 62, 63, 64, 65, 66, 67, 68, 69, 70, 71, 72, 73, 74, 75, 76, 77, 78, 79, 80, 81, 82, 83, 84, 85, 86] (by decide +kernel) (by decide +kernel)
set_option maxRecDepth 20000 in
theorem gX0_countReached_X0_solve : GoodIn wsX0_countReached (wsV RX0 77 RX0 yX0_solve wsX0_solve) := goodIn_app (goodIn_of _ (by decide +kernel)) ggX0_countReached_X0_solve
theorem dX0_countReached_0 : decode cX0_countReached 0 = .ok (.aload_n 0, 1) := by decide +kernel
theorem dX0_countReached_1 : decode cX0_countReached 1 = .ok (.invokevirtual 77, 3) := by decide +kernel
theorem dX0_countReached_4 : decode cX0_countReached 4 = .ok (.iconst 0, 1) := by decide +kernel
theorem dX0_countReached_5 : decode cX0_countReached 5 = .ok (.istore_n 1, 1) := by decide +kernel
theorem dX0_countReached_6 : decode cX0_countReached 6 = .ok (.iconst 0, 1) := by decide +kernel
theorem dX0_countReached_7 : decode cX0_countReached 7 = .ok (.istore_n 2, 1) := by decide +kernel
theorem dX0_countReached_8 : decode cX0_countReached 8 = .ok (.iload_n 2, 1) := by decide +kernel
theorem dX0_countReached_9 : decode cX0_countReached 9 = .ok (.aload_n 0, 1) := by decide +kernel
theorem dX0_countReached_10 : decode cX0_countReached 10 = .ok (.getfield 59, 3) := by decide +kernel
theorem dX0_countReached_13 : decode cX0_countReached 13 = .ok (.if_icmp .ge 21, 3) := by decide +kernel
theorem dX0_countReached_16 : decode cX0_countReached 16 = .ok (.aload_n 0, 1) := by decide +kernel
theorem dX0_countReached_17 : decode cX0_countReached 17 = .ok (.getfield 35, 3) := by decide +kernel
theorem dX0_countReached_20 : decode cX0_countReached 20 = .ok (.iload_n 2, 1) := by decide +kernel
theorem dX0_countReached_21 : decode cX0_countReached 21 = .ok (.baload, 1) := by decide +kernel
theorem dX0_countReached_22 : decode cX0_countReached 22 = .ok (.ifCond .eq 6, 3) := by decide +kernel
theorem dX0_countReached_25 : decode cX0_countReached 25 = .ok (.iinc 1 1, 3) := by decide +kernel
theorem dX0_countReached_28 : decode cX0_countReached 28 = .ok (.iinc 2 1, 3) := by decide +kernel
theorem dX0_countReached_31 : decode cX0_countReached 31 = .ok (.goto (-23), 3) := by decide +kernel
theorem dX0_countReached_34 : decode cX0_countReached 34 = .ok (.iload_n 1, 1) := by decide +kernel
theorem dX0_countReached_35 : decode cX0_countReached 35 = .ok (.ireturn, 1) := by decide +kernel
set_option maxRecDepth 20000 in
theorem ggX0_countFaults_X0_solve : GoodIn wsX0_countFaults wsX0_solve := goodIn_r _ [6, 7, 8, 9, 10, 11, 12, 13, 14, 5, 15, 16, 1, 17, 18, 19, 20, 21, 22, 23, 24, 25, 26, 27, 28, 29, 30, 31, 32, 33, 34, 35, 36, 37, 38, 39, 40, 41, 42, 43, 44, 45, 46, 47, 48, 49, 50, 51, 52, 53, 54, 55, 56, 57, 58, 59, 60, 61, 62, 63, 64, 65, 66, 67, 68, 78, 79, 80, 81, 82, 83, 84, 85, 86, 87, 88, 89, 90, 91, 92, 93, 94, 95] (by decide +kernel) (by decide +kernel)
set_option maxRecDepth 20000 in
theorem gX0_countFaults_X0_solve : GoodIn wsX0_countFaults (wsV RX0 77 RX0 yX0_solve wsX0_solve) := goodIn_app (goodIn_of _ (by decide +kernel)) ggX0_countFaults_X0_solve
set_option maxRecDepth 20000 in
theorem ggX0_countFaults_X0_faultOfPoint : GoodIn wsX0_countFaults wsX0_faultOfPoint := goodIn_r _ [72, 17, 65, 66, 67, 73, 74, 75, 76, 5, 77, 19, 27, 28, 29, 41, 42, 43, 35, 36, 37, 30, 31, 32, 33, 34, 78, 79, 80, 81, 82, 83, 84, 85, 86, 87, 88, 89, 90, 91, 92, 93, 94, 95] (by decide +kernel) (by decide +kernel)
set_option maxRecDepth 20000 in
theorem gX0_countFaults_X0_faultOfPoint : GoodIn wsX0_countFaults (wsV RX0 84 RX0 yX0_faultOfPoint wsX0_faultOfPoint) := goodIn_app (goodIn_of _ (by decide +kernel)) ggX0_countFaults_X0_faultOfPoint
theorem dX0_countFaults_0 : decode cX0_countFaults 0 = .ok (.aload_n 0, 1) := by decide +kernel
theorem dX0_countFaults_1 : decode cX0_countFaults 1 = .ok (.invokevirtual 77, 3) := by decide +kernel
theorem dX0_countFaults_4 : decode cX0_countFaults 4 = .ok (.iconst 0, 1) := by decide +kernel
theorem dX0_countFaults_5 : decode cX0_countFaults 5 = .ok (.istore_n 1, 1) := by decide +kernel
theorem dX0_countFaults_6 : decode cX0_countFaults 6 = .ok (.iconst 0, 1) := by decide +kernel
theorem dX0_countFaults_7 : decode cX0_countFaults 7 = .ok (.istore_n 2, 1) := by decide +kernel
theorem dX0_countFaults_8 : decode cX0_countFaults 8 = .ok (.iload_n 2, 1) := by decide +kernel
theorem dX0_countFaults_9 : decode cX0_countFaults 9 = .ok (.aload_n 0, 1) := by decide +kernel
theorem dX0_countFaults_10 : decode cX0_countFaults 10 = .ok (.getfield 59, 3) := by decide +kernel
theorem dX0_countFaults_13 : decode cX0_countFaults 13 = .ok (.if_icmp .ge 20, 3) := by decide +kernel
theorem dX0_countFaults_16 : decode cX0_countFaults 16 = .ok (.aload_n 0, 1) := by decide +kernel
theorem dX0_countFaults_17 : decode cX0_countFaults 17 = .ok (.iload_n 2, 1) := by decide +kernel
theorem dX0_countFaults_18 : decode cX0_countFaults 18 = .ok (.invokevirtual 84, 3) := by decide +kernel
theorem dX0_countFaults_21 : decode cX0_countFaults 21 = .ok (.ifCond .eq 6, 3) := by decide +kernel
theorem dX0_countFaults_24 : decode cX0_countFaults 24 = .ok (.iinc 1 1, 3) := by decide +kernel
theorem dX0_countFaults_27 : decode cX0_countFaults 27 = .ok (.iinc 2 1, 3) := by decide +kernel
theorem dX0_countFaults_30 : decode cX0_countFaults 30 = .ok (.goto (-22), 3) := by decide +kernel
theorem dX0_countFaults_33 : decode cX0_countFaults 33 = .ok (.iload_n 1, 1) := by decide +kernel
theorem dX0_countFaults_34 : decode cX0_countFaults 34 = .ok (.ireturn, 1) := by decide +kernel
set_option maxRecDepth 20000 in
theorem ggX0_firstFault_X0_solve : GoodIn wsX0_firstFault wsX0_solve := goodIn_r _ [6, 7, 8, 9, 10, 11, 12, 13, 14, 5, 15, 16, 1, 17, 18, 19, 20, 21, 22, 23, 24, 25, 26, 27, 28, 29, 30, 31, 32, 33, 34, 35, 36, 37, 38, 39, 40, 41, 42, 43, 44, 45, 46, 47, 48, 49, 50, 51, 52, 53, 54, 55, 56, 57, 58, 59, 60, 61, 62, 63, 64, 65, 66, 67, 68, 78, 79, 80, 81, 82, 83, 84, 85, 86, 87, 88, 89, 90, 91, 92, 93, 94, 95] (by decide +kernel) (by decide +kernel)
set_option maxRecDepth 20000 in
theorem gX0_firstFault_X0_solve : GoodIn wsX0_firstFault (wsV RX0 77 RX0 yX0_solve wsX0_solve) := goodIn_app (goodIn_of _ (by decide +kernel)) ggX0_firstFault_X0_solve
set_option maxRecDepth 20000 in
theorem ggX0_firstFault_X0_faultOfPoint : GoodIn wsX0_firstFault wsX0_faultOfPoint := goodIn_r _ [72, 17, 65, 66, 67, 73, 74, 75, 76, 5, 77, 19, 27, 28, 29, 41, 42, 43, 35, 36, 37, 30, 31, 32, 33, 34, 78, 79, 80, 81, 82, 83, 84, 85, 86, 87, 88, 89, 90, 91, 92, 93, 94, 95] (by decide +kernel) (by decide +kernel)
set_option maxRecDepth 20000 in
theorem gX0_firstFault_X0_faultOfPoint : GoodIn wsX0_firstFault (wsV RX0 84 RX0 yX0_faultOfPoint wsX0_faultOfPoint) := goodIn_app (goodIn_of _ (by decide +kernel)) ggX0_firstFault_X0_faultOfPoint
theorem dX0_firstFault_0 : decode cX0_firstFault 0 = .ok (.aload_n 0, 1) := by decide +kernel
theorem dX0_firstFault_1 : decode cX0_firstFault 1 = .ok (.invokevirtual 77, 3) := by decide +kernel
theorem dX0_firstFault_4 : decode cX0_firstFault 4 = .ok (.iconst 0, 1) := by decide +kernel
theorem dX0_firstFault_5 : decode cX0_firstFault 5 = .ok (.istore_n 1, 1) := by decide +kernel
theorem dX0_firstFault_6 : decode cX0_firstFault 6 = .ok (.iload_n 1, 1) := by decide +kernel
theorem dX0_firstFault_7 : decode cX0_firstFault 7 = .ok (.aload_n 0, 1) := by decide +kernel
theorem dX0_firstFault_8 : decode cX0_firstFault 8 = .ok (.getfield 59, 3) := by decide +kernel
theorem dX0_firstFault_11 : decode cX0_firstFault 11 = .ok (.if_icmp .ge 19, 3) := by decide +kernel
theorem dX0_firstFault_14 : decode cX0_firstFault 14 = .ok (.aload_n 0, 1) := by decide +kernel
theorem dX0_firstFault_15 : decode cX0_firstFault 15 = .ok (.iload_n 1, 1) := by decide +kernel
theorem dX0_firstFault_16 : decode cX0_firstFault 16 = .ok (.invokevirtual 84, 3) := by decide +kernel
theorem dX0_firstFault_19 : decode cX0_firstFault 19 = .ok (.ifCond .eq 5, 3) := by decide +kernel
theorem dX0_firstFault_22 : decode cX0_firstFault 22 = .ok (.iload_n 1, 1) := by decide +kernel
theorem dX0_firstFault_23 : decode cX0_firstFault 23 = .ok (.ireturn, 1) := by decide +kernel
theorem dX0_firstFault_24 : decode cX0_firstFault 24 = .ok (.iinc 1 1, 3) := by decide +kernel
theorem dX0_firstFault_27 : decode cX0_firstFault 27 = .ok (.goto (-21), 3) := by decide +kernel
theorem dX0_firstFault_30 : decode cX0_firstFault 30 = .ok (.iconst (-1), 1) := by decide +kernel
theorem dX0_firstFault_31 : decode cX0_firstFault 31 = .ok (.ireturn, 1) := by decide +kernel
theorem dX0_countParts_0 : decode cX0_countParts 0 = .ok (.iconst 0, 1) := by decide +kernel
theorem dX0_countParts_1 : decode cX0_countParts 1 = .ok (.istore_n 1, 1) := by decide +kernel
theorem dX0_countParts_2 : decode cX0_countParts 2 = .ok (.iconst 0, 1) := by decide +kernel
theorem dX0_countParts_3 : decode cX0_countParts 3 = .ok (.istore_n 2, 1) := by decide +kernel
theorem dX0_countParts_4 : decode cX0_countParts 4 = .ok (.iload_n 2, 1) := by decide +kernel
theorem dX0_countParts_5 : decode cX0_countParts 5 = .ok (.aload_n 0, 1) := by decide +kernel
theorem dX0_countParts_6 : decode cX0_countParts 6 = .ok (.getfield 51, 3) := by decide +kernel
theorem dX0_countParts_9 : decode cX0_countParts 9 = .ok (.if_icmp .ge 18, 3) := by decide +kernel
theorem dX0_countParts_12 : decode cX0_countParts 12 = .ok (.iload_n 1, 1) := by decide +kernel
theorem dX0_countParts_13 : decode cX0_countParts 13 = .ok (.aload_n 0, 1) := by decide +kernel
theorem dX0_countParts_14 : decode cX0_countParts 14 = .ok (.getfield 9, 3) := by decide +kernel
theorem dX0_countParts_17 : decode cX0_countParts 17 = .ok (.iload_n 2, 1) := by decide +kernel
theorem dX0_countParts_18 : decode cX0_countParts 18 = .ok (.iaload, 1) := by decide +kernel
theorem dX0_countParts_19 : decode cX0_countParts 19 = .ok (.iadd, 1) := by decide +kernel
theorem dX0_countParts_20 : decode cX0_countParts 20 = .ok (.istore_n 1, 1) := by decide +kernel
theorem dX0_countParts_21 : decode cX0_countParts 21 = .ok (.iinc 2 1, 3) := by decide +kernel
theorem dX0_countParts_24 : decode cX0_countParts 24 = .ok (.goto (-20), 3) := by decide +kernel
theorem dX0_countParts_27 : decode cX0_countParts 27 = .ok (.iload_n 1, 1) := by decide +kernel
theorem dX0_countParts_28 : decode cX0_countParts 28 = .ok (.ireturn, 1) := by decide +kernel
set_option maxRecDepth 20000 in
theorem ggX0_solve_X0_forgetFlow : GoodIn wsX0_solve wsX0_forgetFlow := goodIn_r _ [10, 11, 3, 12, 13, 14, 15, 65, 66, 67, 68, 69, 70, 71, 72, 73, 74, 75, 76, 77, 78, 79, 80, 81, 82] (by decide +kernel) (by decide +kernel)
set_option maxRecDepth 20000 in
theorem gX0_solve_X0_forgetFlow : GoodIn wsX0_solve (wsV RX0 122 RX0 yX0_forgetFlow wsX0_forgetFlow) := goodIn_app (goodIn_of _ (by decide +kernel)) ggX0_solve_X0_forgetFlow
set_option maxRecDepth 20000 in
theorem ggX0_solve_X0_beginWays : GoodIn wsX0_solve wsX0_beginWays := goodIn_r _ [19, 20, 21, 22, 23, 24, 9, 25, 26, 27, 28, 29, 30, 31, 32, 33, 34, 35, 36, 37, 38, 39, 40, 41, 42, 43, 13, 15, 44, 45, 46, 47, 12, 48, 49, 50, 51, 14, 3, 52, 11, 65, 66, 67, 68, 69, 70, 71, 72, 73, 74, 75, 76, 77, 78, 79, 80, 81, 82] (by decide +kernel) (by decide +kernel)
set_option maxRecDepth 20000 in
theorem gX0_solve_X0_beginWays : GoodIn wsX0_solve (wsV RX0 125 RX0 yX0_beginWays wsX0_beginWays) := goodIn_app (goodIn_of _ (by decide +kernel)) ggX0_solve_X0_beginWays
set_option maxRecDepth 20000 in
theorem ggX0_solve_X0_takeWaiting : GoodIn wsX0_solve wsX0_takeWaiting := goodIn_r _ [56, 52, 11, 3, 14, 65, 66, 67, 68, 69, 70, 71, 72, 73, 74, 75, 76, 77, 78, 79, 80, 81, 82] (by decide +kernel) (by decide +kernel)
set_option maxRecDepth 20000 in
theorem gX0_solve_X0_takeWaiting : GoodIn wsX0_solve (wsV RX0 132 RX0 yX0_takeWaiting wsX0_takeWaiting) := goodIn_app (goodIn_of _ (by decide +kernel)) ggX0_solve_X0_takeWaiting
set_option maxRecDepth 20000 in
theorem ggX0_solve_X0_passThrough : GoodIn wsX0_solve wsX0_passThrough := goodIn_r _ [60, 20, 15, 61, 62, 63, 64, 34, 35, 9, 36, 37, 38, 39, 23, 24, 25, 65, 66, 67, 68, 69, 70, 71, 72, 73, 74, 75, 76, 77, 78, 79, 80, 81, 82] (by decide +kernel) (by decide +kernel)
set_option maxRecDepth 20000 in
theorem gX0_solve_X0_passThrough : GoodIn wsX0_solve (wsV RX0 135 RX0 yX0_passThrough wsX0_passThrough) := goodIn_app (goodIn_of _ (by decide +kernel)) ggX0_solve_X0_passThrough
set_option maxRecDepth 20000 in
theorem ggX0_solve_X0_goOnTo : GoodIn wsX0_solve wsX0_goOnTo := goodIn_r _ [43, 13, 15, 20, 44, 45, 46, 9, 47, 12, 48, 49, 50, 51, 14, 3, 52, 11, 65, 66, 67, 68, 69, 70, 71, 72, 73, 74, 75, 76, 77, 78, 79, 80, 81, 82] (by decide +kernel) (by decide +kernel)
set_option maxRecDepth 20000 in
theorem gX0_solve_X0_goOnTo : GoodIn wsX0_solve (wsV RX0 139 RX0 yX0_goOnTo wsX0_goOnTo) := goodIn_app (goodIn_of _ (by decide +kernel)) ggX0_solve_X0_goOnTo
theorem dX0_solve_0 : decode cX0_solve 0 = .ok (.aload_n 0, 1) := by decide +kernel
theorem dX0_solve_1 : decode cX0_solve 1 = .ok (.getfield 55, 3) := by decide +kernel
theorem dX0_solve_4 : decode cX0_solve 4 = .ok (.ifCond .eq 4, 3) := by decide +kernel
theorem dX0_solve_7 : decode cX0_solve 7 = .ok (.return_, 1) := by decide +kernel
theorem dX0_solve_8 : decode cX0_solve 8 = .ok (.aload_n 0, 1) := by decide +kernel
theorem dX0_solve_9 : decode cX0_solve 9 = .ok (.invokevirtual 122, 3) := by decide +kernel
theorem dX0_solve_12 : decode cX0_solve 12 = .ok (.aload_n 0, 1) := by decide +kernel
theorem dX0_solve_13 : decode cX0_solve 13 = .ok (.invokevirtual 125, 3) := by decide +kernel
theorem dX0_solve_16 : decode cX0_solve 16 = .ok (.iconst 0, 1) := by decide +kernel
theorem dX0_solve_17 : decode cX0_solve 17 = .ok (.istore_n 1, 1) := by decide +kernel
theorem dX0_solve_18 : decode cX0_solve 18 = .ok (.iload_n 1, 1) := by decide +kernel
theorem dX0_solve_19 : decode cX0_solve 19 = .ok (.ldc 128, 2) := by decide +kernel
theorem dX0_solve_21 : decode cX0_solve 21 = .ok (.if_icmp .ge 46, 3) := by decide +kernel
theorem dX0_solve_24 : decode cX0_solve 24 = .ok (.aload_n 0, 1) := by decide +kernel
theorem dX0_solve_25 : decode cX0_solve 25 = .ok (.getfield 129, 3) := by decide +kernel
theorem dX0_solve_28 : decode cX0_solve 28 = .ok (.ifCond .le 39, 3) := by decide +kernel
theorem dX0_solve_31 : decode cX0_solve 31 = .ok (.aload_n 0, 1) := by decide +kernel
theorem dX0_solve_32 : decode cX0_solve 32 = .ok (.invokevirtual 132, 3) := by decide +kernel
theorem dX0_solve_35 : decode cX0_solve 35 = .ok (.istore_n 2, 1) := by decide +kernel
theorem dX0_solve_36 : decode cX0_solve 36 = .ok (.aload_n 0, 1) := by decide +kernel
theorem dX0_solve_37 : decode cX0_solve 37 = .ok (.iload_n 2, 1) := by decide +kernel
theorem dX0_solve_38 : decode cX0_solve 38 = .ok (.invokevirtual 135, 3) := by decide +kernel
theorem dX0_solve_41 : decode cX0_solve 41 = .ok (.aload_n 0, 1) := by decide +kernel
theorem dX0_solve_42 : decode cX0_solve 42 = .ok (.aload_n 0, 1) := by decide +kernel
theorem dX0_solve_43 : decode cX0_solve 43 = .ok (.getfield 29, 3) := by decide +kernel
theorem dX0_solve_46 : decode cX0_solve 46 = .ok (.iload_n 2, 1) := by decide +kernel
theorem dX0_solve_47 : decode cX0_solve 47 = .ok (.iaload, 1) := by decide +kernel
theorem dX0_solve_48 : decode cX0_solve 48 = .ok (.invokevirtual 139, 3) := by decide +kernel
theorem dX0_solve_51 : decode cX0_solve 51 = .ok (.aload_n 0, 1) := by decide +kernel
theorem dX0_solve_52 : decode cX0_solve 52 = .ok (.aload_n 0, 1) := by decide +kernel
theorem dX0_solve_53 : decode cX0_solve 53 = .ok (.getfield 32, 3) := by decide +kernel
theorem dX0_solve_56 : decode cX0_solve 56 = .ok (.iload_n 2, 1) := by decide +kernel
theorem dX0_solve_57 : decode cX0_solve 57 = .ok (.iaload, 1) := by decide +kernel
theorem dX0_solve_58 : decode cX0_solve 58 = .ok (.invokevirtual 139, 3) := by decide +kernel
theorem dX0_solve_61 : decode cX0_solve 61 = .ok (.iinc 1 1, 3) := by decide +kernel
theorem dX0_solve_64 : decode cX0_solve 64 = .ok (.goto (-46), 3) := by decide +kernel
theorem dX0_solve_67 : decode cX0_solve 67 = .ok (.aload_n 0, 1) := by decide +kernel
theorem dX0_solve_68 : decode cX0_solve 68 = .ok (.iconst 1, 1) := by decide +kernel
theorem dX0_solve_69 : decode cX0_solve 69 = .ok (.putfield 55, 3) := by decide +kernel
theorem dX0_solve_72 : decode cX0_solve 72 = .ok (.return_, 1) := by decide +kernel
theorem dX0_forgetFlow_0 : decode cX0_forgetFlow 0 = .ok (.aload_n 0, 1) := by decide +kernel
theorem dX0_forgetFlow_1 : decode cX0_forgetFlow 1 = .ok (.iconst 0, 1) := by decide +kernel
theorem dX0_forgetFlow_2 : decode cX0_forgetFlow 2 = .ok (.putfield 142, 3) := by decide +kernel
theorem dX0_forgetFlow_5 : decode cX0_forgetFlow 5 = .ok (.aload_n 0, 1) := by decide +kernel
theorem dX0_forgetFlow_6 : decode cX0_forgetFlow 6 = .ok (.iconst 0, 1) := by decide +kernel
theorem dX0_forgetFlow_7 : decode cX0_forgetFlow 7 = .ok (.putfield 129, 3) := by decide +kernel
theorem dX0_forgetFlow_10 : decode cX0_forgetFlow 10 = .ok (.iconst 0, 1) := by decide +kernel
theorem dX0_forgetFlow_11 : decode cX0_forgetFlow 11 = .ok (.istore_n 1, 1) := by decide +kernel
theorem dX0_forgetFlow_12 : decode cX0_forgetFlow 12 = .ok (.iload_n 1, 1) := by decide +kernel
theorem dX0_forgetFlow_13 : decode cX0_forgetFlow 13 = .ok (.aload_n 0, 1) := by decide +kernel
theorem dX0_forgetFlow_14 : decode cX0_forgetFlow 14 = .ok (.getfield 59, 3) := by decide +kernel
theorem dX0_forgetFlow_17 : decode cX0_forgetFlow 17 = .ok (.if_icmp .ge 23, 3) := by decide +kernel
theorem dX0_forgetFlow_20 : decode cX0_forgetFlow 20 = .ok (.aload_n 0, 1) := by decide +kernel
theorem dX0_forgetFlow_21 : decode cX0_forgetFlow 21 = .ok (.getfield 35, 3) := by decide +kernel
theorem dX0_forgetFlow_24 : decode cX0_forgetFlow 24 = .ok (.iload_n 1, 1) := by decide +kernel
theorem dX0_forgetFlow_25 : decode cX0_forgetFlow 25 = .ok (.iconst 0, 1) := by decide +kernel
theorem dX0_forgetFlow_26 : decode cX0_forgetFlow 26 = .ok (.bastore, 1) := by decide +kernel
theorem dX0_forgetFlow_27 : decode cX0_forgetFlow 27 = .ok (.aload_n 0, 1) := by decide +kernel
theorem dX0_forgetFlow_28 : decode cX0_forgetFlow 28 = .ok (.getfield 48, 3) := by decide +kernel
theorem dX0_forgetFlow_31 : decode cX0_forgetFlow 31 = .ok (.iload_n 1, 1) := by decide +kernel
theorem dX0_forgetFlow_32 : decode cX0_forgetFlow 32 = .ok (.iconst 0, 1) := by decide +kernel
theorem dX0_forgetFlow_33 : decode cX0_forgetFlow 33 = .ok (.bastore, 1) := by decide +kernel
theorem dX0_forgetFlow_34 : decode cX0_forgetFlow 34 = .ok (.iinc 1 1, 3) := by decide +kernel
theorem dX0_forgetFlow_37 : decode cX0_forgetFlow 37 = .ok (.goto (-25), 3) := by decide +kernel
theorem dX0_forgetFlow_40 : decode cX0_forgetFlow 40 = .ok (.iconst 0, 1) := by decide +kernel
theorem dX0_forgetFlow_41 : decode cX0_forgetFlow 41 = .ok (.istore_n 1, 1) := by decide +kernel
theorem dX0_forgetFlow_42 : decode cX0_forgetFlow 42 = .ok (.iload_n 1, 1) := by decide +kernel
theorem dX0_forgetFlow_43 : decode cX0_forgetFlow 43 = .ok (.aload_n 0, 1) := by decide +kernel
theorem dX0_forgetFlow_44 : decode cX0_forgetFlow 44 = .ok (.getfield 59, 3) := by decide +kernel
theorem dX0_forgetFlow_47 : decode cX0_forgetFlow 47 = .ok (.bipush 6, 2) := by decide +kernel
theorem dX0_forgetFlow_49 : decode cX0_forgetFlow 49 = .ok (.imul, 1) := by decide +kernel
theorem dX0_forgetFlow_50 : decode cX0_forgetFlow 50 = .ok (.if_icmp .ge 16, 3) := by decide +kernel
theorem dX0_forgetFlow_53 : decode cX0_forgetFlow 53 = .ok (.aload_n 0, 1) := by decide +kernel
theorem dX0_forgetFlow_54 : decode cX0_forgetFlow 54 = .ok (.getfield 38, 3) := by decide +kernel
theorem dX0_forgetFlow_57 : decode cX0_forgetFlow 57 = .ok (.iload_n 1, 1) := by decide +kernel
theorem dX0_forgetFlow_58 : decode cX0_forgetFlow 58 = .ok (.lconst 0, 1) := by decide +kernel
theorem dX0_forgetFlow_59 : decode cX0_forgetFlow 59 = .ok (.lastore, 1) := by decide +kernel
theorem dX0_forgetFlow_60 : decode cX0_forgetFlow 60 = .ok (.iinc 1 1, 3) := by decide +kernel
theorem dX0_forgetFlow_63 : decode cX0_forgetFlow 63 = .ok (.goto (-21), 3) := by decide +kernel
theorem dX0_forgetFlow_66 : decode cX0_forgetFlow 66 = .ok (.return_, 1) := by decide +kernel
set_option maxRecDepth 20000 in
theorem ggX0_beginWays_X0_wordOf : GoodIn wsX0_beginWays wsX0_wordOf := goodIn_r _ [7] (by decide +kernel) (by decide +kernel)
set_option maxRecDepth 20000 in
theorem gX0_beginWays_X0_wordOf : GoodIn wsX0_beginWays (va_wsS RX0 119 yX0_wordOf wsX0_wordOf) := goodIn_app (goodIn_of _ (by decide +kernel)) ggX0_beginWays_X0_wordOf
set_option maxRecDepth 20000 in
theorem ggX0_beginWays_X0_allParts : GoodIn wsX0_beginWays wsX0_allParts := goodIn_r _ [11, 12, 13, 14, 6, 15, 41, 42, 43, 44, 45, 46, 47, 48, 49, 50, 51, 52, 53, 54, 55, 56, 57, 58] (by decide +kernel) (by decide +kernel)
set_option maxRecDepth 20000 in
theorem gX0_beginWays_X0_allParts : GoodIn wsX0_beginWays (wsV RX0 110 RX0 yX0_allParts wsX0_allParts) := goodIn_app (goodIn_of _ (by decide +kernel)) ggX0_beginWays_X0_allParts
set_option maxRecDepth 20000 in
theorem ggX0_beginWays_X0_inWord : GoodIn wsX0_beginWays wsX0_inWord := goodIn_r _ [18, 19, 20, 6, 21] (by decide +kernel) (by decide +kernel)
set_option maxRecDepth 20000 in
theorem gX0_beginWays_X0_inWord : GoodIn wsX0_beginWays (va_wsS RX0 145 yX0_inWord wsX0_inWord) := goodIn_app (goodIn_of _ (by decide +kernel)) ggX0_beginWays_X0_inWord
set_option maxRecDepth 20000 in
theorem ggX0_beginWays_X0_goOnTo : GoodIn wsX0_beginWays wsX0_goOnTo := goodIn_r _ [25, 26, 27, 1, 28, 29, 30, 6, 31, 32, 33, 34, 35, 36, 37, 38, 39, 40, 41, 42, 43, 44, 45, 46, 47, 48, 49, 50, 51, 52, 53, 54, 55, 56, 57, 58] (by decide +kernel) (by decide +kernel)
set_option maxRecDepth 20000 in
theorem gX0_beginWays_X0_goOnTo : GoodIn wsX0_beginWays (wsV RX0 139 RX0 yX0_goOnTo wsX0_goOnTo) := goodIn_app (goodIn_of _ (by decide +kernel)) ggX0_beginWays_X0_goOnTo
theorem dX0_beginWays_0 : decode cX0_beginWays 0 = .ok (.iconst 0, 1) := by decide +kernel
theorem dX0_beginWays_1 : decode cX0_beginWays 1 = .ok (.istore_n 1, 1) := by decide +kernel
theorem dX0_beginWays_2 : decode cX0_beginWays 2 = .ok (.iload_n 1, 1) := by decide +kernel
theorem dX0_beginWays_3 : decode cX0_beginWays 3 = .ok (.bipush 6, 2) := by decide +kernel
theorem dX0_beginWays_5 : decode cX0_beginWays 5 = .ok (.if_icmp .ge 16, 3) := by decide +kernel
theorem dX0_beginWays_8 : decode cX0_beginWays 8 = .ok (.aload_n 0, 1) := by decide +kernel
theorem dX0_beginWays_9 : decode cX0_beginWays 9 = .ok (.getfield 42, 3) := by decide +kernel
theorem dX0_beginWays_12 : decode cX0_beginWays 12 = .ok (.iload_n 1, 1) := by decide +kernel
theorem dX0_beginWays_13 : decode cX0_beginWays 13 = .ok (.lconst 0, 1) := by decide +kernel
theorem dX0_beginWays_14 : decode cX0_beginWays 14 = .ok (.lastore, 1) := by decide +kernel
theorem dX0_beginWays_15 : decode cX0_beginWays 15 = .ok (.iinc 1 1, 3) := by decide +kernel
theorem dX0_beginWays_18 : decode cX0_beginWays 18 = .ok (.goto (-16), 3) := by decide +kernel
theorem dX0_beginWays_21 : decode cX0_beginWays 21 = .ok (.iconst 0, 1) := by decide +kernel
theorem dX0_beginWays_22 : decode cX0_beginWays 22 = .ok (.istore_n 1, 1) := by decide +kernel
theorem dX0_beginWays_23 : decode cX0_beginWays 23 = .ok (.iload_n 1, 1) := by decide +kernel
theorem dX0_beginWays_24 : decode cX0_beginWays 24 = .ok (.aload_n 0, 1) := by decide +kernel
theorem dX0_beginWays_25 : decode cX0_beginWays 25 = .ok (.getfield 51, 3) := by decide +kernel
theorem dX0_beginWays_28 : decode cX0_beginWays 28 = .ok (.if_icmp .ge 47, 3) := by decide +kernel
theorem dX0_beginWays_31 : decode cX0_beginWays 31 = .ok (.aload_n 0, 1) := by decide +kernel
theorem dX0_beginWays_32 : decode cX0_beginWays 32 = .ok (.getfield 17, 3) := by decide +kernel
theorem dX0_beginWays_35 : decode cX0_beginWays 35 = .ok (.iload_n 1, 1) := by decide +kernel
theorem dX0_beginWays_36 : decode cX0_beginWays 36 = .ok (.baload, 1) := by decide +kernel
theorem dX0_beginWays_37 : decode cX0_beginWays 37 = .ok (.ifCond .eq 7, 3) := by decide +kernel
theorem dX0_beginWays_40 : decode cX0_beginWays 40 = .ok (.iconst 3, 1) := by decide +kernel
theorem dX0_beginWays_41 : decode cX0_beginWays 41 = .ok (.goto 4, 3) := by decide +kernel
theorem dX0_beginWays_44 : decode cX0_beginWays 44 = .ok (.iconst 0, 1) := by decide +kernel
theorem dX0_beginWays_45 : decode cX0_beginWays 45 = .ok (.istore_n 2, 1) := by decide +kernel
theorem dX0_beginWays_46 : decode cX0_beginWays 46 = .ok (.aload_n 0, 1) := by decide +kernel
theorem dX0_beginWays_47 : decode cX0_beginWays 47 = .ok (.getfield 42, 3) := by decide +kernel
theorem dX0_beginWays_50 : decode cX0_beginWays 50 = .ok (.iload_n 2, 1) := by decide +kernel
theorem dX0_beginWays_51 : decode cX0_beginWays 51 = .ok (.iload_n 1, 1) := by decide +kernel
theorem dX0_beginWays_52 : decode cX0_beginWays 52 = .ok (.invokestatic 119, 3) := by decide +kernel
theorem dX0_beginWays_55 : decode cX0_beginWays 55 = .ok (.iadd, 1) := by decide +kernel
theorem dX0_beginWays_56 : decode cX0_beginWays 56 = .ok (.dup2, 1) := by decide +kernel
theorem dX0_beginWays_57 : decode cX0_beginWays 57 = .ok (.laload, 1) := by decide +kernel
theorem dX0_beginWays_58 : decode cX0_beginWays 58 = .ok (.iload_n 1, 1) := by decide +kernel
theorem dX0_beginWays_59 : decode cX0_beginWays 59 = .ok (.aload_n 0, 1) := by decide +kernel
theorem dX0_beginWays_60 : decode cX0_beginWays 60 = .ok (.iload_n 1, 1) := by decide +kernel
theorem dX0_beginWays_61 : decode cX0_beginWays 61 = .ok (.invokevirtual 110, 3) := by decide +kernel
theorem dX0_beginWays_64 : decode cX0_beginWays 64 = .ok (.invokestatic 145, 3) := by decide +kernel
theorem dX0_beginWays_67 : decode cX0_beginWays 67 = .ok (.lor, 1) := by decide +kernel
theorem dX0_beginWays_68 : decode cX0_beginWays 68 = .ok (.lastore, 1) := by decide +kernel
theorem dX0_beginWays_69 : decode cX0_beginWays 69 = .ok (.iinc 1 1, 3) := by decide +kernel
theorem dX0_beginWays_72 : decode cX0_beginWays 72 = .ok (.goto (-49), 3) := by decide +kernel
theorem dX0_beginWays_75 : decode cX0_beginWays 75 = .ok (.aload_n 0, 1) := by decide +kernel
theorem dX0_beginWays_76 : decode cX0_beginWays 76 = .ok (.iconst 0, 1) := by decide +kernel
theorem dX0_beginWays_77 : decode cX0_beginWays 77 = .ok (.invokevirtual 139, 3) := by decide +kernel
theorem dX0_beginWays_80 : decode cX0_beginWays 80 = .ok (.return_, 1) := by decide +kernel
set_option maxRecDepth 20000 in
theorem ggX0_passThrough_X0_inWord : GoodIn wsX0_passThrough wsX0_inWord := goodIn_r _ [10, 11, 12, 9, 13] (by decide +kernel) (by decide +kernel)
set_option maxRecDepth 20000 in
theorem gX0_passThrough_X0_inWord : GoodIn wsX0_passThrough (va_wsS RX0 145 yX0_inWord wsX0_inWord) := goodIn_app (goodIn_of _ (by decide +kernel)) ggX0_passThrough_X0_inWord
set_option maxRecDepth 20000 in
theorem ggX0_passThrough_X0_wordOf : GoodIn wsX0_passThrough wsX0_wordOf := goodIn_r _ [16] (by decide +kernel) (by decide +kernel)
set_option maxRecDepth 20000 in
theorem gX0_passThrough_X0_wordOf : GoodIn wsX0_passThrough (va_wsS RX0 119 yX0_wordOf wsX0_wordOf) := goodIn_app (goodIn_of _ (by decide +kernel)) ggX0_passThrough_X0_wordOf
theorem dX0_passThrough_0 : decode cX0_passThrough 0 = .ok (.iload_n 1, 1) := by decide +kernel
theorem dX0_passThrough_1 : decode cX0_passThrough 1 = .ok (.bipush 6, 2) := by decide +kernel
theorem dX0_passThrough_3 : decode cX0_passThrough 3 = .ok (.imul, 1) := by decide +kernel
theorem dX0_passThrough_4 : decode cX0_passThrough 4 = .ok (.istore_n 2, 1) := by decide +kernel
theorem dX0_passThrough_5 : decode cX0_passThrough 5 = .ok (.iconst 0, 1) := by decide +kernel
theorem dX0_passThrough_6 : decode cX0_passThrough 6 = .ok (.istore_n 3, 1) := by decide +kernel
theorem dX0_passThrough_7 : decode cX0_passThrough 7 = .ok (.iload_n 3, 1) := by decide +kernel
theorem dX0_passThrough_8 : decode cX0_passThrough 8 = .ok (.bipush 6, 2) := by decide +kernel
theorem dX0_passThrough_10 : decode cX0_passThrough 10 = .ok (.if_icmp .ge 23, 3) := by decide +kernel
theorem dX0_passThrough_13 : decode cX0_passThrough 13 = .ok (.aload_n 0, 1) := by decide +kernel
theorem dX0_passThrough_14 : decode cX0_passThrough 14 = .ok (.getfield 42, 3) := by decide +kernel
theorem dX0_passThrough_17 : decode cX0_passThrough 17 = .ok (.iload_n 3, 1) := by decide +kernel
theorem dX0_passThrough_18 : decode cX0_passThrough 18 = .ok (.aload_n 0, 1) := by decide +kernel
theorem dX0_passThrough_19 : decode cX0_passThrough 19 = .ok (.getfield 38, 3) := by decide +kernel
theorem dX0_passThrough_22 : decode cX0_passThrough 22 = .ok (.iload_n 2, 1) := by decide +kernel
theorem dX0_passThrough_23 : decode cX0_passThrough 23 = .ok (.iload_n 3, 1) := by decide +kernel
theorem dX0_passThrough_24 : decode cX0_passThrough 24 = .ok (.iadd, 1) := by decide +kernel
theorem dX0_passThrough_25 : decode cX0_passThrough 25 = .ok (.laload, 1) := by decide +kernel
theorem dX0_passThrough_26 : decode cX0_passThrough 26 = .ok (.lastore, 1) := by decide +kernel
theorem dX0_passThrough_27 : decode cX0_passThrough 27 = .ok (.iinc 3 1, 3) := by decide +kernel
theorem dX0_passThrough_30 : decode cX0_passThrough 30 = .ok (.goto (-23), 3) := by decide +kernel
theorem dX0_passThrough_33 : decode cX0_passThrough 33 = .ok (.aload_n 0, 1) := by decide +kernel
theorem dX0_passThrough_34 : decode cX0_passThrough 34 = .ok (.getfield 20, 3) := by decide +kernel
theorem dX0_passThrough_37 : decode cX0_passThrough 37 = .ok (.iload_n 1, 1) := by decide +kernel
theorem dX0_passThrough_38 : decode cX0_passThrough 38 = .ok (.iaload, 1) := by decide +kernel
theorem dX0_passThrough_39 : decode cX0_passThrough 39 = .ok (.istore_n 3, 1) := by decide +kernel
theorem dX0_passThrough_40 : decode cX0_passThrough 40 = .ok (.iload_n 3, 1) := by decide +kernel
theorem dX0_passThrough_41 : decode cX0_passThrough 41 = .ok (.ifCond .eq 8, 3) := by decide +kernel
theorem dX0_passThrough_44 : decode cX0_passThrough 44 = .ok (.iload_n 3, 1) := by decide +kernel
theorem dX0_passThrough_45 : decode cX0_passThrough 45 = .ok (.iconst 3, 1) := by decide +kernel
theorem dX0_passThrough_46 : decode cX0_passThrough 46 = .ok (.if_icmp .ne 4, 3) := by decide +kernel
theorem dX0_passThrough_49 : decode cX0_passThrough 49 = .ok (.return_, 1) := by decide +kernel
theorem dX0_passThrough_50 : decode cX0_passThrough 50 = .ok (.aload_n 0, 1) := by decide +kernel
theorem dX0_passThrough_51 : decode cX0_passThrough 51 = .ok (.getfield 23, 3) := by decide +kernel
theorem dX0_passThrough_54 : decode cX0_passThrough 54 = .ok (.iload_n 1, 1) := by decide +kernel
theorem dX0_passThrough_55 : decode cX0_passThrough 55 = .ok (.iaload, 1) := by decide +kernel
theorem dX0_passThrough_56 : decode cX0_passThrough 56 = .ok (.istore 4, 2) := by decide +kernel
theorem dX0_passThrough_58 : decode cX0_passThrough 58 = .ok (.iload 4, 2) := by decide +kernel
theorem dX0_passThrough_60 : decode cX0_passThrough 60 = .ok (.aload_n 0, 1) := by decide +kernel
theorem dX0_passThrough_61 : decode cX0_passThrough 61 = .ok (.getfield 26, 3) := by decide +kernel
theorem dX0_passThrough_64 : decode cX0_passThrough 64 = .ok (.iload_n 1, 1) := by decide +kernel
theorem dX0_passThrough_65 : decode cX0_passThrough 65 = .ok (.iaload, 1) := by decide +kernel
theorem dX0_passThrough_66 : decode cX0_passThrough 66 = .ok (.invokestatic 145, 3) := by decide +kernel
theorem dX0_passThrough_69 : decode cX0_passThrough 69 = .ok (.lstore 5, 2) := by decide +kernel
theorem dX0_passThrough_71 : decode cX0_passThrough 71 = .ok (.iload 4, 2) := by decide +kernel
theorem dX0_passThrough_73 : decode cX0_passThrough 73 = .ok (.invokestatic 119, 3) := by decide +kernel
theorem dX0_passThrough_76 : decode cX0_passThrough 76 = .ok (.istore 7, 2) := by decide +kernel
theorem dX0_passThrough_78 : decode cX0_passThrough 78 = .ok (.iload_n 3, 1) := by decide +kernel
theorem dX0_passThrough_79 : decode cX0_passThrough 79 = .ok (.iconst 1, 1) := by decide +kernel
theorem dX0_passThrough_80 : decode cX0_passThrough 80 = .ok (.if_icmp .ne 7, 3) := by decide +kernel
theorem dX0_passThrough_83 : decode cX0_passThrough 83 = .ok (.iconst 3, 1) := by decide +kernel
theorem dX0_passThrough_84 : decode cX0_passThrough 84 = .ok (.goto 4, 3) := by decide +kernel
theorem dX0_passThrough_87 : decode cX0_passThrough 87 = .ok (.iconst 0, 1) := by decide +kernel
theorem dX0_passThrough_88 : decode cX0_passThrough 88 = .ok (.istore 8, 2) := by decide +kernel
theorem dX0_passThrough_90 : decode cX0_passThrough 90 = .ok (.iload_n 3, 1) := by decide +kernel
theorem dX0_passThrough_91 : decode cX0_passThrough 91 = .ok (.iconst 1, 1) := by decide +kernel
theorem dX0_passThrough_92 : decode cX0_passThrough 92 = .ok (.if_icmp .ne 7, 3) := by decide +kernel
theorem dX0_passThrough_95 : decode cX0_passThrough 95 = .ok (.iconst 0, 1) := by decide +kernel
theorem dX0_passThrough_96 : decode cX0_passThrough 96 = .ok (.goto 4, 3) := by decide +kernel
theorem dX0_passThrough_99 : decode cX0_passThrough 99 = .ok (.iconst 3, 1) := by decide +kernel
theorem dX0_passThrough_100 : decode cX0_passThrough 100 = .ok (.istore 9, 2) := by decide +kernel
theorem dX0_passThrough_102 : decode cX0_passThrough 102 = .ok (.aload_n 0, 1) := by decide +kernel
theorem dX0_passThrough_103 : decode cX0_passThrough 103 = .ok (.getfield 42, 3) := by decide +kernel
theorem dX0_passThrough_106 : decode cX0_passThrough 106 = .ok (.iload 8, 2) := by decide +kernel
theorem dX0_passThrough_108 : decode cX0_passThrough 108 = .ok (.iload 7, 2) := by decide +kernel
theorem dX0_passThrough_110 : decode cX0_passThrough 110 = .ok (.iadd, 1) := by decide +kernel
theorem dX0_passThrough_111 : decode cX0_passThrough 111 = .ok (.dup2, 1) := by decide +kernel
theorem dX0_passThrough_112 : decode cX0_passThrough 112 = .ok (.laload, 1) := by decide +kernel
theorem dX0_passThrough_113 : decode cX0_passThrough 113 = .ok (.lload 5, 2) := by decide +kernel
theorem dX0_passThrough_115 : decode cX0_passThrough 115 = .ok (.lor, 1) := by decide +kernel
theorem dX0_passThrough_116 : decode cX0_passThrough 116 = .ok (.lastore, 1) := by decide +kernel
theorem dX0_passThrough_117 : decode cX0_passThrough 117 = .ok (.aload_n 0, 1) := by decide +kernel
theorem dX0_passThrough_118 : decode cX0_passThrough 118 = .ok (.getfield 42, 3) := by decide +kernel
theorem dX0_passThrough_121 : decode cX0_passThrough 121 = .ok (.iload 9, 2) := by decide +kernel
theorem dX0_passThrough_123 : decode cX0_passThrough 123 = .ok (.iload 7, 2) := by decide +kernel
theorem dX0_passThrough_125 : decode cX0_passThrough 125 = .ok (.iadd, 1) := by decide +kernel
theorem dX0_passThrough_126 : decode cX0_passThrough 126 = .ok (.dup2, 1) := by decide +kernel
theorem dX0_passThrough_127 : decode cX0_passThrough 127 = .ok (.laload, 1) := by decide +kernel
theorem dX0_passThrough_128 : decode cX0_passThrough 128 = .ok (.lload 5, 2) := by decide +kernel
theorem dX0_passThrough_130 : decode cX0_passThrough 130 = .ok (.ldc2_w 149, 3) := by decide +kernel
theorem dX0_passThrough_133 : decode cX0_passThrough 133 = .ok (.lxor, 1) := by decide +kernel
theorem dX0_passThrough_134 : decode cX0_passThrough 134 = .ok (.land, 1) := by decide +kernel
theorem dX0_passThrough_135 : decode cX0_passThrough 135 = .ok (.lastore, 1) := by decide +kernel
theorem dX0_passThrough_136 : decode cX0_passThrough 136 = .ok (.return_, 1) := by decide +kernel
set_option maxRecDepth 20000 in
theorem ggX0_goOnTo_X0_isPoint : GoodIn wsX0_goOnTo wsX0_isPoint := goodIn_r _ [8, 9, 18, 19, 20, 21, 22, 23, 24, 25, 26, 27, 28, 29, 30, 31, 32, 33, 34, 35] (by decide +kernel) (by decide +kernel)
set_option maxRecDepth 20000 in
theorem gX0_goOnTo_X0_isPoint : GoodIn wsX0_goOnTo (wsV RX0 70 RX0 yX0_isPoint wsX0_isPoint) := goodIn_app (goodIn_of _ (by decide +kernel)) ggX0_goOnTo_X0_isPoint
set_option maxRecDepth 20000 in
theorem ggX0_goOnTo_X0_addWaiting : GoodIn wsX0_goOnTo wsX0_addWaiting := goodIn_r _ [13, 14, 15, 16, 17, 18, 19, 20, 21, 22, 23, 24, 25, 26, 27, 28, 29, 30, 31, 32, 33, 34, 35] (by decide +kernel) (by decide +kernel)
set_option maxRecDepth 20000 in
theorem gX0_goOnTo_X0_addWaiting : GoodIn wsX0_goOnTo (wsV RX0 151 RX0 yX0_addWaiting wsX0_addWaiting) := goodIn_app (goodIn_of _ (by decide +kernel)) ggX0_goOnTo_X0_addWaiting
theorem dX0_goOnTo_0 : decode cX0_goOnTo 0 = .ok (.aload_n 0, 1) := by decide +kernel
theorem dX0_goOnTo_1 : decode cX0_goOnTo 1 = .ok (.iload_n 1, 1) := by decide +kernel
theorem dX0_goOnTo_2 : decode cX0_goOnTo 2 = .ok (.invokevirtual 70, 3) := by decide +kernel
theorem dX0_goOnTo_5 : decode cX0_goOnTo 5 = .ok (.ifCond .ne 4, 3) := by decide +kernel
theorem dX0_goOnTo_8 : decode cX0_goOnTo 8 = .ok (.return_, 1) := by decide +kernel
theorem dX0_goOnTo_9 : decode cX0_goOnTo 9 = .ok (.aload_n 0, 1) := by decide +kernel
theorem dX0_goOnTo_10 : decode cX0_goOnTo 10 = .ok (.getfield 35, 3) := by decide +kernel
theorem dX0_goOnTo_13 : decode cX0_goOnTo 13 = .ok (.iload_n 1, 1) := by decide +kernel
theorem dX0_goOnTo_14 : decode cX0_goOnTo 14 = .ok (.baload, 1) := by decide +kernel
theorem dX0_goOnTo_15 : decode cX0_goOnTo 15 = .ok (.ifCond .ne 7, 3) := by decide +kernel
theorem dX0_goOnTo_18 : decode cX0_goOnTo 18 = .ok (.iconst 1, 1) := by decide +kernel
theorem dX0_goOnTo_19 : decode cX0_goOnTo 19 = .ok (.goto 4, 3) := by decide +kernel
theorem dX0_goOnTo_22 : decode cX0_goOnTo 22 = .ok (.iconst 0, 1) := by decide +kernel
theorem dX0_goOnTo_23 : decode cX0_goOnTo 23 = .ok (.istore_n 2, 1) := by decide +kernel
theorem dX0_goOnTo_24 : decode cX0_goOnTo 24 = .ok (.aload_n 0, 1) := by decide +kernel
theorem dX0_goOnTo_25 : decode cX0_goOnTo 25 = .ok (.getfield 35, 3) := by decide +kernel
theorem dX0_goOnTo_28 : decode cX0_goOnTo 28 = .ok (.iload_n 1, 1) := by decide +kernel
theorem dX0_goOnTo_29 : decode cX0_goOnTo 29 = .ok (.iconst 1, 1) := by decide +kernel
theorem dX0_goOnTo_30 : decode cX0_goOnTo 30 = .ok (.bastore, 1) := by decide +kernel
theorem dX0_goOnTo_31 : decode cX0_goOnTo 31 = .ok (.iload_n 1, 1) := by decide +kernel
theorem dX0_goOnTo_32 : decode cX0_goOnTo 32 = .ok (.bipush 6, 2) := by decide +kernel
theorem dX0_goOnTo_34 : decode cX0_goOnTo 34 = .ok (.imul, 1) := by decide +kernel
theorem dX0_goOnTo_35 : decode cX0_goOnTo 35 = .ok (.istore_n 3, 1) := by decide +kernel
theorem dX0_goOnTo_36 : decode cX0_goOnTo 36 = .ok (.iconst 0, 1) := by decide +kernel
theorem dX0_goOnTo_37 : decode cX0_goOnTo 37 = .ok (.istore 4, 2) := by decide +kernel
theorem dX0_goOnTo_39 : decode cX0_goOnTo 39 = .ok (.iload 4, 2) := by decide +kernel
theorem dX0_goOnTo_41 : decode cX0_goOnTo 41 = .ok (.bipush 6, 2) := by decide +kernel
theorem dX0_goOnTo_43 : decode cX0_goOnTo 43 = .ok (.if_icmp .ge 64, 3) := by decide +kernel
theorem dX0_goOnTo_46 : decode cX0_goOnTo 46 = .ok (.aload_n 0, 1) := by decide +kernel
theorem dX0_goOnTo_47 : decode cX0_goOnTo 47 = .ok (.getfield 38, 3) := by decide +kernel
theorem dX0_goOnTo_50 : decode cX0_goOnTo 50 = .ok (.iload_n 3, 1) := by decide +kernel
theorem dX0_goOnTo_51 : decode cX0_goOnTo 51 = .ok (.iload 4, 2) := by decide +kernel
theorem dX0_goOnTo_53 : decode cX0_goOnTo 53 = .ok (.iadd, 1) := by decide +kernel
theorem dX0_goOnTo_54 : decode cX0_goOnTo 54 = .ok (.laload, 1) := by decide +kernel
theorem dX0_goOnTo_55 : decode cX0_goOnTo 55 = .ok (.aload_n 0, 1) := by decide +kernel
theorem dX0_goOnTo_56 : decode cX0_goOnTo 56 = .ok (.getfield 42, 3) := by decide +kernel
theorem dX0_goOnTo_59 : decode cX0_goOnTo 59 = .ok (.iload 4, 2) := by decide +kernel
theorem dX0_goOnTo_61 : decode cX0_goOnTo 61 = .ok (.laload, 1) := by decide +kernel
theorem dX0_goOnTo_62 : decode cX0_goOnTo 62 = .ok (.lor, 1) := by decide +kernel
theorem dX0_goOnTo_63 : decode cX0_goOnTo 63 = .ok (.lstore 5, 2) := by decide +kernel
theorem dX0_goOnTo_65 : decode cX0_goOnTo 65 = .ok (.iload_n 2, 1) := by decide +kernel
theorem dX0_goOnTo_66 : decode cX0_goOnTo 66 = .ok (.ifCond .ne 18, 3) := by decide +kernel
theorem dX0_goOnTo_69 : decode cX0_goOnTo 69 = .ok (.lload 5, 2) := by decide +kernel
theorem dX0_goOnTo_71 : decode cX0_goOnTo 71 = .ok (.aload_n 0, 1) := by decide +kernel
theorem dX0_goOnTo_72 : decode cX0_goOnTo 72 = .ok (.getfield 38, 3) := by decide +kernel
theorem dX0_goOnTo_75 : decode cX0_goOnTo 75 = .ok (.iload_n 3, 1) := by decide +kernel
theorem dX0_goOnTo_76 : decode cX0_goOnTo 76 = .ok (.iload 4, 2) := by decide +kernel
theorem dX0_goOnTo_78 : decode cX0_goOnTo 78 = .ok (.iadd, 1) := by decide +kernel
theorem dX0_goOnTo_79 : decode cX0_goOnTo 79 = .ok (.laload, 1) := by decide +kernel
theorem dX0_goOnTo_80 : decode cX0_goOnTo 80 = .ok (.lcmp, 1) := by decide +kernel
theorem dX0_goOnTo_81 : decode cX0_goOnTo 81 = .ok (.ifCond .eq 7, 3) := by decide +kernel
theorem dX0_goOnTo_84 : decode cX0_goOnTo 84 = .ok (.iconst 1, 1) := by decide +kernel
theorem dX0_goOnTo_85 : decode cX0_goOnTo 85 = .ok (.goto 4, 3) := by decide +kernel
theorem dX0_goOnTo_88 : decode cX0_goOnTo 88 = .ok (.iconst 0, 1) := by decide +kernel
theorem dX0_goOnTo_89 : decode cX0_goOnTo 89 = .ok (.istore_n 2, 1) := by decide +kernel
theorem dX0_goOnTo_90 : decode cX0_goOnTo 90 = .ok (.aload_n 0, 1) := by decide +kernel
theorem dX0_goOnTo_91 : decode cX0_goOnTo 91 = .ok (.getfield 38, 3) := by decide +kernel
theorem dX0_goOnTo_94 : decode cX0_goOnTo 94 = .ok (.iload_n 3, 1) := by decide +kernel
theorem dX0_goOnTo_95 : decode cX0_goOnTo 95 = .ok (.iload 4, 2) := by decide +kernel
theorem dX0_goOnTo_97 : decode cX0_goOnTo 97 = .ok (.iadd, 1) := by decide +kernel
theorem dX0_goOnTo_98 : decode cX0_goOnTo 98 = .ok (.lload 5, 2) := by decide +kernel
theorem dX0_goOnTo_100 : decode cX0_goOnTo 100 = .ok (.lastore, 1) := by decide +kernel
theorem dX0_goOnTo_101 : decode cX0_goOnTo 101 = .ok (.iinc 4 1, 3) := by decide +kernel
theorem dX0_goOnTo_104 : decode cX0_goOnTo 104 = .ok (.goto (-65), 3) := by decide +kernel
theorem dX0_goOnTo_107 : decode cX0_goOnTo 107 = .ok (.iload_n 2, 1) := by decide +kernel
theorem dX0_goOnTo_108 : decode cX0_goOnTo 108 = .ok (.ifCond .eq 8, 3) := by decide +kernel
theorem dX0_goOnTo_111 : decode cX0_goOnTo 111 = .ok (.aload_n 0, 1) := by decide +kernel
theorem dX0_goOnTo_112 : decode cX0_goOnTo 112 = .ok (.iload_n 1, 1) := by decide +kernel
theorem dX0_goOnTo_113 : decode cX0_goOnTo 113 = .ok (.invokevirtual 151, 3) := by decide +kernel
theorem dX0_goOnTo_116 : decode cX0_goOnTo 116 = .ok (.return_, 1) := by decide +kernel
theorem dX0_addWaiting_0 : decode cX0_addWaiting 0 = .ok (.aload_n 0, 1) := by decide +kernel
theorem dX0_addWaiting_1 : decode cX0_addWaiting 1 = .ok (.getfield 48, 3) := by decide +kernel
theorem dX0_addWaiting_4 : decode cX0_addWaiting 4 = .ok (.iload_n 1, 1) := by decide +kernel
theorem dX0_addWaiting_5 : decode cX0_addWaiting 5 = .ok (.baload, 1) := by decide +kernel
theorem dX0_addWaiting_6 : decode cX0_addWaiting 6 = .ok (.ifCond .ne 12, 3) := by decide +kernel
theorem dX0_addWaiting_9 : decode cX0_addWaiting 9 = .ok (.aload_n 0, 1) := by decide +kernel
theorem dX0_addWaiting_10 : decode cX0_addWaiting 10 = .ok (.getfield 129, 3) := by decide +kernel
theorem dX0_addWaiting_13 : decode cX0_addWaiting 13 = .ok (.bipush 120, 2) := by decide +kernel
theorem dX0_addWaiting_15 : decode cX0_addWaiting 15 = .ok (.if_icmp .lt 4, 3) := by decide +kernel
theorem dX0_addWaiting_18 : decode cX0_addWaiting 18 = .ok (.return_, 1) := by decide +kernel
theorem dX0_addWaiting_19 : decode cX0_addWaiting 19 = .ok (.aload_n 0, 1) := by decide +kernel
theorem dX0_addWaiting_20 : decode cX0_addWaiting 20 = .ok (.getfield 48, 3) := by decide +kernel
theorem dX0_addWaiting_23 : decode cX0_addWaiting 23 = .ok (.iload_n 1, 1) := by decide +kernel
theorem dX0_addWaiting_24 : decode cX0_addWaiting 24 = .ok (.iconst 1, 1) := by decide +kernel
theorem dX0_addWaiting_25 : decode cX0_addWaiting 25 = .ok (.bastore, 1) := by decide +kernel
theorem dX0_addWaiting_26 : decode cX0_addWaiting 26 = .ok (.aload_n 0, 1) := by decide +kernel
theorem dX0_addWaiting_27 : decode cX0_addWaiting 27 = .ok (.getfield 45, 3) := by decide +kernel
theorem dX0_addWaiting_30 : decode cX0_addWaiting 30 = .ok (.aload_n 0, 1) := by decide +kernel
theorem dX0_addWaiting_31 : decode cX0_addWaiting 31 = .ok (.getfield 142, 3) := by decide +kernel
theorem dX0_addWaiting_34 : decode cX0_addWaiting 34 = .ok (.aload_n 0, 1) := by decide +kernel
theorem dX0_addWaiting_35 : decode cX0_addWaiting 35 = .ok (.getfield 129, 3) := by decide +kernel
theorem dX0_addWaiting_38 : decode cX0_addWaiting 38 = .ok (.iadd, 1) := by decide +kernel
theorem dX0_addWaiting_39 : decode cX0_addWaiting 39 = .ok (.bipush 120, 2) := by decide +kernel
theorem dX0_addWaiting_41 : decode cX0_addWaiting 41 = .ok (.irem, 1) := by decide +kernel
theorem dX0_addWaiting_42 : decode cX0_addWaiting 42 = .ok (.iload_n 1, 1) := by decide +kernel
theorem dX0_addWaiting_43 : decode cX0_addWaiting 43 = .ok (.iastore, 1) := by decide +kernel
theorem dX0_addWaiting_44 : decode cX0_addWaiting 44 = .ok (.aload_n 0, 1) := by decide +kernel
theorem dX0_addWaiting_45 : decode cX0_addWaiting 45 = .ok (.dup, 1) := by decide +kernel
theorem dX0_addWaiting_46 : decode cX0_addWaiting 46 = .ok (.getfield 129, 3) := by decide +kernel
theorem dX0_addWaiting_49 : decode cX0_addWaiting 49 = .ok (.iconst 1, 1) := by decide +kernel
theorem dX0_addWaiting_50 : decode cX0_addWaiting 50 = .ok (.iadd, 1) := by decide +kernel
theorem dX0_addWaiting_51 : decode cX0_addWaiting 51 = .ok (.putfield 129, 3) := by decide +kernel
theorem dX0_addWaiting_54 : decode cX0_addWaiting 54 = .ok (.return_, 1) := by decide +kernel
theorem dX0_takeWaiting_0 : decode cX0_takeWaiting 0 = .ok (.aload_n 0, 1) := by decide +kernel
theorem dX0_takeWaiting_1 : decode cX0_takeWaiting 1 = .ok (.getfield 45, 3) := by decide +kernel
theorem dX0_takeWaiting_4 : decode cX0_takeWaiting 4 = .ok (.aload_n 0, 1) := by decide +kernel
theorem dX0_takeWaiting_5 : decode cX0_takeWaiting 5 = .ok (.getfield 142, 3) := by decide +kernel
theorem dX0_takeWaiting_8 : decode cX0_takeWaiting 8 = .ok (.iaload, 1) := by decide +kernel
theorem dX0_takeWaiting_9 : decode cX0_takeWaiting 9 = .ok (.istore_n 1, 1) := by decide +kernel
theorem dX0_takeWaiting_10 : decode cX0_takeWaiting 10 = .ok (.aload_n 0, 1) := by decide +kernel
theorem dX0_takeWaiting_11 : decode cX0_takeWaiting 11 = .ok (.aload_n 0, 1) := by decide +kernel
theorem dX0_takeWaiting_12 : decode cX0_takeWaiting 12 = .ok (.getfield 142, 3) := by decide +kernel
theorem dX0_takeWaiting_15 : decode cX0_takeWaiting 15 = .ok (.iconst 1, 1) := by decide +kernel
theorem dX0_takeWaiting_16 : decode cX0_takeWaiting 16 = .ok (.iadd, 1) := by decide +kernel
theorem dX0_takeWaiting_17 : decode cX0_takeWaiting 17 = .ok (.bipush 120, 2) := by decide +kernel
theorem dX0_takeWaiting_19 : decode cX0_takeWaiting 19 = .ok (.irem, 1) := by decide +kernel
theorem dX0_takeWaiting_20 : decode cX0_takeWaiting 20 = .ok (.putfield 142, 3) := by decide +kernel
theorem dX0_takeWaiting_23 : decode cX0_takeWaiting 23 = .ok (.aload_n 0, 1) := by decide +kernel
theorem dX0_takeWaiting_24 : decode cX0_takeWaiting 24 = .ok (.dup, 1) := by decide +kernel
theorem dX0_takeWaiting_25 : decode cX0_takeWaiting 25 = .ok (.getfield 129, 3) := by decide +kernel
theorem dX0_takeWaiting_28 : decode cX0_takeWaiting 28 = .ok (.iconst 1, 1) := by decide +kernel
theorem dX0_takeWaiting_29 : decode cX0_takeWaiting 29 = .ok (.isub, 1) := by decide +kernel
theorem dX0_takeWaiting_30 : decode cX0_takeWaiting 30 = .ok (.putfield 129, 3) := by decide +kernel
theorem dX0_takeWaiting_33 : decode cX0_takeWaiting 33 = .ok (.aload_n 0, 1) := by decide +kernel
theorem dX0_takeWaiting_34 : decode cX0_takeWaiting 34 = .ok (.getfield 48, 3) := by decide +kernel
theorem dX0_takeWaiting_37 : decode cX0_takeWaiting 37 = .ok (.iload_n 1, 1) := by decide +kernel
theorem dX0_takeWaiting_38 : decode cX0_takeWaiting 38 = .ok (.iconst 0, 1) := by decide +kernel
theorem dX0_takeWaiting_39 : decode cX0_takeWaiting 39 = .ok (.bastore, 1) := by decide +kernel
theorem dX0_takeWaiting_40 : decode cX0_takeWaiting 40 = .ok (.iload_n 1, 1) := by decide +kernel
theorem dX0_takeWaiting_41 : decode cX0_takeWaiting 41 = .ok (.ireturn, 1) := by decide +kernel

