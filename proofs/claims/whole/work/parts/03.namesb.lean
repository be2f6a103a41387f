def RX1 : String := "PartsFlowModel"
def TX1 : u_T := fun k => match k with
  | 0 => ("PartsFlowModel", "variables", "I", false)
  | 1 => ("PartsFlowModel", "parts", "[I", true)
  | 2 => ("PartsFlowModel", "once", "[Z", true)
  | 3 => ("PartsFlowModel", "given", "[Z", true)
  | 4 => ("PartsFlowModel", "points", "I", false)
  | 5 => ("PartsFlowModel", "doings", "[I", true)
  | 6 => ("PartsFlowModel", "of", "[I", true)
  | 7 => ("PartsFlowModel", "from", "[I", true)
  | 8 => ("PartsFlowModel", "many", "[I", true)
  | 9 => ("PartsFlowModel", "xs", "[I", true)
  | 10 => ("PartsFlowModel", "ys", "[I", true)
  | 11 => ("PartsFlowModel", "seen", "[Z", true)
  | 12 => ("PartsFlowModel", "pile", "[I", true)
  | _ => ("PartsFlowModel", "high", "I", false)
def tyX1 : Nat → FieldType := fun k => match k with
  | 0 => .int
  | 1 => .array .int
  | 2 => .array .boolean
  | 3 => .array .boolean
  | 4 => .int
  | 5 => .array .int
  | 6 => .array .int
  | 7 => .array .int
  | 8 => .array .int
  | 9 => .array .int
  | 10 => .array .int
  | 11 => .array .boolean
  | 12 => .array .int
  | _ => .int
abbrev wsX10 : List Cond := u_ws RX1 TX1 14
theorem nmX1 : ∀ a, a < 14 → ∀ b, b < 14 → a ≠ b → (TX1 a).2.1 ≠ (TX1 b).2.1 := by decide +kernel
theorem tyX1_ok : ∀ k, k < 14 → parseFieldDescriptor (TX1 k).2.2.1 = some (tyX1 k) := by decide +kernel
abbrev cX1_init : ByteArray := prog_3_method_1_code
def yX1_init : MethodName := ⟨RX1, "<init>", "()V"⟩
abbrev cX1_variable : ByteArray := prog_3_method_4_code
def yX1_variable : MethodName := ⟨RX1, "variable", "(IZZ)I"⟩
abbrev cX1_point : ByteArray := prog_3_method_5_code
def yX1_point : MethodName := ⟨RX1, "point", "(IIII)I"⟩
abbrev cX1_isVariable : ByteArray := prog_3_method_2_code
def yX1_isVariable : MethodName := ⟨RX1, "isVariable", "(I)Z"⟩
abbrev cX1_next : ByteArray := prog_3_method_6_code
def yX1_next : MethodName := ⟨RX1, "next", "(III)Z"⟩
abbrev cX1_isPoint : ByteArray := prog_3_method_3_code
def yX1_isPoint : MethodName := ⟨RX1, "isPoint", "(I)Z"⟩
abbrev cX1_isReached : ByteArray := prog_3_method_9_code
def yX1_isReached : MethodName := ⟨RX1, "isReached", "(I)Z"⟩
abbrev cX1_go : ByteArray := prog_3_method_8_code
def yX1_go : MethodName := ⟨RX1, "go", "(II)V"⟩
abbrev cX1_come : ByteArray := prog_3_method_7_code
def yX1_come : MethodName := ⟨RX1, "come", "(II)V"⟩
abbrev cX1_without : ByteArray := prog_3_method_11_code
def yX1_without : MethodName := ⟨RX1, "without", "(II)I"⟩
abbrev cX1_bits : ByteArray := prog_3_method_10_code
def yX1_bits : MethodName := ⟨RX1, "bits", "(III)I"⟩
abbrev cX1_having : ByteArray := prog_3_method_12_code
def yX1_having : MethodName := ⟨RX1, "having", "(II)I"⟩
abbrev cX1_fault : ByteArray := prog_3_method_13_code
def yX1_fault : MethodName := ⟨RX1, "fault", "(I)I"⟩
abbrev cX1_count : ByteArray := prog_3_method_14_code
def yX1_count : MethodName := ⟨RX1, "count", "(I)I"⟩
abbrev cX1_clear : ByteArray := prog_3_method_15_code
def yX1_clear : MethodName := ⟨RX1, "clear", "()I"⟩
def RL : String := "PartsFlowLaw"
abbrev cL_law : ByteArray := code
def yL_law : MethodName := ⟨RL, "law", "([I)Z"⟩
def wsX1_init : List Cond := .code yX1_init cX1_init 1 none :: ([.methodLink RX1 1 objectInit, .instanceMethod objectInit, .code objectInit ⟨#[0xb1]⟩ 1 none, .arrayClass .int, .fieldLink RX1 7 "PartsFlowModel" "parts" "[I", .arrayClass .boolean, .fieldLink RX1 13 "PartsFlowModel" "once" "[Z", .fieldLink RX1 17 "PartsFlowModel" "given" "[Z", .fieldLink RX1 20 "PartsFlowModel" "doings" "[I", .fieldLink RX1 23 "PartsFlowModel" "of" "[I", .fieldLink RX1 26 "PartsFlowModel" "from" "[I", .fieldLink RX1 29 "PartsFlowModel" "many" "[I", .fieldLink RX1 32 "PartsFlowModel" "xs" "[I", .fieldLink RX1 35 "PartsFlowModel" "ys" "[I", .fieldLink RX1 38 "PartsFlowModel" "seen" "[Z", .fieldLink RX1 41 "PartsFlowModel" "pile" "[I"] ++ wsX10)
def wsX1_variable : List Cond := .code yX1_variable cX1_variable 4 (some .int) :: ([.fieldLink RX1 44 "PartsFlowModel" "variables" "I", .fieldLink RX1 7 "PartsFlowModel" "parts" "[I", .fieldLink RX1 13 "PartsFlowModel" "once" "[Z", .fieldLink RX1 17 "PartsFlowModel" "given" "[Z"] ++ wsX10)
def wsX1_isVariable : List Cond := .code yX1_isVariable cX1_isVariable 2 (some .boolean) :: ([.fieldLink RX1 44 "PartsFlowModel" "variables" "I"] ++ wsX10)
def wsX1_point : List Cond := .code yX1_point cX1_point 6 (some .int) :: ([.fieldLink RX1 48 "PartsFlowModel" "points" "I", .methodLink RX1 51 yX1_isVariable, .instanceMethod yX1_isVariable, .selects RX1 yX1_isVariable yX1_isVariable, .initialized RX1, .code yX1_isVariable cX1_isVariable 2 (some .boolean), .fieldLink RX1 44 "PartsFlowModel" "variables" "I", .fieldLink RX1 7 "PartsFlowModel" "parts" "[I", .fieldLink RX1 20 "PartsFlowModel" "doings" "[I", .fieldLink RX1 23 "PartsFlowModel" "of" "[I", .fieldLink RX1 26 "PartsFlowModel" "from" "[I", .fieldLink RX1 29 "PartsFlowModel" "many" "[I", .fieldLink RX1 32 "PartsFlowModel" "xs" "[I", .fieldLink RX1 35 "PartsFlowModel" "ys" "[I"] ++ wsX10)
def wsX1_isPoint : List Cond := .code yX1_isPoint cX1_isPoint 2 (some .boolean) :: ([.fieldLink RX1 48 "PartsFlowModel" "points" "I"] ++ wsX10)
def wsX1_next : List Cond := .code yX1_next cX1_next 4 (some .boolean) :: ([.methodLink RX1 55 yX1_isPoint, .instanceMethod yX1_isPoint, .selects RX1 yX1_isPoint yX1_isPoint, .initialized RX1, .code yX1_isPoint cX1_isPoint 2 (some .boolean), .fieldLink RX1 48 "PartsFlowModel" "points" "I", .fieldLink RX1 32 "PartsFlowModel" "xs" "[I", .fieldLink RX1 35 "PartsFlowModel" "ys" "[I"] ++ wsX10)
def wsX1_come : List Cond := .code yX1_come cX1_come 3 none :: ([.methodLink RX1 55 yX1_isPoint, .instanceMethod yX1_isPoint, .selects RX1 yX1_isPoint yX1_isPoint, .initialized RX1, .code yX1_isPoint cX1_isPoint 2 (some .boolean), .fieldLink RX1 48 "PartsFlowModel" "points" "I", .fieldLink RX1 38 "PartsFlowModel" "seen" "[Z", .fieldLink RX1 41 "PartsFlowModel" "pile" "[I", .fieldLink RX1 58 "PartsFlowModel" "high" "I"] ++ wsX10)
def wsX1_go : List Cond := .code yX1_go cX1_go 7 none :: ([.fieldLink RX1 38 "PartsFlowModel" "seen" "[Z", .fieldLink RX1 58 "PartsFlowModel" "high" "I", .methodLink RX1 51 yX1_isVariable, .instanceMethod yX1_isVariable, .selects RX1 yX1_isVariable yX1_isVariable, .initialized RX1, .code yX1_isVariable cX1_isVariable 2 (some .boolean), .fieldLink RX1 44 "PartsFlowModel" "variables" "I", .fieldLink RX1 17 "PartsFlowModel" "given" "[Z", .methodLink RX1 61 yX1_come, .instanceMethod yX1_come, .selects RX1 yX1_come yX1_come, .code yX1_come cX1_come 3 none, .methodLink RX1 55 yX1_isPoint, .instanceMethod yX1_isPoint, .selects RX1 yX1_isPoint yX1_isPoint, .code yX1_isPoint cX1_isPoint 2 (some .boolean), .fieldLink RX1 48 "PartsFlowModel" "points" "I", .fieldLink RX1 41 "PartsFlowModel" "pile" "[I", .fieldLink RX1 23 "PartsFlowModel" "of" "[I", .fieldLink RX1 26 "PartsFlowModel" "from" "[I", .fieldLink RX1 29 "PartsFlowModel" "many" "[I", .fieldLink RX1 20 "PartsFlowModel" "doings" "[I", .fieldLink RX1 32 "PartsFlowModel" "xs" "[I", .fieldLink RX1 35 "PartsFlowModel" "ys" "[I"] ++ wsX10)
def wsX1_isReached : List Cond := .code yX1_isReached cX1_isReached 2 (some .boolean) :: ([.methodLink RX1 65 yX1_go, .instanceMethod yX1_go, .selects RX1 yX1_go yX1_go, .initialized RX1, .code yX1_go cX1_go 7 none, .fieldLink RX1 38 "PartsFlowModel" "seen" "[Z", .fieldLink RX1 58 "PartsFlowModel" "high" "I", .methodLink RX1 51 yX1_isVariable, .instanceMethod yX1_isVariable, .selects RX1 yX1_isVariable yX1_isVariable, .code yX1_isVariable cX1_isVariable 2 (some .boolean), .fieldLink RX1 44 "PartsFlowModel" "variables" "I", .fieldLink RX1 17 "PartsFlowModel" "given" "[Z", .methodLink RX1 61 yX1_come, .instanceMethod yX1_come, .selects RX1 yX1_come yX1_come, .code yX1_come cX1_come 3 none, .methodLink RX1 55 yX1_isPoint, .instanceMethod yX1_isPoint, .selects RX1 yX1_isPoint yX1_isPoint, .code yX1_isPoint cX1_isPoint 2 (some .boolean), .fieldLink RX1 48 "PartsFlowModel" "points" "I", .fieldLink RX1 41 "PartsFlowModel" "pile" "[I", .fieldLink RX1 23 "PartsFlowModel" "of" "[I", .fieldLink RX1 26 "PartsFlowModel" "from" "[I", .fieldLink RX1 29 "PartsFlowModel" "many" "[I", .fieldLink RX1 20 "PartsFlowModel" "doings" "[I", .fieldLink RX1 32 "PartsFlowModel" "xs" "[I", .fieldLink RX1 35 "PartsFlowModel" "ys" "[I"] ++ wsX10)
def wsX1_bits : List Cond := .code yX1_bits cX1_bits 6 (some .int) :: ([.methodLink RX1 55 yX1_isPoint, .instanceMethod yX1_isPoint, .selects RX1 yX1_isPoint yX1_isPoint, .initialized RX1, .code yX1_isPoint cX1_isPoint 2 (some .boolean), .fieldLink RX1 48 "PartsFlowModel" "points" "I", .methodLink RX1 51 yX1_isVariable, .instanceMethod yX1_isVariable, .selects RX1 yX1_isVariable yX1_isVariable, .code yX1_isVariable cX1_isVariable 2 (some .boolean), .fieldLink RX1 44 "PartsFlowModel" "variables" "I", .fieldLink RX1 7 "PartsFlowModel" "parts" "[I", .methodLink RX1 65 yX1_go, .instanceMethod yX1_go, .selects RX1 yX1_go yX1_go, .code yX1_go cX1_go 7 none, .fieldLink RX1 38 "PartsFlowModel" "seen" "[Z", .fieldLink RX1 58 "PartsFlowModel" "high" "I", .fieldLink RX1 17 "PartsFlowModel" "given" "[Z", .methodLink RX1 61 yX1_come, .instanceMethod yX1_come, .selects RX1 yX1_come yX1_come, .code yX1_come cX1_come 3 none, .fieldLink RX1 41 "PartsFlowModel" "pile" "[I", .fieldLink RX1 23 "PartsFlowModel" "of" "[I", .fieldLink RX1 26 "PartsFlowModel" "from" "[I", .fieldLink RX1 29 "PartsFlowModel" "many" "[I", .fieldLink RX1 20 "PartsFlowModel" "doings" "[I", .fieldLink RX1 32 "PartsFlowModel" "xs" "[I", .fieldLink RX1 35 "PartsFlowModel" "ys" "[I"] ++ wsX10)
def wsX1_without : List Cond := .code yX1_without cX1_without 3 (some .int) :: ([.methodLink RX1 68 yX1_bits, .instanceMethod yX1_bits, .selects RX1 yX1_bits yX1_bits, .initialized RX1, .code yX1_bits cX1_bits 6 (some .int), .methodLink RX1 55 yX1_isPoint, .instanceMethod yX1_isPoint, .selects RX1 yX1_isPoint yX1_isPoint, .code yX1_isPoint cX1_isPoint 2 (some .boolean), .fieldLink RX1 48 "PartsFlowModel" "points" "I", .methodLink RX1 51 yX1_isVariable, .instanceMethod yX1_isVariable, .selects RX1 yX1_isVariable yX1_isVariable, .code yX1_isVariable cX1_isVariable 2 (some .boolean), .fieldLink RX1 44 "PartsFlowModel" "variables" "I", .fieldLink RX1 7 "PartsFlowModel" "parts" "[I", .methodLink RX1 65 yX1_go, .instanceMethod yX1_go, .selects RX1 yX1_go yX1_go, .code yX1_go cX1_go 7 none, .fieldLink RX1 38 "PartsFlowModel" "seen" "[Z", .fieldLink RX1 58 "PartsFlowModel" "high" "I", .fieldLink RX1 17 "PartsFlowModel" "given" "[Z", .methodLink RX1 61 yX1_come, .instanceMethod yX1_come, .selects RX1 yX1_come yX1_come, .code yX1_come cX1_come 3 none, .fieldLink RX1 41 "PartsFlowModel" "pile" "[I", .fieldLink RX1 23 "PartsFlowModel" "of" "[I", .fieldLink RX1 26 "PartsFlowModel" "from" "[I", .fieldLink RX1 29 "PartsFlowModel" "many" "[I", .fieldLink RX1 20 "PartsFlowModel" "doings" "[I", .fieldLink RX1 32 "PartsFlowModel" "xs" "[I", .fieldLink RX1 35 "PartsFlowModel" "ys" "[I"] ++ wsX10)
def wsX1_having : List Cond := .code yX1_having cX1_having 3 (some .int) :: ([.methodLink RX1 68 yX1_bits, .instanceMethod yX1_bits, .selects RX1 yX1_bits yX1_bits, .initialized RX1, .code yX1_bits cX1_bits 6 (some .int), .methodLink RX1 55 yX1_isPoint, .instanceMethod yX1_isPoint, .selects RX1 yX1_isPoint yX1_isPoint, .code yX1_isPoint cX1_isPoint 2 (some .boolean), .fieldLink RX1 48 "PartsFlowModel" "points" "I", .methodLink RX1 51 yX1_isVariable, .instanceMethod yX1_isVariable, .selects RX1 yX1_isVariable yX1_isVariable, .code yX1_isVariable cX1_isVariable 2 (some .boolean), .fieldLink RX1 44 "PartsFlowModel" "variables" "I", .fieldLink RX1 7 "PartsFlowModel" "parts" "[I", .methodLink RX1 65 yX1_go, .instanceMethod yX1_go, .selects RX1 yX1_go yX1_go, .code yX1_go cX1_go 7 none, .fieldLink RX1 38 "PartsFlowModel" "seen" "[Z", .fieldLink RX1 58 "PartsFlowModel" "high" "I", .fieldLink RX1 17 "PartsFlowModel" "given" "[Z", .methodLink RX1 61 yX1_come, .instanceMethod yX1_come, .selects RX1 yX1_come yX1_come, .code yX1_come cX1_come 3 none, .fieldLink RX1 41 "PartsFlowModel" "pile" "[I", .fieldLink RX1 23 "PartsFlowModel" "of" "[I", .fieldLink RX1 26 "PartsFlowModel" "from" "[I", .fieldLink RX1 29 "PartsFlowModel" "many" "[I", .fieldLink RX1 20 "PartsFlowModel" "doings" "[I", .fieldLink RX1 32 "PartsFlowModel" "xs" "[I", .fieldLink RX1 35 "PartsFlowModel" "ys" "[I"] ++ wsX10)
def wsX1_fault : List Cond := .code yX1_fault cX1_fault 5 (some .int) :: ([.methodLink RX1 55 yX1_isPoint, .instanceMethod yX1_isPoint, .selects RX1 yX1_isPoint yX1_isPoint, .initialized RX1, .code yX1_isPoint cX1_isPoint 2 (some .boolean), .fieldLink RX1 48 "PartsFlowModel" "points" "I", .fieldLink RX1 20 "PartsFlowModel" "doings" "[I", .methodLink RX1 72 yX1_isReached, .instanceMethod yX1_isReached, .selects RX1 yX1_isReached yX1_isReached, .code yX1_isReached cX1_isReached 2 (some .boolean), .methodLink RX1 65 yX1_go, .instanceMethod yX1_go, .selects RX1 yX1_go yX1_go, .code yX1_go cX1_go 7 none, .fieldLink RX1 38 "PartsFlowModel" "seen" "[Z", .fieldLink RX1 58 "PartsFlowModel" "high" "I", .methodLink RX1 51 yX1_isVariable, .instanceMethod yX1_isVariable, .selects RX1 yX1_isVariable yX1_isVariable, .code yX1_isVariable cX1_isVariable 2 (some .boolean), .fieldLink RX1 44 "PartsFlowModel" "variables" "I", .fieldLink RX1 17 "PartsFlowModel" "given" "[Z", .methodLink RX1 61 yX1_come, .instanceMethod yX1_come, .selects RX1 yX1_come yX1_come, .code yX1_come cX1_come 3 none, .fieldLink RX1 41 "PartsFlowModel" "pile" "[I", .fieldLink RX1 23 "PartsFlowModel" "of" "[I", .fieldLink RX1 26 "PartsFlowModel" "from" "[I", .fieldLink RX1 29 "PartsFlowModel" "many" "[I", .fieldLink RX1 32 "PartsFlowModel" "xs" "[I", .fieldLink RX1 35 "PartsFlowModel" "ys" "[I", .methodLink RX1 75 yX1_without, .instanceMethod yX1_without, .selects RX1 yX1_without yX1_without, .code yX1_without cX1_without 3 (some .int), .methodLink RX1 68 yX1_bits, .instanceMethod yX1_bits, .selects RX1 yX1_bits yX1_bits, .code yX1_bits cX1_bits 6 (some .int), .fieldLink RX1 7 "PartsFlowModel" "parts" "[I", .fieldLink RX1 13 "PartsFlowModel" "once" "[Z", .methodLink RX1 79 yX1_having, .instanceMethod yX1_having, .selects RX1 yX1_having yX1_having, .code yX1_having cX1_having 3 (some .int)] ++ wsX10)
def wsX1_count : List Cond := .code yX1_count cX1_count 8 (some .int) :: ([.fieldLink RX1 48 "PartsFlowModel" "points" "I", .methodLink RX1 72 yX1_isReached, .instanceMethod yX1_isReached, .selects RX1 yX1_isReached yX1_isReached, .initialized RX1, .code yX1_isReached cX1_isReached 2 (some .boolean), .methodLink RX1 65 yX1_go, .instanceMethod yX1_go, .selects RX1 yX1_go yX1_go, .code yX1_go cX1_go 7 none, .fieldLink RX1 38 "PartsFlowModel" "seen" "[Z", .fieldLink RX1 58 "PartsFlowModel" "high" "I", .methodLink RX1 51 yX1_isVariable, .instanceMethod yX1_isVariable, .selects RX1 yX1_isVariable yX1_isVariable, .code yX1_isVariable cX1_isVariable 2 (some .boolean), .fieldLink RX1 44 "PartsFlowModel" "variables" "I", .fieldLink RX1 17 "PartsFlowModel" "given" "[Z", .methodLink RX1 61 yX1_come, .instanceMethod yX1_come, .selects RX1 yX1_come yX1_come, .code yX1_come cX1_come 3 none, .methodLink RX1 55 yX1_isPoint, .instanceMethod yX1_isPoint, .selects RX1 yX1_isPoint yX1_isPoint, .code yX1_isPoint cX1_isPoint 2 (some .boolean), .fieldLink RX1 41 "PartsFlowModel" "pile" "[I", .fieldLink RX1 23 "PartsFlowModel" "of" "[I", .fieldLink RX1 26 "PartsFlowModel" "from" "[I", .fieldLink RX1 29 "PartsFlowModel" "many" "[I", .fieldLink RX1 20 "PartsFlowModel" "doings" "[I", .fieldLink RX1 32 "PartsFlowModel" "xs" "[I", .fieldLink RX1 35 "PartsFlowModel" "ys" "[I", .methodLink RX1 82 yX1_fault, .instanceMethod yX1_fault, .selects RX1 yX1_fault yX1_fault, .code yX1_fault cX1_fault 5 (some .int), .methodLink RX1 75 yX1_without, .instanceMethod yX1_without, .selects RX1 yX1_without yX1_without, .code yX1_without cX1_without 3 (some .int), .methodLink RX1 68 yX1_bits, .instanceMethod yX1_bits, .selects RX1 yX1_bits yX1_bits, .code yX1_bits cX1_bits 6 (some .int), .fieldLink RX1 7 "PartsFlowModel" "parts" "[I", .fieldLink RX1 13 "PartsFlowModel" "once" "[Z", .methodLink RX1 79 yX1_having, .instanceMethod yX1_having, .selects RX1 yX1_having yX1_having, .code yX1_having cX1_having 3 (some .int)] ++ wsX10)
def wsX1_clear : List Cond := .code yX1_clear cX1_clear 2 (some .int) :: ([.fieldLink RX1 48 "PartsFlowModel" "points" "I"] ++ wsX10)
set_option maxRecDepth 20000 in
theorem ggX1_point_X1_isVariable : GoodIn wsX1_point wsX1_isVariable := goodIn_r _ [6, 7, 15, 16, 17, 18, 19, 20, 21, 22, 23, 24, 25, 26, 27, 28] (by decide +kernel) (by decide +kernel)
set_option maxRecDepth 20000 in
theorem gX1_point_X1_isVariable : GoodIn wsX1_point (wsV RX1 51 RX1 yX1_isVariable wsX1_isVariable) := goodIn_app (goodIn_of _ (by decide +kernel)) ggX1_point_X1_isVariable
set_option maxRecDepth 20000 in
theorem ggX1_next_X1_isPoint : GoodIn wsX1_next wsX1_isPoint := goodIn_r _ [5, 6, 9, 10, 11, 12, 13, 14, 15, 16, 17, 18, 19, 20, 21, 22] (by decide +kernel) (by decide +kernel)
set_option maxRecDepth 20000 in
theorem gX1_next_X1_isPoint : GoodIn wsX1_next (wsV RX1 55 RX1 yX1_isPoint wsX1_isPoint) := goodIn_app (goodIn_of _ (by decide +kernel)) ggX1_next_X1_isPoint
set_option maxRecDepth 20000 in
theorem ggX1_come_X1_isPoint : GoodIn wsX1_come wsX1_isPoint := goodIn_r _ [5, 6, 10, 11, 12, 13, 14, 15, 16, 17, 18, 19, 20, 21, 22, 23] (by decide +kernel) (by decide +kernel)
set_option maxRecDepth 20000 in
theorem gX1_come_X1_isPoint : GoodIn wsX1_come (wsV RX1 55 RX1 yX1_isPoint wsX1_isPoint) := goodIn_app (goodIn_of _ (by decide +kernel)) ggX1_come_X1_isPoint
set_option maxRecDepth 20000 in
theorem ggX1_go_X1_isVariable : GoodIn wsX1_go wsX1_isVariable := goodIn_r _ [7, 8, 26, 27, 28, 29, 30, 31, 32, 33, 34, 35, 36, 37, 38, 39] (by decide +kernel) (by decide +kernel)
set_option maxRecDepth 20000 in
theorem gX1_go_X1_isVariable : GoodIn wsX1_go (wsV RX1 51 RX1 yX1_isVariable wsX1_isVariable) := goodIn_app (goodIn_of _ (by decide +kernel)) ggX1_go_X1_isVariable
set_option maxRecDepth 20000 in
theorem ggX1_go_X1_come : GoodIn wsX1_go wsX1_come := goodIn_r _ [13, 14, 15, 16, 6, 17, 18, 1, 19, 2, 26, 27, 28, 29, 30, 31, 32, 33, 34, 35, 36, 37, 38, 39] (by decide +kernel) (by decide +kernel)
set_option maxRecDepth 20000 in
theorem gX1_go_X1_come : GoodIn wsX1_go (wsV RX1 61 RX1 yX1_come wsX1_come) := goodIn_app (goodIn_of _ (by decide +kernel)) ggX1_go_X1_come
set_option maxRecDepth 20000 in
theorem ggX1_isReached_X1_go : GoodIn wsX1_isReached wsX1_go := goodIn_r _ [5, 6, 7, 8, 9, 10, 4, 11, 12, 13, 14, 15, 16, 17, 18, 19, 20, 21, 22, 23, 24, 25, 26, 27, 28, 29, 30, 31, 32, 33, 34, 35, 36, 37, 38, 39, 40, 41, 42, 43] (by decide +kernel) (by decide +kernel)
set_option maxRecDepth 20000 in
theorem gX1_isReached_X1_go : GoodIn wsX1_isReached (wsV RX1 65 RX1 yX1_go wsX1_go) := goodIn_app (goodIn_of _ (by decide +kernel)) ggX1_isReached_X1_go
set_option maxRecDepth 20000 in
theorem ggX1_isReached_X1_isPoint : GoodIn wsX1_isReached wsX1_isPoint := goodIn_r _ [21, 22, 30, 31, 32, 33, 34, 35, 36, 37, 38, 39, 40, 41, 42, 43] (by decide +kernel) (by decide +kernel)
set_option maxRecDepth 20000 in
theorem gX1_isReached_X1_isPoint : GoodIn wsX1_isReached (wsV RX1 55 RX1 yX1_isPoint wsX1_isPoint) := goodIn_app (goodIn_of _ (by decide +kernel)) ggX1_isReached_X1_isPoint
set_option maxRecDepth 20000 in
theorem ggX1_bits_X1_isPoint : GoodIn wsX1_bits wsX1_isPoint := goodIn_r _ [5, 6, 31, 32, 33, 34, 35, 36, 37, 38, 39, 40, 41, 42, 43, 44] (by decide +kernel) (by decide +kernel)
set_option maxRecDepth 20000 in
theorem gX1_bits_X1_isPoint : GoodIn wsX1_bits (wsV RX1 55 RX1 yX1_isPoint wsX1_isPoint) := goodIn_app (goodIn_of _ (by decide +kernel)) ggX1_bits_X1_isPoint
set_option maxRecDepth 20000 in
theorem ggX1_bits_X1_isVariable : GoodIn wsX1_bits wsX1_isVariable := goodIn_r _ [10, 11, 31, 32, 33, 34, 35, 36, 37, 38, 39, 40, 41, 42, 43, 44] (by decide +kernel) (by decide +kernel)
set_option maxRecDepth 20000 in
theorem gX1_bits_X1_isVariable : GoodIn wsX1_bits (wsV RX1 51 RX1 yX1_isVariable wsX1_isVariable) := goodIn_app (goodIn_of _ (by decide +kernel)) ggX1_bits_X1_isVariable
set_option maxRecDepth 20000 in
theorem ggX1_bits_X1_go : GoodIn wsX1_bits wsX1_go := goodIn_r _ [16, 17, 18, 7, 8, 9, 4, 10, 11, 19, 20, 21, 22, 23, 1, 2, 3, 5, 6, 24, 25, 26, 27, 28, 29, 30, 31, 32, 33, 34, 35, 36, 37, 38, 39, 40, 41, 42, 43, 44] (by decide +kernel) (by decide +kernel)
set_option maxRecDepth 20000 in
theorem gX1_bits_X1_go : GoodIn wsX1_bits (wsV RX1 65 RX1 yX1_go wsX1_go) := goodIn_app (goodIn_of _ (by decide +kernel)) ggX1_bits_X1_go
set_option maxRecDepth 20000 in
theorem ggX1_without_X1_bits : GoodIn wsX1_without wsX1_bits := goodIn_r _ [5, 6, 7, 8, 4, 9, 10, 11, 12, 13, 14, 15, 16, 17, 18, 19, 20, 21, 22, 23, 24, 25, 26, 27, 28, 29, 30, 31, 32, 33, 34, 35, 36, 37, 38, 39, 40, 41, 42, 43, 44, 45, 46, 47, 48] (by decide +kernel) (by decide +kernel)
set_option maxRecDepth 20000 in
theorem gX1_without_X1_bits : GoodIn wsX1_without (wsV RX1 68 RX1 yX1_bits wsX1_bits) := goodIn_app (goodIn_of _ (by decide +kernel)) ggX1_without_X1_bits
set_option maxRecDepth 20000 in
theorem ggX1_having_X1_bits : GoodIn wsX1_having wsX1_bits := goodIn_r _ [5, 6, 7, 8, 4, 9, 10, 11, 12, 13, 14, 15, 16, 17, 18, 19, 20, 21, 22, 23, 24, 25, 26, 27, 28, 29, 30, 31, 32, 33, 34, 35, 36, 37, 38, 39, 40, 41, 42, 43, 44, 45, 46, 47, 48] (by decide +kernel) (by decide +kernel)
set_option maxRecDepth 20000 in
theorem gX1_having_X1_bits : GoodIn wsX1_having (wsV RX1 68 RX1 yX1_bits wsX1_bits) := goodIn_app (goodIn_of _ (by decide +kernel)) ggX1_having_X1_bits
set_option maxRecDepth 20000 in
theorem ggX1_fault_X1_isPoint : GoodIn wsX1_fault wsX1_isPoint := goodIn_r _ [5, 6, 48, 49, 50, 51, 52, 53, 54, 55, 56, 57, 58, 59, 60, 61] (by decide +kernel) (by decide +kernel)
set_option maxRecDepth 20000 in
theorem gX1_fault_X1_isPoint : GoodIn wsX1_fault (wsV RX1 55 RX1 yX1_isPoint wsX1_isPoint) := goodIn_app (goodIn_of _ (by decide +kernel)) ggX1_fault_X1_isPoint
set_option maxRecDepth 20000 in
theorem ggX1_fault_X1_isReached : GoodIn wsX1_fault wsX1_isReached := goodIn_r _ [11, 12, 13, 14, 4, 15, 16, 17, 18, 19, 20, 21, 22, 23, 24, 25, 26, 27, 1, 2, 3, 5, 6, 28, 29, 30, 31, 7, 32, 33, 48, 49, 50, 51, 52, 53, 54, 55, 56, 57, 58, 59, 60, 61] (by decide +kernel) (by decide +kernel)
set_option maxRecDepth 20000 in
theorem gX1_fault_X1_isReached : GoodIn wsX1_fault (wsV RX1 72 RX1 yX1_isReached wsX1_isReached) := goodIn_app (goodIn_of _ (by decide +kernel)) ggX1_fault_X1_isReached
set_option maxRecDepth 20000 in
theorem ggX1_fault_X1_without : GoodIn wsX1_fault wsX1_without := goodIn_r _ [37, 38, 39, 40, 4, 41, 1, 2, 3, 5, 6, 18, 19, 20, 21, 22, 42, 12, 13, 14, 15, 16, 17, 23, 24, 25, 26, 27, 28, 29, 30, 31, 7, 32, 33, 48, 49, 50, 51, 52, 53, 54, 55, 56, 57, 58, 59, 60, 61] (by decide +kernel) (by decide +kernel)
set_option maxRecDepth 20000 in
theorem gX1_fault_X1_without : GoodIn wsX1_fault (wsV RX1 75 RX1 yX1_without wsX1_without) := goodIn_app (goodIn_of _ (by decide +kernel)) ggX1_fault_X1_without
set_option maxRecDepth 20000 in
theorem ggX1_fault_X1_having : GoodIn wsX1_fault wsX1_having := goodIn_r _ [47, 38, 39, 40, 4, 41, 1, 2, 3, 5, 6, 18, 19, 20, 21, 22, 42, 12, 13, 14, 15, 16, 17, 23, 24, 25, 26, 27, 28, 29, 30, 31, 7, 32, 33, 48, 49, 50, 51, 52, 53, 54, 55, 56, 57, 58, 59, 60, 61] (by decide +kernel) (by decide +kernel)
set_option maxRecDepth 20000 in
theorem gX1_fault_X1_having : GoodIn wsX1_fault (wsV RX1 79 RX1 yX1_having wsX1_having) := goodIn_app (goodIn_of _ (by decide +kernel)) ggX1_fault_X1_having
set_option maxRecDepth 20000 in
theorem ggX1_count_X1_isReached : GoodIn wsX1_count wsX1_isReached := goodIn_r _ [6, 7, 8, 9, 5, 10, 11, 12, 13, 14, 15, 16, 17, 18, 19, 20, 21, 22, 23, 24, 25, 26, 1, 27, 28, 29, 30, 31, 32, 33, 52, 53, 54, 55, 56, 57, 58, 59, 60, 61, 62, 63, 64, 65] (by decide +kernel) (by decide +kernel)
set_option maxRecDepth 20000 in
theorem gX1_count_X1_isReached : GoodIn wsX1_count (wsV RX1 72 RX1 yX1_isReached wsX1_isReached) := goodIn_app (goodIn_of _ (by decide +kernel)) ggX1_count_X1_isReached
set_option maxRecDepth 20000 in
theorem ggX1_count_X1_fault : GoodIn wsX1_count wsX1_fault := goodIn_r _ [37, 23, 24, 25, 5, 26, 1, 31, 2, 3, 4, 6, 7, 8, 9, 10, 11, 12, 13, 14, 15, 16, 17, 18, 19, 20, 21, 22, 27, 28, 29, 30, 32, 33, 38, 39, 40, 41, 42, 43, 44, 45, 46, 47, 48, 49, 50, 51, 52, 53, 54, 55, 56, 57, 58, 59, 60, 61, 62, 63, 64, 65] (by decide +kernel) (by decide +kernel)
set_option maxRecDepth 20000 in
theorem gX1_count_X1_fault : GoodIn wsX1_count (wsV RX1 82 RX1 yX1_fault wsX1_fault) := goodIn_app (goodIn_of _ (by decide +kernel)) ggX1_count_X1_fault
theorem dX1_init_0 : decode cX1_init 0 = .ok (.aload_n 0, 1) := by decide +kernel
theorem dX1_init_1 : decode cX1_init 1 = .ok (.invokespecial 1, 3) := by decide +kernel
theorem dX1_init_4 : decode cX1_init 4 = .ok (.aload_n 0, 1) := by decide +kernel
theorem dX1_init_5 : decode cX1_init 5 = .ok (.bipush 20, 2) := by decide +kernel
theorem dX1_init_7 : decode cX1_init 7 = .ok (.newarray .int, 2) := by decide +kernel
theorem dX1_init_9 : decode cX1_init 9 = .ok (.putfield 7, 3) := by decide +kernel
theorem dX1_init_12 : decode cX1_init 12 = .ok (.aload_n 0, 1) := by decide +kernel
theorem dX1_init_13 : decode cX1_init 13 = .ok (.bipush 20, 2) := by decide +kernel
theorem dX1_init_15 : decode cX1_init 15 = .ok (.newarray .boolean, 2) := by decide +kernel
theorem dX1_init_17 : decode cX1_init 17 = .ok (.putfield 13, 3) := by decide +kernel
theorem dX1_init_20 : decode cX1_init 20 = .ok (.aload_n 0, 1) := by decide +kernel
theorem dX1_init_21 : decode cX1_init 21 = .ok (.bipush 20, 2) := by decide +kernel
theorem dX1_init_23 : decode cX1_init 23 = .ok (.newarray .boolean, 2) := by decide +kernel
theorem dX1_init_25 : decode cX1_init 25 = .ok (.putfield 17, 3) := by decide +kernel
theorem dX1_init_28 : decode cX1_init 28 = .ok (.aload_n 0, 1) := by decide +kernel
theorem dX1_init_29 : decode cX1_init 29 = .ok (.bipush 120, 2) := by decide +kernel
theorem dX1_init_31 : decode cX1_init 31 = .ok (.newarray .int, 2) := by decide +kernel
theorem dX1_init_33 : decode cX1_init 33 = .ok (.putfield 20, 3) := by decide +kernel
theorem dX1_init_36 : decode cX1_init 36 = .ok (.aload_n 0, 1) := by decide +kernel
theorem dX1_init_37 : decode cX1_init 37 = .ok (.bipush 120, 2) := by decide +kernel
theorem dX1_init_39 : decode cX1_init 39 = .ok (.newarray .int, 2) := by decide +kernel
theorem dX1_init_41 : decode cX1_init 41 = .ok (.putfield 23, 3) := by decide +kernel
theorem dX1_init_44 : decode cX1_init 44 = .ok (.aload_n 0, 1) := by decide +kernel
theorem dX1_init_45 : decode cX1_init 45 = .ok (.bipush 120, 2) := by decide +kernel
theorem dX1_init_47 : decode cX1_init 47 = .ok (.newarray .int, 2) := by decide +kernel
theorem dX1_init_49 : decode cX1_init 49 = .ok (.putfield 26, 3) := by decide +kernel
theorem dX1_init_52 : decode cX1_init 52 = .ok (.aload_n 0, 1) := by decide +kernel
theorem dX1_init_53 : decode cX1_init 53 = .ok (.bipush 120, 2) := by decide +kernel
theorem dX1_init_55 : decode cX1_init 55 = .ok (.newarray .int, 2) := by decide +kernel
theorem dX1_init_57 : decode cX1_init 57 = .ok (.putfield 29, 3) := by decide +kernel
theorem dX1_init_60 : decode cX1_init 60 = .ok (.aload_n 0, 1) := by decide +kernel
theorem dX1_init_61 : decode cX1_init 61 = .ok (.bipush 120, 2) := by decide +kernel
theorem dX1_init_63 : decode cX1_init 63 = .ok (.newarray .int, 2) := by decide +kernel
theorem dX1_init_65 : decode cX1_init 65 = .ok (.putfield 32, 3) := by decide +kernel
theorem dX1_init_68 : decode cX1_init 68 = .ok (.aload_n 0, 1) := by decide +kernel
theorem dX1_init_69 : decode cX1_init 69 = .ok (.bipush 120, 2) := by decide +kernel
theorem dX1_init_71 : decode cX1_init 71 = .ok (.newarray .int, 2) := by decide +kernel
theorem dX1_init_73 : decode cX1_init 73 = .ok (.putfield 35, 3) := by decide +kernel
theorem dX1_init_76 : decode cX1_init 76 = .ok (.aload_n 0, 1) := by decide +kernel
theorem dX1_init_77 : decode cX1_init 77 = .ok (.sipush 240, 3) := by decide +kernel
theorem dX1_init_80 : decode cX1_init 80 = .ok (.newarray .boolean, 2) := by decide +kernel
theorem dX1_init_82 : decode cX1_init 82 = .ok (.putfield 38, 3) := by decide +kernel
theorem dX1_init_85 : decode cX1_init 85 = .ok (.aload_n 0, 1) := by decide +kernel
theorem dX1_init_86 : decode cX1_init 86 = .ok (.sipush 240, 3) := by decide +kernel
theorem dX1_init_89 : decode cX1_init 89 = .ok (.newarray .int, 2) := by decide +kernel
theorem dX1_init_91 : decode cX1_init 91 = .ok (.putfield 41, 3) := by decide +kernel
theorem dX1_init_94 : decode cX1_init 94 = .ok (.return_, 1) := by decide +kernel
theorem dX1_variable_0 : decode cX1_variable 0 = .ok (.iload_n 1, 1) := by decide +kernel
theorem dX1_variable_1 : decode cX1_variable 1 = .ok (.iconst 1, 1) := by decide +kernel
theorem dX1_variable_2 : decode cX1_variable 2 = .ok (.if_icmp .lt 18, 3) := by decide +kernel
theorem dX1_variable_5 : decode cX1_variable 5 = .ok (.iload_n 1, 1) := by decide +kernel
theorem dX1_variable_6 : decode cX1_variable 6 = .ok (.bipush 8, 2) := by decide +kernel
theorem dX1_variable_8 : decode cX1_variable 8 = .ok (.if_icmp .gt 12, 3) := by decide +kernel
theorem dX1_variable_11 : decode cX1_variable 11 = .ok (.aload_n 0, 1) := by decide +kernel
theorem dX1_variable_12 : decode cX1_variable 12 = .ok (.getfield 44, 3) := by decide +kernel
theorem dX1_variable_15 : decode cX1_variable 15 = .ok (.bipush 20, 2) := by decide +kernel
theorem dX1_variable_17 : decode cX1_variable 17 = .ok (.if_icmp .ne 5, 3) := by decide +kernel
theorem dX1_variable_20 : decode cX1_variable 20 = .ok (.iconst (-1), 1) := by decide +kernel
theorem dX1_variable_21 : decode cX1_variable 21 = .ok (.ireturn, 1) := by decide +kernel
theorem dX1_variable_22 : decode cX1_variable 22 = .ok (.aload_n 0, 1) := by decide +kernel
theorem dX1_variable_23 : decode cX1_variable 23 = .ok (.getfield 7, 3) := by decide +kernel
theorem dX1_variable_26 : decode cX1_variable 26 = .ok (.aload_n 0, 1) := by decide +kernel
theorem dX1_variable_27 : decode cX1_variable 27 = .ok (.getfield 44, 3) := by decide +kernel
theorem dX1_variable_30 : decode cX1_variable 30 = .ok (.iload_n 1, 1) := by decide +kernel
theorem dX1_variable_31 : decode cX1_variable 31 = .ok (.iastore, 1) := by decide +kernel
theorem dX1_variable_32 : decode cX1_variable 32 = .ok (.aload_n 0, 1) := by decide +kernel
theorem dX1_variable_33 : decode cX1_variable 33 = .ok (.getfield 13, 3) := by decide +kernel
theorem dX1_variable_36 : decode cX1_variable 36 = .ok (.aload_n 0, 1) := by decide +kernel
theorem dX1_variable_37 : decode cX1_variable 37 = .ok (.getfield 44, 3) := by decide +kernel
theorem dX1_variable_40 : decode cX1_variable 40 = .ok (.iload_n 2, 1) := by decide +kernel
theorem dX1_variable_41 : decode cX1_variable 41 = .ok (.bastore, 1) := by decide +kernel
theorem dX1_variable_42 : decode cX1_variable 42 = .ok (.aload_n 0, 1) := by decide +kernel
theorem dX1_variable_43 : decode cX1_variable 43 = .ok (.getfield 17, 3) := by decide +kernel
theorem dX1_variable_46 : decode cX1_variable 46 = .ok (.aload_n 0, 1) := by decide +kernel
theorem dX1_variable_47 : decode cX1_variable 47 = .ok (.getfield 44, 3) := by decide +kernel
theorem dX1_variable_50 : decode cX1_variable 50 = .ok (.iload_n 3, 1) := by decide +kernel
theorem dX1_variable_51 : decode cX1_variable 51 = .ok (.bastore, 1) := by decide +kernel
theorem dX1_variable_52 : decode cX1_variable 52 = .ok (.aload_n 0, 1) := by decide +kernel
theorem dX1_variable_53 : decode cX1_variable 53 = .ok (.dup, 1) := by decide +kernel
theorem dX1_variable_54 : decode cX1_variable 54 = .ok (.getfield 44, 3) := by decide +kernel
theorem dX1_variable_57 : decode cX1_variable 57 = .ok (.iconst 1, 1) := by decide +kernel
theorem dX1_variable_58 : decode cX1_variable 58 = .ok (.iadd, 1) := by decide +kernel
theorem dX1_variable_59 : decode cX1_variable 59 = .ok (.putfield 44, 3) := by decide +kernel
theorem dX1_variable_62 : decode cX1_variable 62 = .ok (.aload_n 0, 1) := by decide +kernel
theorem dX1_variable_63 : decode cX1_variable 63 = .ok (.getfield 44, 3) := by decide +kernel
theorem dX1_variable_66 : decode cX1_variable 66 = .ok (.iconst 1, 1) := by decide +kernel
theorem dX1_variable_67 : decode cX1_variable 67 = .ok (.isub, 1) := by decide +kernel
theorem dX1_variable_68 : decode cX1_variable 68 = .ok (.ireturn, 1) := by decide +kernel
theorem dX1_point_0 : decode cX1_point 0 = .ok (.iload_n 1, 1) := by decide +kernel
theorem dX1_point_1 : decode cX1_point 1 = .ok (.ifCond .lt 33, 3) := by decide +kernel
theorem dX1_point_4 : decode cX1_point 4 = .ok (.iload_n 1, 1) := by decide +kernel
theorem dX1_point_5 : decode cX1_point 5 = .ok (.iconst 5, 1) := by decide +kernel
theorem dX1_point_6 : decode cX1_point 6 = .ok (.if_icmp .gt 28, 3) := by decide +kernel
theorem dX1_point_9 : decode cX1_point 9 = .ok (.aload_n 0, 1) := by decide +kernel
theorem dX1_point_10 : decode cX1_point 10 = .ok (.getfield 48, 3) := by decide +kernel
theorem dX1_point_13 : decode cX1_point 13 = .ok (.bipush 120, 2) := by decide +kernel
theorem dX1_point_15 : decode cX1_point 15 = .ok (.if_icmp .ge 19, 3) := by decide +kernel
theorem dX1_point_18 : decode cX1_point 18 = .ok (.iload_n 1, 1) := by decide +kernel
theorem dX1_point_19 : decode cX1_point 19 = .ok (.ifCond .eq 11, 3) := by decide +kernel
theorem dX1_point_22 : decode cX1_point 22 = .ok (.aload_n 0, 1) := by decide +kernel
theorem dX1_point_23 : decode cX1_point 23 = .ok (.iload_n 2, 1) := by decide +kernel
theorem dX1_point_24 : decode cX1_point 24 = .ok (.invokevirtual 51, 3) := by decide +kernel
theorem dX1_point_27 : decode cX1_point 27 = .ok (.ifCond .eq 7, 3) := by decide +kernel
theorem dX1_point_30 : decode cX1_point 30 = .ok (.iconst 1, 1) := by decide +kernel
theorem dX1_point_31 : decode cX1_point 31 = .ok (.goto 4, 3) := by decide +kernel
theorem dX1_point_34 : decode cX1_point 34 = .ok (.iconst 0, 1) := by decide +kernel
theorem dX1_point_35 : decode cX1_point 35 = .ok (.istore 5, 2) := by decide +kernel
theorem dX1_point_37 : decode cX1_point 37 = .ok (.iload 5, 2) := by decide +kernel
theorem dX1_point_39 : decode cX1_point 39 = .ok (.ifCond .eq 53, 3) := by decide +kernel
theorem dX1_point_42 : decode cX1_point 42 = .ok (.iload_n 1, 1) := by decide +kernel
theorem dX1_point_43 : decode cX1_point 43 = .ok (.iconst 1, 1) := by decide +kernel
theorem dX1_point_44 : decode cX1_point 44 = .ok (.if_icmp .lt 44, 3) := by decide +kernel
theorem dX1_point_47 : decode cX1_point 47 = .ok (.iload_n 1, 1) := by decide +kernel
theorem dX1_point_48 : decode cX1_point 48 = .ok (.iconst 3, 1) := by decide +kernel
theorem dX1_point_49 : decode cX1_point 49 = .ok (.if_icmp .gt 39, 3) := by decide +kernel
theorem dX1_point_52 : decode cX1_point 52 = .ok (.iload_n 3, 1) := by decide +kernel
theorem dX1_point_53 : decode cX1_point 53 = .ok (.ifCond .lt 39, 3) := by decide +kernel
theorem dX1_point_56 : decode cX1_point 56 = .ok (.iload 4, 2) := by decide +kernel
theorem dX1_point_58 : decode cX1_point 58 = .ok (.iconst 1, 1) := by decide +kernel
theorem dX1_point_59 : decode cX1_point 59 = .ok (.if_icmp .lt 33, 3) := by decide +kernel
theorem dX1_point_62 : decode cX1_point 62 = .ok (.iload_n 3, 1) := by decide +kernel
theorem dX1_point_63 : decode cX1_point 63 = .ok (.bipush 8, 2) := by decide +kernel
theorem dX1_point_65 : decode cX1_point 65 = .ok (.if_icmp .ge 27, 3) := by decide +kernel
theorem dX1_point_68 : decode cX1_point 68 = .ok (.iload 4, 2) := by decide +kernel
theorem dX1_point_70 : decode cX1_point 70 = .ok (.bipush 8, 2) := by decide +kernel
theorem dX1_point_72 : decode cX1_point 72 = .ok (.if_icmp .gt 20, 3) := by decide +kernel
theorem dX1_point_75 : decode cX1_point 75 = .ok (.iload_n 3, 1) := by decide +kernel
theorem dX1_point_76 : decode cX1_point 76 = .ok (.iload 4, 2) := by decide +kernel
theorem dX1_point_78 : decode cX1_point 78 = .ok (.iadd, 1) := by decide +kernel
theorem dX1_point_79 : decode cX1_point 79 = .ok (.aload_n 0, 1) := by decide +kernel
theorem dX1_point_80 : decode cX1_point 80 = .ok (.getfield 7, 3) := by decide +kernel
theorem dX1_point_83 : decode cX1_point 83 = .ok (.iload_n 2, 1) := by decide +kernel
theorem dX1_point_84 : decode cX1_point 84 = .ok (.iaload, 1) := by decide +kernel
theorem dX1_point_85 : decode cX1_point 85 = .ok (.if_icmp .gt 7, 3) := by decide +kernel
theorem dX1_point_88 : decode cX1_point 88 = .ok (.iconst 1, 1) := by decide +kernel
theorem dX1_point_89 : decode cX1_point 89 = .ok (.goto 4, 3) := by decide +kernel
theorem dX1_point_92 : decode cX1_point 92 = .ok (.iconst 0, 1) := by decide +kernel
theorem dX1_point_93 : decode cX1_point 93 = .ok (.istore 5, 2) := by decide +kernel
theorem dX1_point_95 : decode cX1_point 95 = .ok (.iload 5, 2) := by decide +kernel
theorem dX1_point_97 : decode cX1_point 97 = .ok (.ifCond .ne 5, 3) := by decide +kernel
theorem dX1_point_100 : decode cX1_point 100 = .ok (.iconst (-1), 1) := by decide +kernel
theorem dX1_point_101 : decode cX1_point 101 = .ok (.ireturn, 1) := by decide +kernel
theorem dX1_point_102 : decode cX1_point 102 = .ok (.aload_n 0, 1) := by decide +kernel
theorem dX1_point_103 : decode cX1_point 103 = .ok (.getfield 20, 3) := by decide +kernel
theorem dX1_point_106 : decode cX1_point 106 = .ok (.aload_n 0, 1) := by decide +kernel
theorem dX1_point_107 : decode cX1_point 107 = .ok (.getfield 48, 3) := by decide +kernel
theorem dX1_point_110 : decode cX1_point 110 = .ok (.iload_n 1, 1) := by decide +kernel
theorem dX1_point_111 : decode cX1_point 111 = .ok (.iastore, 1) := by decide +kernel
theorem dX1_point_112 : decode cX1_point 112 = .ok (.aload_n 0, 1) := by decide +kernel
theorem dX1_point_113 : decode cX1_point 113 = .ok (.getfield 23, 3) := by decide +kernel
theorem dX1_point_116 : decode cX1_point 116 = .ok (.aload_n 0, 1) := by decide +kernel
theorem dX1_point_117 : decode cX1_point 117 = .ok (.getfield 48, 3) := by decide +kernel
theorem dX1_point_120 : decode cX1_point 120 = .ok (.iload_n 1, 1) := by decide +kernel
theorem dX1_point_121 : decode cX1_point 121 = .ok (.ifCond .ne 7, 3) := by decide +kernel
theorem dX1_point_124 : decode cX1_point 124 = .ok (.iconst (-1), 1) := by decide +kernel
theorem dX1_point_125 : decode cX1_point 125 = .ok (.goto 4, 3) := by decide +kernel
theorem dX1_point_128 : decode cX1_point 128 = .ok (.iload_n 2, 1) := by decide +kernel
theorem dX1_point_129 : decode cX1_point 129 = .ok (.iastore, 1) := by decide +kernel
theorem dX1_point_130 : decode cX1_point 130 = .ok (.aload_n 0, 1) := by decide +kernel
theorem dX1_point_131 : decode cX1_point 131 = .ok (.getfield 26, 3) := by decide +kernel
theorem dX1_point_134 : decode cX1_point 134 = .ok (.aload_n 0, 1) := by decide +kernel
theorem dX1_point_135 : decode cX1_point 135 = .ok (.getfield 48, 3) := by decide +kernel
theorem dX1_point_138 : decode cX1_point 138 = .ok (.iload_n 1, 1) := by decide +kernel
theorem dX1_point_139 : decode cX1_point 139 = .ok (.iconst 4, 1) := by decide +kernel
theorem dX1_point_140 : decode cX1_point 140 = .ok (.if_icmp .ge 7, 3) := by decide +kernel
theorem dX1_point_143 : decode cX1_point 143 = .ok (.iload_n 3, 1) := by decide +kernel
theorem dX1_point_144 : decode cX1_point 144 = .ok (.goto 4, 3) := by decide +kernel
theorem dX1_point_147 : decode cX1_point 147 = .ok (.iconst 0, 1) := by decide +kernel
theorem dX1_point_148 : decode cX1_point 148 = .ok (.iastore, 1) := by decide +kernel
theorem dX1_point_149 : decode cX1_point 149 = .ok (.aload_n 0, 1) := by decide +kernel
theorem dX1_point_150 : decode cX1_point 150 = .ok (.getfield 29, 3) := by decide +kernel
theorem dX1_point_153 : decode cX1_point 153 = .ok (.aload_n 0, 1) := by decide +kernel
theorem dX1_point_154 : decode cX1_point 154 = .ok (.getfield 48, 3) := by decide +kernel
theorem dX1_point_157 : decode cX1_point 157 = .ok (.iload_n 1, 1) := by decide +kernel
theorem dX1_point_158 : decode cX1_point 158 = .ok (.ifCond .ne 7, 3) := by decide +kernel
theorem dX1_point_161 : decode cX1_point 161 = .ok (.iconst 0, 1) := by decide +kernel
theorem dX1_point_162 : decode cX1_point 162 = .ok (.goto 19, 3) := by decide +kernel
theorem dX1_point_165 : decode cX1_point 165 = .ok (.iload_n 1, 1) := by decide +kernel
theorem dX1_point_166 : decode cX1_point 166 = .ok (.iconst 4, 1) := by decide +kernel
theorem dX1_point_167 : decode cX1_point 167 = .ok (.if_icmp .ge 8, 3) := by decide +kernel
theorem dX1_point_170 : decode cX1_point 170 = .ok (.iload 4, 2) := by decide +kernel
theorem dX1_point_172 : decode cX1_point 172 = .ok (.goto 9, 3) := by decide +kernel
theorem dX1_point_175 : decode cX1_point 175 = .ok (.aload_n 0, 1) := by decide +kernel
theorem dX1_point_176 : decode cX1_point 176 = .ok (.getfield 7, 3) := by decide +kernel
theorem dX1_point_179 : decode cX1_point 179 = .ok (.iload_n 2, 1) := by decide +kernel
theorem dX1_point_180 : decode cX1_point 180 = .ok (.iaload, 1) := by decide +kernel
theorem dX1_point_181 : decode cX1_point 181 = .ok (.iastore, 1) := by decide +kernel
theorem dX1_point_182 : decode cX1_point 182 = .ok (.aload_n 0, 1) := by decide +kernel
theorem dX1_point_183 : decode cX1_point 183 = .ok (.getfield 32, 3) := by decide +kernel
theorem dX1_point_186 : decode cX1_point 186 = .ok (.aload_n 0, 1) := by decide +kernel
theorem dX1_point_187 : decode cX1_point 187 = .ok (.getfield 48, 3) := by decide +kernel
theorem dX1_point_190 : decode cX1_point 190 = .ok (.aload_n 0, 1) := by decide +kernel
theorem dX1_point_191 : decode cX1_point 191 = .ok (.getfield 48, 3) := by decide +kernel
theorem dX1_point_194 : decode cX1_point 194 = .ok (.iconst 1, 1) := by decide +kernel
theorem dX1_point_195 : decode cX1_point 195 = .ok (.iadd, 1) := by decide +kernel
theorem dX1_point_196 : decode cX1_point 196 = .ok (.iastore, 1) := by decide +kernel
theorem dX1_point_197 : decode cX1_point 197 = .ok (.aload_n 0, 1) := by decide +kernel
theorem dX1_point_198 : decode cX1_point 198 = .ok (.getfield 35, 3) := by decide +kernel
theorem dX1_point_201 : decode cX1_point 201 = .ok (.aload_n 0, 1) := by decide +kernel
theorem dX1_point_202 : decode cX1_point 202 = .ok (.getfield 48, 3) := by decide +kernel
theorem dX1_point_205 : decode cX1_point 205 = .ok (.iconst (-1), 1) := by decide +kernel
theorem dX1_point_206 : decode cX1_point 206 = .ok (.iastore, 1) := by decide +kernel
theorem dX1_point_207 : decode cX1_point 207 = .ok (.aload_n 0, 1) := by decide +kernel
theorem dX1_point_208 : decode cX1_point 208 = .ok (.dup, 1) := by decide +kernel
theorem dX1_point_209 : decode cX1_point 209 = .ok (.getfield 48, 3) := by decide +kernel
theorem dX1_point_212 : decode cX1_point 212 = .ok (.iconst 1, 1) := by decide +kernel
theorem dX1_point_213 : decode cX1_point 213 = .ok (.iadd, 1) := by decide +kernel
theorem dX1_point_214 : decode cX1_point 214 = .ok (.putfield 48, 3) := by decide +kernel
theorem dX1_point_217 : decode cX1_point 217 = .ok (.aload_n 0, 1) := by decide +kernel
theorem dX1_point_218 : decode cX1_point 218 = .ok (.getfield 48, 3) := by decide +kernel
theorem dX1_point_221 : decode cX1_point 221 = .ok (.iconst 1, 1) := by decide +kernel
theorem dX1_point_222 : decode cX1_point 222 = .ok (.isub, 1) := by decide +kernel
theorem dX1_point_223 : decode cX1_point 223 = .ok (.ireturn, 1) := by decide +kernel
theorem dX1_isVariable_0 : decode cX1_isVariable 0 = .ok (.iload_n 1, 1) := by decide +kernel
theorem dX1_isVariable_1 : decode cX1_isVariable 1 = .ok (.ifCond .lt 15, 3) := by decide +kernel
theorem dX1_isVariable_4 : decode cX1_isVariable 4 = .ok (.iload_n 1, 1) := by decide +kernel
theorem dX1_isVariable_5 : decode cX1_isVariable 5 = .ok (.aload_n 0, 1) := by decide +kernel
theorem dX1_isVariable_6 : decode cX1_isVariable 6 = .ok (.getfield 44, 3) := by decide +kernel
theorem dX1_isVariable_9 : decode cX1_isVariable 9 = .ok (.if_icmp .ge 7, 3) := by decide +kernel
theorem dX1_isVariable_12 : decode cX1_isVariable 12 = .ok (.iconst 1, 1) := by decide +kernel
theorem dX1_isVariable_13 : decode cX1_isVariable 13 = .ok (.goto 4, 3) := by decide +kernel
theorem dX1_isVariable_16 : decode cX1_isVariable 16 = .ok (.iconst 0, 1) := by decide +kernel
theorem dX1_isVariable_17 : decode cX1_isVariable 17 = .ok (.ireturn, 1) := by decide +kernel
theorem dX1_next_0 : decode cX1_next 0 = .ok (.aload_n 0, 1) := by decide +kernel
theorem dX1_next_1 : decode cX1_next 1 = .ok (.iload_n 1, 1) := by decide +kernel
theorem dX1_next_2 : decode cX1_next 2 = .ok (.invokevirtual 55, 3) := by decide +kernel
theorem dX1_next_5 : decode cX1_next 5 = .ok (.ifCond .eq 25, 3) := by decide +kernel
theorem dX1_next_8 : decode cX1_next 8 = .ok (.iload_n 2, 1) := by decide +kernel
theorem dX1_next_9 : decode cX1_next 9 = .ok (.iconst (-1), 1) := by decide +kernel
theorem dX1_next_10 : decode cX1_next 10 = .ok (.if_icmp .lt 20, 3) := by decide +kernel
theorem dX1_next_13 : decode cX1_next 13 = .ok (.iload_n 2, 1) := by decide +kernel
theorem dX1_next_14 : decode cX1_next 14 = .ok (.bipush 120, 2) := by decide +kernel
theorem dX1_next_16 : decode cX1_next 16 = .ok (.if_icmp .ge 14, 3) := by decide +kernel
theorem dX1_next_19 : decode cX1_next 19 = .ok (.iload_n 3, 1) := by decide +kernel
theorem dX1_next_20 : decode cX1_next 20 = .ok (.iconst (-1), 1) := by decide +kernel
theorem dX1_next_21 : decode cX1_next 21 = .ok (.if_icmp .lt 9, 3) := by decide +kernel
theorem dX1_next_24 : decode cX1_next 24 = .ok (.iload_n 3, 1) := by decide +kernel
theorem dX1_next_25 : decode cX1_next 25 = .ok (.bipush 120, 2) := by decide +kernel
theorem dX1_next_27 : decode cX1_next 27 = .ok (.if_icmp .lt 5, 3) := by decide +kernel
theorem dX1_next_30 : decode cX1_next 30 = .ok (.iconst 0, 1) := by decide +kernel
theorem dX1_next_31 : decode cX1_next 31 = .ok (.ireturn, 1) := by decide +kernel
theorem dX1_next_32 : decode cX1_next 32 = .ok (.aload_n 0, 1) := by decide +kernel
theorem dX1_next_33 : decode cX1_next 33 = .ok (.getfield 32, 3) := by decide +kernel
theorem dX1_next_36 : decode cX1_next 36 = .ok (.iload_n 1, 1) := by decide +kernel
theorem dX1_next_37 : decode cX1_next 37 = .ok (.iload_n 2, 1) := by decide +kernel
theorem dX1_next_38 : decode cX1_next 38 = .ok (.iastore, 1) := by decide +kernel
theorem dX1_next_39 : decode cX1_next 39 = .ok (.aload_n 0, 1) := by decide +kernel
theorem dX1_next_40 : decode cX1_next 40 = .ok (.getfield 35, 3) := by decide +kernel
theorem dX1_next_43 : decode cX1_next 43 = .ok (.iload_n 1, 1) := by decide +kernel
theorem dX1_next_44 : decode cX1_next 44 = .ok (.iload_n 3, 1) := by decide +kernel
theorem dX1_next_45 : decode cX1_next 45 = .ok (.iastore, 1) := by decide +kernel
theorem dX1_next_46 : decode cX1_next 46 = .ok (.iconst 1, 1) := by decide +kernel
theorem dX1_next_47 : decode cX1_next 47 = .ok (.ireturn, 1) := by decide +kernel
theorem dX1_isPoint_0 : decode cX1_isPoint 0 = .ok (.iload_n 1, 1) := by decide +kernel
theorem dX1_isPoint_1 : decode cX1_isPoint 1 = .ok (.ifCond .lt 15, 3) := by decide +kernel
theorem dX1_isPoint_4 : decode cX1_isPoint 4 = .ok (.iload_n 1, 1) := by decide +kernel
theorem dX1_isPoint_5 : decode cX1_isPoint 5 = .ok (.aload_n 0, 1) := by decide +kernel
theorem dX1_isPoint_6 : decode cX1_isPoint 6 = .ok (.getfield 48, 3) := by decide +kernel
theorem dX1_isPoint_9 : decode cX1_isPoint 9 = .ok (.if_icmp .ge 7, 3) := by decide +kernel
theorem dX1_isPoint_12 : decode cX1_isPoint 12 = .ok (.iconst 1, 1) := by decide +kernel
theorem dX1_isPoint_13 : decode cX1_isPoint 13 = .ok (.goto 4, 3) := by decide +kernel
theorem dX1_isPoint_16 : decode cX1_isPoint 16 = .ok (.iconst 0, 1) := by decide +kernel
theorem dX1_isPoint_17 : decode cX1_isPoint 17 = .ok (.ireturn, 1) := by decide +kernel
theorem dX1_isReached_0 : decode cX1_isReached 0 = .ok (.aload_n 0, 1) := by decide +kernel
theorem dX1_isReached_1 : decode cX1_isReached 1 = .ok (.bipush (-2), 2) := by decide +kernel
theorem dX1_isReached_3 : decode cX1_isReached 3 = .ok (.iconst 0, 1) := by decide +kernel
theorem dX1_isReached_4 : decode cX1_isReached 4 = .ok (.invokevirtual 65, 3) := by decide +kernel
theorem dX1_isReached_7 : decode cX1_isReached 7 = .ok (.aload_n 0, 1) := by decide +kernel
theorem dX1_isReached_8 : decode cX1_isReached 8 = .ok (.iload_n 1, 1) := by decide +kernel
theorem dX1_isReached_9 : decode cX1_isReached 9 = .ok (.invokevirtual 55, 3) := by decide +kernel
theorem dX1_isReached_12 : decode cX1_isReached 12 = .ok (.ifCond .eq 31, 3) := by decide +kernel
theorem dX1_isReached_15 : decode cX1_isReached 15 = .ok (.aload_n 0, 1) := by decide +kernel
theorem dX1_isReached_16 : decode cX1_isReached 16 = .ok (.getfield 38, 3) := by decide +kernel
theorem dX1_isReached_19 : decode cX1_isReached 19 = .ok (.iconst 2, 1) := by decide +kernel
theorem dX1_isReached_20 : decode cX1_isReached 20 = .ok (.iload_n 1, 1) := by decide +kernel
theorem dX1_isReached_21 : decode cX1_isReached 21 = .ok (.imul, 1) := by decide +kernel
theorem dX1_isReached_22 : decode cX1_isReached 22 = .ok (.baload, 1) := by decide +kernel
theorem dX1_isReached_23 : decode cX1_isReached 23 = .ok (.ifCond .ne 16, 3) := by decide +kernel
theorem dX1_isReached_26 : decode cX1_isReached 26 = .ok (.aload_n 0, 1) := by decide +kernel
theorem dX1_isReached_27 : decode cX1_isReached 27 = .ok (.getfield 38, 3) := by decide +kernel
theorem dX1_isReached_30 : decode cX1_isReached 30 = .ok (.iconst 2, 1) := by decide +kernel
theorem dX1_isReached_31 : decode cX1_isReached 31 = .ok (.iload_n 1, 1) := by decide +kernel
theorem dX1_isReached_32 : decode cX1_isReached 32 = .ok (.imul, 1) := by decide +kernel
theorem dX1_isReached_33 : decode cX1_isReached 33 = .ok (.iconst 1, 1) := by decide +kernel
theorem dX1_isReached_34 : decode cX1_isReached 34 = .ok (.iadd, 1) := by decide +kernel
theorem dX1_isReached_35 : decode cX1_isReached 35 = .ok (.baload, 1) := by decide +kernel
theorem dX1_isReached_36 : decode cX1_isReached 36 = .ok (.ifCond .eq 7, 3) := by decide +kernel
theorem dX1_isReached_39 : decode cX1_isReached 39 = .ok (.iconst 1, 1) := by decide +kernel
theorem dX1_isReached_40 : decode cX1_isReached 40 = .ok (.goto 4, 3) := by decide +kernel
theorem dX1_isReached_43 : decode cX1_isReached 43 = .ok (.iconst 0, 1) := by decide +kernel
theorem dX1_isReached_44 : decode cX1_isReached 44 = .ok (.ireturn, 1) := by decide +kernel
theorem dX1_go_0 : decode cX1_go 0 = .ok (.iconst 0, 1) := by decide +kernel
theorem dX1_go_1 : decode cX1_go 1 = .ok (.istore_n 3, 1) := by decide +kernel
theorem dX1_go_2 : decode cX1_go 2 = .ok (.iload_n 3, 1) := by decide +kernel
theorem dX1_go_3 : decode cX1_go 3 = .ok (.sipush 240, 3) := by decide +kernel
theorem dX1_go_6 : decode cX1_go 6 = .ok (.if_icmp .ge 16, 3) := by decide +kernel
theorem dX1_go_9 : decode cX1_go 9 = .ok (.aload_n 0, 1) := by decide +kernel
theorem dX1_go_10 : decode cX1_go 10 = .ok (.getfield 38, 3) := by decide +kernel
theorem dX1_go_13 : decode cX1_go 13 = .ok (.iload_n 3, 1) := by decide +kernel
theorem dX1_go_14 : decode cX1_go 14 = .ok (.iconst 0, 1) := by decide +kernel
theorem dX1_go_15 : decode cX1_go 15 = .ok (.bastore, 1) := by decide +kernel
theorem dX1_go_16 : decode cX1_go 16 = .ok (.iinc 3 1, 3) := by decide +kernel
theorem dX1_go_19 : decode cX1_go 19 = .ok (.goto (-17), 3) := by decide +kernel
theorem dX1_go_22 : decode cX1_go 22 = .ok (.aload_n 0, 1) := by decide +kernel
theorem dX1_go_23 : decode cX1_go 23 = .ok (.iconst 0, 1) := by decide +kernel
theorem dX1_go_24 : decode cX1_go 24 = .ok (.putfield 58, 3) := by decide +kernel
theorem dX1_go_27 : decode cX1_go 27 = .ok (.aload_n 0, 1) := by decide +kernel
theorem dX1_go_28 : decode cX1_go 28 = .ok (.iconst 0, 1) := by decide +kernel
theorem dX1_go_29 : decode cX1_go 29 = .ok (.aload_n 0, 1) := by decide +kernel
theorem dX1_go_30 : decode cX1_go 30 = .ok (.iload_n 1, 1) := by decide +kernel
theorem dX1_go_31 : decode cX1_go 31 = .ok (.invokevirtual 51, 3) := by decide +kernel
theorem dX1_go_34 : decode cX1_go 34 = .ok (.ifCond .eq 16, 3) := by decide +kernel
theorem dX1_go_37 : decode cX1_go 37 = .ok (.aload_n 0, 1) := by decide +kernel
theorem dX1_go_38 : decode cX1_go 38 = .ok (.getfield 17, 3) := by decide +kernel
theorem dX1_go_41 : decode cX1_go 41 = .ok (.iload_n 1, 1) := by decide +kernel
theorem dX1_go_42 : decode cX1_go 42 = .ok (.baload, 1) := by decide +kernel
theorem dX1_go_43 : decode cX1_go 43 = .ok (.ifCond .eq 7, 3) := by decide +kernel
theorem dX1_go_46 : decode cX1_go 46 = .ok (.iconst 1, 1) := by decide +kernel
theorem dX1_go_47 : decode cX1_go 47 = .ok (.goto 4, 3) := by decide +kernel
theorem dX1_go_50 : decode cX1_go 50 = .ok (.iconst 0, 1) := by decide +kernel
theorem dX1_go_51 : decode cX1_go 51 = .ok (.invokevirtual 61, 3) := by decide +kernel
theorem dX1_go_54 : decode cX1_go 54 = .ok (.aload_n 0, 1) := by decide +kernel
theorem dX1_go_55 : decode cX1_go 55 = .ok (.getfield 58, 3) := by decide +kernel
theorem dX1_go_58 : decode cX1_go 58 = .ok (.ifCond .le 146, 3) := by decide +kernel
theorem dX1_go_61 : decode cX1_go 61 = .ok (.aload_n 0, 1) := by decide +kernel
theorem dX1_go_62 : decode cX1_go 62 = .ok (.dup, 1) := by decide +kernel
theorem dX1_go_63 : decode cX1_go 63 = .ok (.getfield 58, 3) := by decide +kernel
theorem dX1_go_66 : decode cX1_go 66 = .ok (.iconst 1, 1) := by decide +kernel
theorem dX1_go_67 : decode cX1_go 67 = .ok (.isub, 1) := by decide +kernel
theorem dX1_go_68 : decode cX1_go 68 = .ok (.putfield 58, 3) := by decide +kernel
theorem dX1_go_71 : decode cX1_go 71 = .ok (.aload_n 0, 1) := by decide +kernel
theorem dX1_go_72 : decode cX1_go 72 = .ok (.getfield 41, 3) := by decide +kernel
theorem dX1_go_75 : decode cX1_go 75 = .ok (.aload_n 0, 1) := by decide +kernel
theorem dX1_go_76 : decode cX1_go 76 = .ok (.getfield 58, 3) := by decide +kernel
theorem dX1_go_79 : decode cX1_go 79 = .ok (.iaload, 1) := by decide +kernel
theorem dX1_go_80 : decode cX1_go 80 = .ok (.iconst 2, 1) := by decide +kernel
theorem dX1_go_81 : decode cX1_go 81 = .ok (.idiv, 1) := by decide +kernel
theorem dX1_go_82 : decode cX1_go 82 = .ok (.istore_n 3, 1) := by decide +kernel
theorem dX1_go_83 : decode cX1_go 83 = .ok (.aload_n 0, 1) := by decide +kernel
theorem dX1_go_84 : decode cX1_go 84 = .ok (.getfield 41, 3) := by decide +kernel
theorem dX1_go_87 : decode cX1_go 87 = .ok (.aload_n 0, 1) := by decide +kernel
theorem dX1_go_88 : decode cX1_go 88 = .ok (.getfield 58, 3) := by decide +kernel
theorem dX1_go_91 : decode cX1_go 91 = .ok (.iaload, 1) := by decide +kernel
theorem dX1_go_92 : decode cX1_go 92 = .ok (.iconst 2, 1) := by decide +kernel
theorem dX1_go_93 : decode cX1_go 93 = .ok (.irem, 1) := by decide +kernel
theorem dX1_go_94 : decode cX1_go 94 = .ok (.istore 4, 2) := by decide +kernel
theorem dX1_go_96 : decode cX1_go 96 = .ok (.aload_n 0, 1) := by decide +kernel
theorem dX1_go_97 : decode cX1_go 97 = .ok (.getfield 23, 3) := by decide +kernel
theorem dX1_go_100 : decode cX1_go 100 = .ok (.iload_n 3, 1) := by decide +kernel
theorem dX1_go_101 : decode cX1_go 101 = .ok (.iaload, 1) := by decide +kernel
theorem dX1_go_102 : decode cX1_go 102 = .ok (.iload_n 1, 1) := by decide +kernel
theorem dX1_go_103 : decode cX1_go 103 = .ok (.if_icmp .ne 44, 3) := by decide +kernel
theorem dX1_go_106 : decode cX1_go 106 = .ok (.iload_n 2, 1) := by decide +kernel
theorem dX1_go_107 : decode cX1_go 107 = .ok (.aload_n 0, 1) := by decide +kernel
theorem dX1_go_108 : decode cX1_go 108 = .ok (.getfield 26, 3) := by decide +kernel
theorem dX1_go_111 : decode cX1_go 111 = .ok (.iload_n 3, 1) := by decide +kernel
theorem dX1_go_112 : decode cX1_go 112 = .ok (.iaload, 1) := by decide +kernel
theorem dX1_go_113 : decode cX1_go 113 = .ok (.if_icmp .lt 34, 3) := by decide +kernel
theorem dX1_go_116 : decode cX1_go 116 = .ok (.iload_n 2, 1) := by decide +kernel
theorem dX1_go_117 : decode cX1_go 117 = .ok (.aload_n 0, 1) := by decide +kernel
theorem dX1_go_118 : decode cX1_go 118 = .ok (.getfield 26, 3) := by decide +kernel
theorem dX1_go_121 : decode cX1_go 121 = .ok (.iload_n 3, 1) := by decide +kernel
theorem dX1_go_122 : decode cX1_go 122 = .ok (.iaload, 1) := by decide +kernel
theorem dX1_go_123 : decode cX1_go 123 = .ok (.aload_n 0, 1) := by decide +kernel
theorem dX1_go_124 : decode cX1_go 124 = .ok (.getfield 29, 3) := by decide +kernel
theorem dX1_go_127 : decode cX1_go 127 = .ok (.iload_n 3, 1) := by decide +kernel
theorem dX1_go_128 : decode cX1_go 128 = .ok (.iaload, 1) := by decide +kernel
theorem dX1_go_129 : decode cX1_go 129 = .ok (.iadd, 1) := by decide +kernel
theorem dX1_go_130 : decode cX1_go 130 = .ok (.if_icmp .ge 17, 3) := by decide +kernel
theorem dX1_go_133 : decode cX1_go 133 = .ok (.aload_n 0, 1) := by decide +kernel
theorem dX1_go_134 : decode cX1_go 134 = .ok (.getfield 20, 3) := by decide +kernel
theorem dX1_go_137 : decode cX1_go 137 = .ok (.iload_n 3, 1) := by decide +kernel
theorem dX1_go_138 : decode cX1_go 138 = .ok (.iaload, 1) := by decide +kernel
theorem dX1_go_139 : decode cX1_go 139 = .ok (.iconst 3, 1) := by decide +kernel
theorem dX1_go_140 : decode cX1_go 140 = .ok (.if_icmp .eq 7, 3) := by decide +kernel
theorem dX1_go_143 : decode cX1_go 143 = .ok (.iconst 1, 1) := by decide +kernel
theorem dX1_go_144 : decode cX1_go 144 = .ok (.goto 4, 3) := by decide +kernel
theorem dX1_go_147 : decode cX1_go 147 = .ok (.iconst 0, 1) := by decide +kernel
theorem dX1_go_148 : decode cX1_go 148 = .ok (.istore 5, 2) := by decide +kernel
theorem dX1_go_150 : decode cX1_go 150 = .ok (.iload 5, 2) := by decide +kernel
theorem dX1_go_152 : decode cX1_go 152 = .ok (.ifCond .ne 8, 3) := by decide +kernel
theorem dX1_go_155 : decode cX1_go 155 = .ok (.iload 4, 2) := by decide +kernel
theorem dX1_go_157 : decode cX1_go 157 = .ok (.goto 18, 3) := by decide +kernel
theorem dX1_go_160 : decode cX1_go 160 = .ok (.aload_n 0, 1) := by decide +kernel
theorem dX1_go_161 : decode cX1_go 161 = .ok (.getfield 20, 3) := by decide +kernel
theorem dX1_go_164 : decode cX1_go 164 = .ok (.iload_n 3, 1) := by decide +kernel
theorem dX1_go_165 : decode cX1_go 165 = .ok (.iaload, 1) := by decide +kernel
theorem dX1_go_166 : decode cX1_go 166 = .ok (.iconst 1, 1) := by decide +kernel
theorem dX1_go_167 : decode cX1_go 167 = .ok (.if_icmp .ne 7, 3) := by decide +kernel
theorem dX1_go_170 : decode cX1_go 170 = .ok (.iconst 1, 1) := by decide +kernel
theorem dX1_go_171 : decode cX1_go 171 = .ok (.goto 4, 3) := by decide +kernel
theorem dX1_go_174 : decode cX1_go 174 = .ok (.iconst 0, 1) := by decide +kernel
theorem dX1_go_175 : decode cX1_go 175 = .ok (.istore 6, 2) := by decide +kernel
theorem dX1_go_177 : decode cX1_go 177 = .ok (.aload_n 0, 1) := by decide +kernel
theorem dX1_go_178 : decode cX1_go 178 = .ok (.aload_n 0, 1) := by decide +kernel
theorem dX1_go_179 : decode cX1_go 179 = .ok (.getfield 32, 3) := by decide +kernel
theorem dX1_go_182 : decode cX1_go 182 = .ok (.iload_n 3, 1) := by decide +kernel
theorem dX1_go_183 : decode cX1_go 183 = .ok (.iaload, 1) := by decide +kernel
theorem dX1_go_184 : decode cX1_go 184 = .ok (.iload 6, 2) := by decide +kernel
theorem dX1_go_186 : decode cX1_go 186 = .ok (.invokevirtual 61, 3) := by decide +kernel
theorem dX1_go_189 : decode cX1_go 189 = .ok (.aload_n 0, 1) := by decide +kernel
theorem dX1_go_190 : decode cX1_go 190 = .ok (.aload_n 0, 1) := by decide +kernel
theorem dX1_go_191 : decode cX1_go 191 = .ok (.getfield 35, 3) := by decide +kernel
theorem dX1_go_194 : decode cX1_go 194 = .ok (.iload_n 3, 1) := by decide +kernel
theorem dX1_go_195 : decode cX1_go 195 = .ok (.iaload, 1) := by decide +kernel
theorem dX1_go_196 : decode cX1_go 196 = .ok (.iload 6, 2) := by decide +kernel
theorem dX1_go_198 : decode cX1_go 198 = .ok (.invokevirtual 61, 3) := by decide +kernel
theorem dX1_go_201 : decode cX1_go 201 = .ok (.goto (-147), 3) := by decide +kernel
theorem dX1_go_204 : decode cX1_go 204 = .ok (.return_, 1) := by decide +kernel
theorem dX1_come_0 : decode cX1_come 0 = .ok (.aload_n 0, 1) := by decide +kernel
theorem dX1_come_1 : decode cX1_come 1 = .ok (.iload_n 1, 1) := by decide +kernel
theorem dX1_come_2 : decode cX1_come 2 = .ok (.invokevirtual 55, 3) := by decide +kernel
theorem dX1_come_5 : decode cX1_come 5 = .ok (.ifCond .eq 16, 3) := by decide +kernel
theorem dX1_come_8 : decode cX1_come 8 = .ok (.aload_n 0, 1) := by decide +kernel
theorem dX1_come_9 : decode cX1_come 9 = .ok (.getfield 38, 3) := by decide +kernel
theorem dX1_come_12 : decode cX1_come 12 = .ok (.iconst 2, 1) := by decide +kernel
theorem dX1_come_13 : decode cX1_come 13 = .ok (.iload_n 1, 1) := by decide +kernel
theorem dX1_come_14 : decode cX1_come 14 = .ok (.imul, 1) := by decide +kernel
theorem dX1_come_15 : decode cX1_come 15 = .ok (.iload_n 2, 1) := by decide +kernel
theorem dX1_come_16 : decode cX1_come 16 = .ok (.iadd, 1) := by decide +kernel
theorem dX1_come_17 : decode cX1_come 17 = .ok (.baload, 1) := by decide +kernel
theorem dX1_come_18 : decode cX1_come 18 = .ok (.ifCond .eq 4, 3) := by decide +kernel
theorem dX1_come_21 : decode cX1_come 21 = .ok (.return_, 1) := by decide +kernel
theorem dX1_come_22 : decode cX1_come 22 = .ok (.aload_n 0, 1) := by decide +kernel
theorem dX1_come_23 : decode cX1_come 23 = .ok (.getfield 38, 3) := by decide +kernel
theorem dX1_come_26 : decode cX1_come 26 = .ok (.iconst 2, 1) := by decide +kernel
theorem dX1_come_27 : decode cX1_come 27 = .ok (.iload_n 1, 1) := by decide +kernel
theorem dX1_come_28 : decode cX1_come 28 = .ok (.imul, 1) := by decide +kernel
theorem dX1_come_29 : decode cX1_come 29 = .ok (.iload_n 2, 1) := by decide +kernel
theorem dX1_come_30 : decode cX1_come 30 = .ok (.iadd, 1) := by decide +kernel
theorem dX1_come_31 : decode cX1_come 31 = .ok (.iconst 1, 1) := by decide +kernel
theorem dX1_come_32 : decode cX1_come 32 = .ok (.bastore, 1) := by decide +kernel
theorem dX1_come_33 : decode cX1_come 33 = .ok (.aload_n 0, 1) := by decide +kernel
theorem dX1_come_34 : decode cX1_come 34 = .ok (.getfield 41, 3) := by decide +kernel
theorem dX1_come_37 : decode cX1_come 37 = .ok (.aload_n 0, 1) := by decide +kernel
theorem dX1_come_38 : decode cX1_come 38 = .ok (.getfield 58, 3) := by decide +kernel
theorem dX1_come_41 : decode cX1_come 41 = .ok (.iconst 2, 1) := by decide +kernel
theorem dX1_come_42 : decode cX1_come 42 = .ok (.iload_n 1, 1) := by decide +kernel
theorem dX1_come_43 : decode cX1_come 43 = .ok (.imul, 1) := by decide +kernel
theorem dX1_come_44 : decode cX1_come 44 = .ok (.iload_n 2, 1) := by decide +kernel
theorem dX1_come_45 : decode cX1_come 45 = .ok (.iadd, 1) := by decide +kernel
theorem dX1_come_46 : decode cX1_come 46 = .ok (.iastore, 1) := by decide +kernel
theorem dX1_come_47 : decode cX1_come 47 = .ok (.aload_n 0, 1) := by decide +kernel
theorem dX1_come_48 : decode cX1_come 48 = .ok (.dup, 1) := by decide +kernel
theorem dX1_come_49 : decode cX1_come 49 = .ok (.getfield 58, 3) := by decide +kernel
theorem dX1_come_52 : decode cX1_come 52 = .ok (.iconst 1, 1) := by decide +kernel
theorem dX1_come_53 : decode cX1_come 53 = .ok (.iadd, 1) := by decide +kernel
theorem dX1_come_54 : decode cX1_come 54 = .ok (.putfield 58, 3) := by decide +kernel
theorem dX1_come_57 : decode cX1_come 57 = .ok (.return_, 1) := by decide +kernel
theorem dX1_without_0 : decode cX1_without 0 = .ok (.aload_n 0, 1) := by decide +kernel
theorem dX1_without_1 : decode cX1_without 1 = .ok (.iload_n 1, 1) := by decide +kernel
theorem dX1_without_2 : decode cX1_without 2 = .ok (.iload_n 2, 1) := by decide +kernel
theorem dX1_without_3 : decode cX1_without 3 = .ok (.iconst 0, 1) := by decide +kernel
theorem dX1_without_4 : decode cX1_without 4 = .ok (.invokevirtual 68, 3) := by decide +kernel
theorem dX1_without_7 : decode cX1_without 7 = .ok (.ireturn, 1) := by decide +kernel
theorem dX1_bits_0 : decode cX1_bits 0 = .ok (.iconst 0, 1) := by decide +kernel
theorem dX1_bits_1 : decode cX1_bits 1 = .ok (.istore 4, 2) := by decide +kernel
theorem dX1_bits_3 : decode cX1_bits 3 = .ok (.iconst 0, 1) := by decide +kernel
theorem dX1_bits_4 : decode cX1_bits 4 = .ok (.istore 5, 2) := by decide +kernel
theorem dX1_bits_6 : decode cX1_bits 6 = .ok (.aload_n 0, 1) := by decide +kernel
theorem dX1_bits_7 : decode cX1_bits 7 = .ok (.iload_n 1, 1) := by decide +kernel
theorem dX1_bits_8 : decode cX1_bits 8 = .ok (.invokevirtual 55, 3) := by decide +kernel
theorem dX1_bits_11 : decode cX1_bits 11 = .ok (.ifCond .eq 62, 3) := by decide +kernel
theorem dX1_bits_14 : decode cX1_bits 14 = .ok (.aload_n 0, 1) := by decide +kernel
theorem dX1_bits_15 : decode cX1_bits 15 = .ok (.iload_n 2, 1) := by decide +kernel
theorem dX1_bits_16 : decode cX1_bits 16 = .ok (.invokevirtual 51, 3) := by decide +kernel
theorem dX1_bits_19 : decode cX1_bits 19 = .ok (.ifCond .eq 54, 3) := by decide +kernel
theorem dX1_bits_22 : decode cX1_bits 22 = .ok (.iload 5, 2) := by decide +kernel
theorem dX1_bits_24 : decode cX1_bits 24 = .ok (.aload_n 0, 1) := by decide +kernel
theorem dX1_bits_25 : decode cX1_bits 25 = .ok (.getfield 7, 3) := by decide +kernel
theorem dX1_bits_28 : decode cX1_bits 28 = .ok (.iload_n 2, 1) := by decide +kernel
theorem dX1_bits_29 : decode cX1_bits 29 = .ok (.iaload, 1) := by decide +kernel
theorem dX1_bits_30 : decode cX1_bits 30 = .ok (.if_icmp .ge 43, 3) := by decide +kernel
theorem dX1_bits_33 : decode cX1_bits 33 = .ok (.aload_n 0, 1) := by decide +kernel
theorem dX1_bits_34 : decode cX1_bits 34 = .ok (.iload_n 2, 1) := by decide +kernel
theorem dX1_bits_35 : decode cX1_bits 35 = .ok (.iload 5, 2) := by decide +kernel
theorem dX1_bits_37 : decode cX1_bits 37 = .ok (.invokevirtual 65, 3) := by decide +kernel
theorem dX1_bits_40 : decode cX1_bits 40 = .ok (.aload_n 0, 1) := by decide +kernel
theorem dX1_bits_41 : decode cX1_bits 41 = .ok (.getfield 38, 3) := by decide +kernel
theorem dX1_bits_44 : decode cX1_bits 44 = .ok (.iconst 2, 1) := by decide +kernel
theorem dX1_bits_45 : decode cX1_bits 45 = .ok (.iload_n 1, 1) := by decide +kernel
theorem dX1_bits_46 : decode cX1_bits 46 = .ok (.imul, 1) := by decide +kernel
theorem dX1_bits_47 : decode cX1_bits 47 = .ok (.iload_n 3, 1) := by decide +kernel
theorem dX1_bits_48 : decode cX1_bits 48 = .ok (.iadd, 1) := by decide +kernel
theorem dX1_bits_49 : decode cX1_bits 49 = .ok (.baload, 1) := by decide +kernel
theorem dX1_bits_50 : decode cX1_bits 50 = .ok (.ifCond .eq 13, 3) := by decide +kernel
theorem dX1_bits_53 : decode cX1_bits 53 = .ok (.iload 4, 2) := by decide +kernel
theorem dX1_bits_55 : decode cX1_bits 55 = .ok (.iconst 1, 1) := by decide +kernel
theorem dX1_bits_56 : decode cX1_bits 56 = .ok (.iload 5, 2) := by decide +kernel
theorem dX1_bits_58 : decode cX1_bits 58 = .ok (.ishl, 1) := by decide +kernel
theorem dX1_bits_59 : decode cX1_bits 59 = .ok (.ior, 1) := by decide +kernel
theorem dX1_bits_60 : decode cX1_bits 60 = .ok (.goto 5, 3) := by decide +kernel
theorem dX1_bits_63 : decode cX1_bits 63 = .ok (.iload 4, 2) := by decide +kernel
theorem dX1_bits_65 : decode cX1_bits 65 = .ok (.istore 4, 2) := by decide +kernel
theorem dX1_bits_67 : decode cX1_bits 67 = .ok (.iinc 5 1, 3) := by decide +kernel
theorem dX1_bits_70 : decode cX1_bits 70 = .ok (.goto (-64), 3) := by decide +kernel
theorem dX1_bits_73 : decode cX1_bits 73 = .ok (.iload 4, 2) := by decide +kernel
theorem dX1_bits_75 : decode cX1_bits 75 = .ok (.ireturn, 1) := by decide +kernel
theorem dX1_having_0 : decode cX1_having 0 = .ok (.aload_n 0, 1) := by decide +kernel
theorem dX1_having_1 : decode cX1_having 1 = .ok (.iload_n 1, 1) := by decide +kernel
theorem dX1_having_2 : decode cX1_having 2 = .ok (.iload_n 2, 1) := by decide +kernel
theorem dX1_having_3 : decode cX1_having 3 = .ok (.iconst 1, 1) := by decide +kernel
theorem dX1_having_4 : decode cX1_having 4 = .ok (.invokevirtual 68, 3) := by decide +kernel
theorem dX1_having_7 : decode cX1_having 7 = .ok (.ireturn, 1) := by decide +kernel
theorem dX1_fault_0 : decode cX1_fault 0 = .ok (.aload_n 0, 1) := by decide +kernel
theorem dX1_fault_1 : decode cX1_fault 1 = .ok (.iload_n 1, 1) := by decide +kernel
theorem dX1_fault_2 : decode cX1_fault 2 = .ok (.invokevirtual 55, 3) := by decide +kernel
theorem dX1_fault_5 : decode cX1_fault 5 = .ok (.ifCond .ne 5, 3) := by decide +kernel
theorem dX1_fault_8 : decode cX1_fault 8 = .ok (.iconst (-1), 1) := by decide +kernel
theorem dX1_fault_9 : decode cX1_fault 9 = .ok (.ireturn, 1) := by decide +kernel
theorem dX1_fault_10 : decode cX1_fault 10 = .ok (.aload_n 0, 1) := by decide +kernel
theorem dX1_fault_11 : decode cX1_fault 11 = .ok (.getfield 20, 3) := by decide +kernel
theorem dX1_fault_14 : decode cX1_fault 14 = .ok (.iload_n 1, 1) := by decide +kernel
theorem dX1_fault_15 : decode cX1_fault 15 = .ok (.iaload, 1) := by decide +kernel
theorem dX1_fault_16 : decode cX1_fault 16 = .ok (.istore_n 2, 1) := by decide +kernel
theorem dX1_fault_17 : decode cX1_fault 17 = .ok (.iload_n 2, 1) := by decide +kernel
theorem dX1_fault_18 : decode cX1_fault 18 = .ok (.iconst 1, 1) := by decide +kernel
theorem dX1_fault_19 : decode cX1_fault 19 = .ok (.if_icmp .lt 16, 3) := by decide +kernel
theorem dX1_fault_22 : decode cX1_fault 22 = .ok (.iload_n 2, 1) := by decide +kernel
theorem dX1_fault_23 : decode cX1_fault 23 = .ok (.iconst 3, 1) := by decide +kernel
theorem dX1_fault_24 : decode cX1_fault 24 = .ok (.if_icmp .gt 11, 3) := by decide +kernel
theorem dX1_fault_27 : decode cX1_fault 27 = .ok (.aload_n 0, 1) := by decide +kernel
theorem dX1_fault_28 : decode cX1_fault 28 = .ok (.iload_n 1, 1) := by decide +kernel
theorem dX1_fault_29 : decode cX1_fault 29 = .ok (.invokevirtual 72, 3) := by decide +kernel
theorem dX1_fault_32 : decode cX1_fault 32 = .ok (.ifCond .ne 5, 3) := by decide +kernel
theorem dX1_fault_35 : decode cX1_fault 35 = .ok (.iconst 0, 1) := by decide +kernel
theorem dX1_fault_36 : decode cX1_fault 36 = .ok (.ireturn, 1) := by decide +kernel
theorem dX1_fault_37 : decode cX1_fault 37 = .ok (.aload_n 0, 1) := by decide +kernel
theorem dX1_fault_38 : decode cX1_fault 38 = .ok (.getfield 23, 3) := by decide +kernel
theorem dX1_fault_41 : decode cX1_fault 41 = .ok (.iload_n 1, 1) := by decide +kernel
theorem dX1_fault_42 : decode cX1_fault 42 = .ok (.iaload, 1) := by decide +kernel
theorem dX1_fault_43 : decode cX1_fault 43 = .ok (.istore_n 3, 1) := by decide +kernel
theorem dX1_fault_44 : decode cX1_fault 44 = .ok (.iload_n 2, 1) := by decide +kernel
theorem dX1_fault_45 : decode cX1_fault 45 = .ok (.iconst 1, 1) := by decide +kernel
theorem dX1_fault_46 : decode cX1_fault 46 = .ok (.if_icmp .eq 40, 3) := by decide +kernel
theorem dX1_fault_49 : decode cX1_fault 49 = .ok (.iconst 1, 1) := by decide +kernel
theorem dX1_fault_50 : decode cX1_fault 50 = .ok (.aload_n 0, 1) := by decide +kernel
theorem dX1_fault_51 : decode cX1_fault 51 = .ok (.getfield 29, 3) := by decide +kernel
theorem dX1_fault_54 : decode cX1_fault 54 = .ok (.iload_n 1, 1) := by decide +kernel
theorem dX1_fault_55 : decode cX1_fault 55 = .ok (.iaload, 1) := by decide +kernel
theorem dX1_fault_56 : decode cX1_fault 56 = .ok (.ishl, 1) := by decide +kernel
theorem dX1_fault_57 : decode cX1_fault 57 = .ok (.iconst 1, 1) := by decide +kernel
theorem dX1_fault_58 : decode cX1_fault 58 = .ok (.isub, 1) := by decide +kernel
theorem dX1_fault_59 : decode cX1_fault 59 = .ok (.aload_n 0, 1) := by decide +kernel
theorem dX1_fault_60 : decode cX1_fault 60 = .ok (.getfield 26, 3) := by decide +kernel
theorem dX1_fault_63 : decode cX1_fault 63 = .ok (.iload_n 1, 1) := by decide +kernel
theorem dX1_fault_64 : decode cX1_fault 64 = .ok (.iaload, 1) := by decide +kernel
theorem dX1_fault_65 : decode cX1_fault 65 = .ok (.ishl, 1) := by decide +kernel
theorem dX1_fault_66 : decode cX1_fault 66 = .ok (.istore 4, 2) := by decide +kernel
theorem dX1_fault_68 : decode cX1_fault 68 = .ok (.aload_n 0, 1) := by decide +kernel
theorem dX1_fault_69 : decode cX1_fault 69 = .ok (.iload_n 1, 1) := by decide +kernel
theorem dX1_fault_70 : decode cX1_fault 70 = .ok (.iload_n 3, 1) := by decide +kernel
theorem dX1_fault_71 : decode cX1_fault 71 = .ok (.invokevirtual 75, 3) := by decide +kernel
theorem dX1_fault_74 : decode cX1_fault 74 = .ok (.iload 4, 2) := by decide +kernel
theorem dX1_fault_76 : decode cX1_fault 76 = .ok (.iand, 1) := by decide +kernel
theorem dX1_fault_77 : decode cX1_fault 77 = .ok (.ifCond .eq 7, 3) := by decide +kernel
theorem dX1_fault_80 : decode cX1_fault 80 = .ok (.iconst 1, 1) := by decide +kernel
theorem dX1_fault_81 : decode cX1_fault 81 = .ok (.goto 4, 3) := by decide +kernel
theorem dX1_fault_84 : decode cX1_fault 84 = .ok (.iconst 0, 1) := by decide +kernel
theorem dX1_fault_85 : decode cX1_fault 85 = .ok (.ireturn, 1) := by decide +kernel
theorem dX1_fault_86 : decode cX1_fault 86 = .ok (.aload_n 0, 1) := by decide +kernel
theorem dX1_fault_87 : decode cX1_fault 87 = .ok (.getfield 13, 3) := by decide +kernel
theorem dX1_fault_90 : decode cX1_fault 90 = .ok (.iload_n 3, 1) := by decide +kernel
theorem dX1_fault_91 : decode cX1_fault 91 = .ok (.baload, 1) := by decide +kernel
theorem dX1_fault_92 : decode cX1_fault 92 = .ok (.ifCond .ne 5, 3) := by decide +kernel
theorem dX1_fault_95 : decode cX1_fault 95 = .ok (.iconst 0, 1) := by decide +kernel
theorem dX1_fault_96 : decode cX1_fault 96 = .ok (.ireturn, 1) := by decide +kernel
theorem dX1_fault_97 : decode cX1_fault 97 = .ok (.aload_n 0, 1) := by decide +kernel
theorem dX1_fault_98 : decode cX1_fault 98 = .ok (.getfield 29, 3) := by decide +kernel
theorem dX1_fault_101 : decode cX1_fault 101 = .ok (.iload_n 1, 1) := by decide +kernel
theorem dX1_fault_102 : decode cX1_fault 102 = .ok (.iaload, 1) := by decide +kernel
theorem dX1_fault_103 : decode cX1_fault 103 = .ok (.aload_n 0, 1) := by decide +kernel
theorem dX1_fault_104 : decode cX1_fault 104 = .ok (.getfield 7, 3) := by decide +kernel
theorem dX1_fault_107 : decode cX1_fault 107 = .ok (.iload_n 3, 1) := by decide +kernel
theorem dX1_fault_108 : decode cX1_fault 108 = .ok (.iaload, 1) := by decide +kernel
theorem dX1_fault_109 : decode cX1_fault 109 = .ok (.if_icmp .ge 7, 3) := by decide +kernel
theorem dX1_fault_112 : decode cX1_fault 112 = .ok (.iconst 3, 1) := by decide +kernel
theorem dX1_fault_113 : decode cX1_fault 113 = .ok (.goto 17, 3) := by decide +kernel
theorem dX1_fault_116 : decode cX1_fault 116 = .ok (.aload_n 0, 1) := by decide +kernel
theorem dX1_fault_117 : decode cX1_fault 117 = .ok (.iload_n 1, 1) := by decide +kernel
theorem dX1_fault_118 : decode cX1_fault 118 = .ok (.iload_n 3, 1) := by decide +kernel
theorem dX1_fault_119 : decode cX1_fault 119 = .ok (.invokevirtual 79, 3) := by decide +kernel
theorem dX1_fault_122 : decode cX1_fault 122 = .ok (.ifCond .eq 7, 3) := by decide +kernel
theorem dX1_fault_125 : decode cX1_fault 125 = .ok (.iconst 2, 1) := by decide +kernel
theorem dX1_fault_126 : decode cX1_fault 126 = .ok (.goto 4, 3) := by decide +kernel
theorem dX1_fault_129 : decode cX1_fault 129 = .ok (.iconst 0, 1) := by decide +kernel
theorem dX1_fault_130 : decode cX1_fault 130 = .ok (.ireturn, 1) := by decide +kernel
theorem dX1_count_0 : decode cX1_count 0 = .ok (.iconst 0, 1) := by decide +kernel
theorem dX1_count_1 : decode cX1_count 1 = .ok (.istore_n 2, 1) := by decide +kernel
theorem dX1_count_2 : decode cX1_count 2 = .ok (.iconst 0, 1) := by decide +kernel
theorem dX1_count_3 : decode cX1_count 3 = .ok (.istore_n 3, 1) := by decide +kernel
theorem dX1_count_4 : decode cX1_count 4 = .ok (.iconst (-1), 1) := by decide +kernel
theorem dX1_count_5 : decode cX1_count 5 = .ok (.istore 4, 2) := by decide +kernel
theorem dX1_count_7 : decode cX1_count 7 = .ok (.iconst 0, 1) := by decide +kernel
theorem dX1_count_8 : decode cX1_count 8 = .ok (.istore 5, 2) := by decide +kernel
theorem dX1_count_10 : decode cX1_count 10 = .ok (.aload_n 0, 1) := by decide +kernel
theorem dX1_count_11 : decode cX1_count 11 = .ok (.getfield 48, 3) := by decide +kernel
theorem dX1_count_14 : decode cX1_count 14 = .ok (.iconst 1, 1) := by decide +kernel
theorem dX1_count_15 : decode cX1_count 15 = .ok (.isub, 1) := by decide +kernel
theorem dX1_count_16 : decode cX1_count 16 = .ok (.istore 6, 2) := by decide +kernel
theorem dX1_count_18 : decode cX1_count 18 = .ok (.iload 6, 2) := by decide +kernel
theorem dX1_count_20 : decode cX1_count 20 = .ok (.ifCond .lt 83, 3) := by decide +kernel
theorem dX1_count_23 : decode cX1_count 23 = .ok (.iload_n 1, 1) := by decide +kernel
theorem dX1_count_24 : decode cX1_count 24 = .ok (.ifCond .le 79, 3) := by decide +kernel
theorem dX1_count_27 : decode cX1_count 27 = .ok (.iload_n 1, 1) := by decide +kernel
theorem dX1_count_28 : decode cX1_count 28 = .ok (.iconst 4, 1) := by decide +kernel
theorem dX1_count_29 : decode cX1_count 29 = .ok (.if_icmp .ge 74, 3) := by decide +kernel
theorem dX1_count_32 : decode cX1_count 32 = .ok (.aload_n 0, 1) := by decide +kernel
theorem dX1_count_33 : decode cX1_count 33 = .ok (.iload 6, 2) := by decide +kernel
theorem dX1_count_35 : decode cX1_count 35 = .ok (.invokevirtual 72, 3) := by decide +kernel
theorem dX1_count_38 : decode cX1_count 38 = .ok (.ifCond .eq 9, 3) := by decide +kernel
theorem dX1_count_41 : decode cX1_count 41 = .ok (.iload_n 2, 1) := by decide +kernel
theorem dX1_count_42 : decode cX1_count 42 = .ok (.iconst 1, 1) := by decide +kernel
theorem dX1_count_43 : decode cX1_count 43 = .ok (.iadd, 1) := by decide +kernel
theorem dX1_count_44 : decode cX1_count 44 = .ok (.goto 4, 3) := by decide +kernel
theorem dX1_count_47 : decode cX1_count 47 = .ok (.iload_n 2, 1) := by decide +kernel
theorem dX1_count_48 : decode cX1_count 48 = .ok (.istore_n 2, 1) := by decide +kernel
theorem dX1_count_49 : decode cX1_count 49 = .ok (.iload_n 1, 1) := by decide +kernel
theorem dX1_count_50 : decode cX1_count 50 = .ok (.iconst 1, 1) := by decide +kernel
theorem dX1_count_51 : decode cX1_count 51 = .ok (.if_icmp .le 16, 3) := by decide +kernel
theorem dX1_count_54 : decode cX1_count 54 = .ok (.aload_n 0, 1) := by decide +kernel
theorem dX1_count_55 : decode cX1_count 55 = .ok (.iload 6, 2) := by decide +kernel
theorem dX1_count_57 : decode cX1_count 57 = .ok (.invokevirtual 82, 3) := by decide +kernel
theorem dX1_count_60 : decode cX1_count 60 = .ok (.ifCond .le 7, 3) := by decide +kernel
theorem dX1_count_63 : decode cX1_count 63 = .ok (.iconst 1, 1) := by decide +kernel
theorem dX1_count_64 : decode cX1_count 64 = .ok (.goto 4, 3) := by decide +kernel
theorem dX1_count_67 : decode cX1_count 67 = .ok (.iconst 0, 1) := by decide +kernel
theorem dX1_count_68 : decode cX1_count 68 = .ok (.istore 7, 2) := by decide +kernel
theorem dX1_count_70 : decode cX1_count 70 = .ok (.iload 7, 2) := by decide +kernel
theorem dX1_count_72 : decode cX1_count 72 = .ok (.ifCond .eq 9, 3) := by decide +kernel
theorem dX1_count_75 : decode cX1_count 75 = .ok (.iload_n 3, 1) := by decide +kernel
theorem dX1_count_76 : decode cX1_count 76 = .ok (.iconst 1, 1) := by decide +kernel
theorem dX1_count_77 : decode cX1_count 77 = .ok (.iadd, 1) := by decide +kernel
theorem dX1_count_78 : decode cX1_count 78 = .ok (.goto 4, 3) := by decide +kernel
theorem dX1_count_81 : decode cX1_count 81 = .ok (.iload_n 3, 1) := by decide +kernel
theorem dX1_count_82 : decode cX1_count 82 = .ok (.istore_n 3, 1) := by decide +kernel
theorem dX1_count_83 : decode cX1_count 83 = .ok (.iload 7, 2) := by decide +kernel
theorem dX1_count_85 : decode cX1_count 85 = .ok (.ifCond .eq 8, 3) := by decide +kernel
theorem dX1_count_88 : decode cX1_count 88 = .ok (.iload 6, 2) := by decide +kernel
theorem dX1_count_90 : decode cX1_count 90 = .ok (.goto 5, 3) := by decide +kernel
theorem dX1_count_93 : decode cX1_count 93 = .ok (.iload 4, 2) := by decide +kernel
theorem dX1_count_95 : decode cX1_count 95 = .ok (.istore 4, 2) := by decide +kernel
theorem dX1_count_97 : decode cX1_count 97 = .ok (.iinc 6 (-1), 3) := by decide +kernel
theorem dX1_count_100 : decode cX1_count 100 = .ok (.goto (-82), 3) := by decide +kernel
theorem dX1_count_103 : decode cX1_count 103 = .ok (.iconst 0, 1) := by decide +kernel
theorem dX1_count_104 : decode cX1_count 104 = .ok (.istore 6, 2) := by decide +kernel
theorem dX1_count_106 : decode cX1_count 106 = .ok (.iload 6, 2) := by decide +kernel
theorem dX1_count_108 : decode cX1_count 108 = .ok (.aload_n 0, 1) := by decide +kernel
theorem dX1_count_109 : decode cX1_count 109 = .ok (.getfield 44, 3) := by decide +kernel
theorem dX1_count_112 : decode cX1_count 112 = .ok (.if_icmp .ge 21, 3) := by decide +kernel
theorem dX1_count_115 : decode cX1_count 115 = .ok (.iload 5, 2) := by decide +kernel
theorem dX1_count_117 : decode cX1_count 117 = .ok (.aload_n 0, 1) := by decide +kernel
theorem dX1_count_118 : decode cX1_count 118 = .ok (.getfield 7, 3) := by decide +kernel
theorem dX1_count_121 : decode cX1_count 121 = .ok (.iload 6, 2) := by decide +kernel
theorem dX1_count_123 : decode cX1_count 123 = .ok (.iaload, 1) := by decide +kernel
theorem dX1_count_124 : decode cX1_count 124 = .ok (.iadd, 1) := by decide +kernel
theorem dX1_count_125 : decode cX1_count 125 = .ok (.istore 5, 2) := by decide +kernel
theorem dX1_count_127 : decode cX1_count 127 = .ok (.iinc 6 1, 3) := by decide +kernel
theorem dX1_count_130 : decode cX1_count 130 = .ok (.goto (-24), 3) := by decide +kernel
theorem dX1_count_133 : decode cX1_count 133 = .ok (.iload_n 1, 1) := by decide +kernel
theorem dX1_count_134 : decode cX1_count 134 = .ok (.ifCond .ne 10, 3) := by decide +kernel
theorem dX1_count_137 : decode cX1_count 137 = .ok (.aload_n 0, 1) := by decide +kernel
theorem dX1_count_138 : decode cX1_count 138 = .ok (.getfield 48, 3) := by decide +kernel
theorem dX1_count_141 : decode cX1_count 141 = .ok (.goto 54, 3) := by decide +kernel
theorem dX1_count_144 : decode cX1_count 144 = .ok (.iload_n 1, 1) := by decide +kernel
theorem dX1_count_145 : decode cX1_count 145 = .ok (.iconst 1, 1) := by decide +kernel
theorem dX1_count_146 : decode cX1_count 146 = .ok (.if_icmp .ne 7, 3) := by decide +kernel
theorem dX1_count_149 : decode cX1_count 149 = .ok (.iload_n 2, 1) := by decide +kernel
theorem dX1_count_150 : decode cX1_count 150 = .ok (.goto 45, 3) := by decide +kernel
theorem dX1_count_153 : decode cX1_count 153 = .ok (.iload_n 1, 1) := by decide +kernel
theorem dX1_count_154 : decode cX1_count 154 = .ok (.iconst 2, 1) := by decide +kernel
theorem dX1_count_155 : decode cX1_count 155 = .ok (.if_icmp .ne 7, 3) := by decide +kernel
theorem dX1_count_158 : decode cX1_count 158 = .ok (.iload_n 3, 1) := by decide +kernel
theorem dX1_count_159 : decode cX1_count 159 = .ok (.goto 36, 3) := by decide +kernel
theorem dX1_count_162 : decode cX1_count 162 = .ok (.iload_n 1, 1) := by decide +kernel
theorem dX1_count_163 : decode cX1_count 163 = .ok (.iconst 3, 1) := by decide +kernel
theorem dX1_count_164 : decode cX1_count 164 = .ok (.if_icmp .ne 8, 3) := by decide +kernel
theorem dX1_count_167 : decode cX1_count 167 = .ok (.iload 4, 2) := by decide +kernel
theorem dX1_count_169 : decode cX1_count 169 = .ok (.goto 26, 3) := by decide +kernel
theorem dX1_count_172 : decode cX1_count 172 = .ok (.iload_n 1, 1) := by decide +kernel
theorem dX1_count_173 : decode cX1_count 173 = .ok (.iconst 4, 1) := by decide +kernel
theorem dX1_count_174 : decode cX1_count 174 = .ok (.if_icmp .ne 10, 3) := by decide +kernel
theorem dX1_count_177 : decode cX1_count 177 = .ok (.aload_n 0, 1) := by decide +kernel
theorem dX1_count_178 : decode cX1_count 178 = .ok (.getfield 44, 3) := by decide +kernel
theorem dX1_count_181 : decode cX1_count 181 = .ok (.goto 14, 3) := by decide +kernel
theorem dX1_count_184 : decode cX1_count 184 = .ok (.iload_n 1, 1) := by decide +kernel
theorem dX1_count_185 : decode cX1_count 185 = .ok (.iconst 5, 1) := by decide +kernel
theorem dX1_count_186 : decode cX1_count 186 = .ok (.if_icmp .ne 8, 3) := by decide +kernel
theorem dX1_count_189 : decode cX1_count 189 = .ok (.iload 5, 2) := by decide +kernel
theorem dX1_count_191 : decode cX1_count 191 = .ok (.goto 4, 3) := by decide +kernel
theorem dX1_count_194 : decode cX1_count 194 = .ok (.iconst (-1), 1) := by decide +kernel
theorem dX1_count_195 : decode cX1_count 195 = .ok (.ireturn, 1) := by decide +kernel
theorem dX1_clear_0 : decode cX1_clear 0 = .ok (.aload_n 0, 1) := by decide +kernel
theorem dX1_clear_1 : decode cX1_clear 1 = .ok (.getfield 48, 3) := by decide +kernel
theorem dX1_clear_4 : decode cX1_clear 4 = .ok (.istore_n 1, 1) := by decide +kernel
theorem dX1_clear_5 : decode cX1_clear 5 = .ok (.aload_n 0, 1) := by decide +kernel
theorem dX1_clear_6 : decode cX1_clear 6 = .ok (.iconst 0, 1) := by decide +kernel
theorem dX1_clear_7 : decode cX1_clear 7 = .ok (.putfield 48, 3) := by decide +kernel
theorem dX1_clear_10 : decode cX1_clear 10 = .ok (.iload_n 1, 1) := by decide +kernel
theorem dX1_clear_11 : decode cX1_clear 11 = .ok (.ireturn, 1) := by decide +kernel
abbrev vwCl : List vw_C := [(RX0, TX0, 18), (RX1, TX1, 14)]
