section
-- ===== PART A: goes FIRST, ahead of the names: the tables' words, and 'selects' of the private methods out of them =====
/-- a private method of a class that the tables say can be made, by its rows of tables_1 -/
def lw_okq (q : MethodName × Nat) : Prop := (q.1.cls ≠ "java/lang/invoke/MethodHandle" ∧ q.1.cls ≠ "java/lang/invoke/VarHandle") ∧ Cond.instantiable q.1.cls q.2 ∈ tables_1 ∧ Cond.privateMethod q.1 ∈ tables_1 ∧ Cond.instanceMethod q.1 ∈ tables_1
theorem lw_p0 : lw_okq (⟨"PartsFlow", "isDoing", "(IIII)Z"⟩, 18) := ⟨⟨by decide +kernel, by decide +kernel⟩, List.mem_of_getElem? (i := 4) (by decide +kernel), List.mem_of_getElem? (i := 78) (by decide +kernel), List.mem_of_getElem? (i := 79) (by decide +kernel)⟩
theorem lw_p1 : lw_okq (⟨"PartsFlow", "isVariable", "(I)Z"⟩, 18) := ⟨⟨by decide +kernel, by decide +kernel⟩, List.mem_of_getElem? (i := 4) (by decide +kernel), List.mem_of_getElem? (i := 82) (by decide +kernel), List.mem_of_getElem? (i := 83) (by decide +kernel)⟩
theorem lw_p2 : lw_okq (⟨"PartsFlow", "bitsOfDoing", "(IIII)I"⟩, 18) := ⟨⟨by decide +kernel, by decide +kernel⟩, List.mem_of_getElem? (i := 4) (by decide +kernel), List.mem_of_getElem? (i := 89) (by decide +kernel), List.mem_of_getElem? (i := 90) (by decide +kernel)⟩
theorem lw_p3 : lw_okq (⟨"PartsFlow", "allParts", "(I)I"⟩, 18) := ⟨⟨by decide +kernel, by decide +kernel⟩, List.mem_of_getElem? (i := 4) (by decide +kernel), List.mem_of_getElem? (i := 96) (by decide +kernel), List.mem_of_getElem? (i := 97) (by decide +kernel)⟩
theorem lw_p4 : lw_okq (⟨"PartsFlow", "isPoint", "(I)Z"⟩, 18) := ⟨⟨by decide +kernel, by decide +kernel⟩, List.mem_of_getElem? (i := 4) (by decide +kernel), List.mem_of_getElem? (i := 104) (by decide +kernel), List.mem_of_getElem? (i := 105) (by decide +kernel)⟩
theorem lw_p5 : lw_okq (⟨"PartsFlow", "solve", "()V"⟩, 18) := ⟨⟨by decide +kernel, by decide +kernel⟩, List.mem_of_getElem? (i := 4) (by decide +kernel), List.mem_of_getElem? (i := 115) (by decide +kernel), List.mem_of_getElem? (i := 116) (by decide +kernel)⟩
theorem lw_p6 : lw_okq (⟨"PartsFlow", "forgetFlow", "()V"⟩, 18) := ⟨⟨by decide +kernel, by decide +kernel⟩, List.mem_of_getElem? (i := 4) (by decide +kernel), List.mem_of_getElem? (i := 119) (by decide +kernel), List.mem_of_getElem? (i := 120) (by decide +kernel)⟩
theorem lw_p7 : lw_okq (⟨"PartsFlow", "beginWays", "()V"⟩, 18) := ⟨⟨by decide +kernel, by decide +kernel⟩, List.mem_of_getElem? (i := 4) (by decide +kernel), List.mem_of_getElem? (i := 123) (by decide +kernel), List.mem_of_getElem? (i := 124) (by decide +kernel)⟩
theorem lw_p8 : lw_okq (⟨"PartsFlow", "goOnTo", "(I)V"⟩, 18) := ⟨⟨by decide +kernel, by decide +kernel⟩, List.mem_of_getElem? (i := 4) (by decide +kernel), List.mem_of_getElem? (i := 136) (by decide +kernel), List.mem_of_getElem? (i := 137) (by decide +kernel)⟩
theorem lw_p9 : lw_okq (⟨"PartsFlow", "addWaiting", "(I)V"⟩, 18) := ⟨⟨by decide +kernel, by decide +kernel⟩, List.mem_of_getElem? (i := 4) (by decide +kernel), List.mem_of_getElem? (i := 140) (by decide +kernel), List.mem_of_getElem? (i := 141) (by decide +kernel)⟩
theorem lw_p10 : lw_okq (⟨"PartsFlow", "takeWaiting", "()I"⟩, 18) := ⟨⟨by decide +kernel, by decide +kernel⟩, List.mem_of_getElem? (i := 4) (by decide +kernel), List.mem_of_getElem? (i := 145) (by decide +kernel), List.mem_of_getElem? (i := 146) (by decide +kernel)⟩
theorem lw_p11 : lw_okq (⟨"PartsFlow", "passThrough", "(I)V"⟩, 18) := ⟨⟨by decide +kernel, by decide +kernel⟩, List.mem_of_getElem? (i := 4) (by decide +kernel), List.mem_of_getElem? (i := 149) (by decide +kernel), List.mem_of_getElem? (i := 150) (by decide +kernel)⟩
theorem lw_p12 : lw_okq (⟨"PartsFlow", "bitsAhead", "(III)I"⟩, 18) := ⟨⟨by decide +kernel, by decide +kernel⟩, List.mem_of_getElem? (i := 4) (by decide +kernel), List.mem_of_getElem? (i := 158) (by decide +kernel), List.mem_of_getElem? (i := 159) (by decide +kernel)⟩
theorem lw_p13 : lw_okq (⟨"PartsFlow", "solvedBits", "(III)I"⟩, 18) := ⟨⟨by decide +kernel, by decide +kernel⟩, List.mem_of_getElem? (i := 4) (by decide +kernel), List.mem_of_getElem? (i := 162) (by decide +kernel), List.mem_of_getElem? (i := 163) (by decide +kernel)⟩
theorem lw_p14 : lw_okq (⟨"PartsFlow", "faultOfPoint", "(I)I"⟩, 18) := ⟨⟨by decide +kernel, by decide +kernel⟩, List.mem_of_getElem? (i := 4) (by decide +kernel), List.mem_of_getElem? (i := 174) (by decide +kernel), List.mem_of_getElem? (i := 175) (by decide +kernel)⟩
theorem lw_p15 : lw_okq (⟨"PartsFlow", "countReached", "()I"⟩, 18) := ⟨⟨by decide +kernel, by decide +kernel⟩, List.mem_of_getElem? (i := 4) (by decide +kernel), List.mem_of_getElem? (i := 182) (by decide +kernel), List.mem_of_getElem? (i := 183) (by decide +kernel)⟩
def lw_privs_1 : List (MethodName × Nat) := [(⟨"PartsFlow", "isDoing", "(IIII)Z"⟩, 18), (⟨"PartsFlow", "isVariable", "(I)Z"⟩, 18), (⟨"PartsFlow", "bitsOfDoing", "(IIII)I"⟩, 18), (⟨"PartsFlow", "allParts", "(I)I"⟩, 18), (⟨"PartsFlow", "isPoint", "(I)Z"⟩, 18), (⟨"PartsFlow", "solve", "()V"⟩, 18), (⟨"PartsFlow", "forgetFlow", "()V"⟩, 18), (⟨"PartsFlow", "beginWays", "()V"⟩, 18), (⟨"PartsFlow", "goOnTo", "(I)V"⟩, 18), (⟨"PartsFlow", "addWaiting", "(I)V"⟩, 18), (⟨"PartsFlow", "takeWaiting", "()I"⟩, 18), (⟨"PartsFlow", "passThrough", "(I)V"⟩, 18), (⟨"PartsFlow", "bitsAhead", "(III)I"⟩, 18), (⟨"PartsFlow", "solvedBits", "(III)I"⟩, 18), (⟨"PartsFlow", "faultOfPoint", "(I)I"⟩, 18), (⟨"PartsFlow", "countReached", "()I"⟩, 18)]
theorem lw_r1 : ∀ q ∈ lw_privs_1, lw_okq q := List.forall_mem_cons.mpr ⟨lw_p0, List.forall_mem_cons.mpr ⟨lw_p1, List.forall_mem_cons.mpr ⟨lw_p2, List.forall_mem_cons.mpr ⟨lw_p3, List.forall_mem_cons.mpr ⟨lw_p4, List.forall_mem_cons.mpr ⟨lw_p5, List.forall_mem_cons.mpr ⟨lw_p6, List.forall_mem_cons.mpr ⟨lw_p7, List.forall_mem_cons.mpr ⟨lw_p8, List.forall_mem_cons.mpr ⟨lw_p9, List.forall_mem_cons.mpr ⟨lw_p10, List.forall_mem_cons.mpr ⟨lw_p11, List.forall_mem_cons.mpr ⟨lw_p12, List.forall_mem_cons.mpr ⟨lw_p13, List.forall_mem_cons.mpr ⟨lw_p14, List.forall_mem_cons.mpr ⟨lw_p15, fun _ h => absurd h List.not_mem_nil⟩⟩⟩⟩⟩⟩⟩⟩⟩⟩⟩⟩⟩⟩⟩⟩
theorem lw_p16 : lw_okq (⟨"PartsFlow", "countFaults", "()I"⟩, 18) := ⟨⟨by decide +kernel, by decide +kernel⟩, List.mem_of_getElem? (i := 4) (by decide +kernel), List.mem_of_getElem? (i := 186) (by decide +kernel), List.mem_of_getElem? (i := 187) (by decide +kernel)⟩
theorem lw_p17 : lw_okq (⟨"PartsFlow", "firstFault", "()I"⟩, 18) := ⟨⟨by decide +kernel, by decide +kernel⟩, List.mem_of_getElem? (i := 4) (by decide +kernel), List.mem_of_getElem? (i := 190) (by decide +kernel), List.mem_of_getElem? (i := 191) (by decide +kernel)⟩
theorem lw_p18 : lw_okq (⟨"PartsFlow", "countParts", "()I"⟩, 18) := ⟨⟨by decide +kernel, by decide +kernel⟩, List.mem_of_getElem? (i := 4) (by decide +kernel), List.mem_of_getElem? (i := 194) (by decide +kernel), List.mem_of_getElem? (i := 195) (by decide +kernel)⟩
theorem lw_p19 : lw_okq (⟨"PartsFlowModel", "isVariable", "(I)Z"⟩, 14) := ⟨⟨by decide +kernel, by decide +kernel⟩, List.mem_of_getElem? (i := 202) (by decide +kernel), List.mem_of_getElem? (i := 259) (by decide +kernel), List.mem_of_getElem? (i := 260) (by decide +kernel)⟩
theorem lw_p20 : lw_okq (⟨"PartsFlowModel", "isPoint", "(I)Z"⟩, 14) := ⟨⟨by decide +kernel, by decide +kernel⟩, List.mem_of_getElem? (i := 202) (by decide +kernel), List.mem_of_getElem? (i := 267) (by decide +kernel), List.mem_of_getElem? (i := 268) (by decide +kernel)⟩
theorem lw_p21 : lw_okq (⟨"PartsFlowModel", "go", "(II)V"⟩, 14) := ⟨⟨by decide +kernel, by decide +kernel⟩, List.mem_of_getElem? (i := 202) (by decide +kernel), List.mem_of_getElem? (i := 275) (by decide +kernel), List.mem_of_getElem? (i := 276) (by decide +kernel)⟩
theorem lw_p22 : lw_okq (⟨"PartsFlowModel", "come", "(II)V"⟩, 14) := ⟨⟨by decide +kernel, by decide +kernel⟩, List.mem_of_getElem? (i := 202) (by decide +kernel), List.mem_of_getElem? (i := 279) (by decide +kernel), List.mem_of_getElem? (i := 280) (by decide +kernel)⟩
theorem lw_p23 : lw_okq (⟨"PartsFlowModel", "bits", "(III)I"⟩, 14) := ⟨⟨by decide +kernel, by decide +kernel⟩, List.mem_of_getElem? (i := 202) (by decide +kernel), List.mem_of_getElem? (i := 287) (by decide +kernel), List.mem_of_getElem? (i := 288) (by decide +kernel)⟩
def lw_privs_2 : List (MethodName × Nat) := [(⟨"PartsFlow", "countFaults", "()I"⟩, 18), (⟨"PartsFlow", "firstFault", "()I"⟩, 18), (⟨"PartsFlow", "countParts", "()I"⟩, 18), (⟨"PartsFlowModel", "isVariable", "(I)Z"⟩, 14), (⟨"PartsFlowModel", "isPoint", "(I)Z"⟩, 14), (⟨"PartsFlowModel", "go", "(II)V"⟩, 14), (⟨"PartsFlowModel", "come", "(II)V"⟩, 14), (⟨"PartsFlowModel", "bits", "(III)I"⟩, 14)]
theorem lw_r2 : ∀ q ∈ lw_privs_2, lw_okq q := List.forall_mem_cons.mpr ⟨lw_p16, List.forall_mem_cons.mpr ⟨lw_p17, List.forall_mem_cons.mpr ⟨lw_p18, List.forall_mem_cons.mpr ⟨lw_p19, List.forall_mem_cons.mpr ⟨lw_p20, List.forall_mem_cons.mpr ⟨lw_p21, List.forall_mem_cons.mpr ⟨lw_p22, List.forall_mem_cons.mpr ⟨lw_p23, fun _ h => absurd h List.not_mem_nil⟩⟩⟩⟩⟩⟩⟩⟩
def lw_privs : List (MethodName × Nat) := lw_privs_1 ++ (lw_privs_2)
def lw_tbl : List Cond := k2_sels lw_privs ++ tables_1
theorem lw_privs_ok : ∀ q ∈ lw_privs, lw_okq q := by
  show ∀ q ∈ lw_privs_1 ++ (lw_privs_2), lw_okq q
  exact List.forall_mem_append.mpr ⟨lw_r1, lw_r2⟩
end
section
/-! ===== BEGIN words of one list among another's, by their places ===== -/
theorem goodIn_r {big : List Cond} (ws : List Cond) (ps : List Nat) (hp : ws = ps.filterMap (fun i => big[i]?)) (h : ws.all goodWord = true) : GoodIn big ws := by
  intro w hw
  have h1 := List.all_eq_true.mp h w hw
  rw [hp] at hw
  obtain ⟨i, -, hi⟩ := List.mem_filterMap.mp hw
  have hm : w ∈ big := by first | exact List.mem_of_getElem? hi | exact List.getElem?_mem hi
  exact ⟨hm, good_of_word h1⟩
theorem goodIn_app {big a b : List Cond} (ha : GoodIn big a) (hb : GoodIn big b) : GoodIn big (a ++ b) := fun w h => (List.mem_append.mp h).elim (ha w) (hb w)
theorem goodIn_ca {big a b : List Cond} {c : Cond} (ha : GoodIn big (c :: a)) (hb : GoodIn big b) : GoodIn big (c :: (a ++ b)) := fun w h => (List.mem_cons.mp h).elim (fun e => ha w (List.mem_cons.mpr (Or.inl e))) (fun h => (List.mem_append.mp h).elim (fun h => ha w (List.mem_cons.mpr (Or.inr h))) (hb w))
theorem goodIn_sub {big ws : List Cond} (hm : ∀ w ∈ ws, w ∈ big) (h : ws.all goodWord = true) : GoodIn big ws := fun w hw => ⟨hm w hw, good_of_word (List.all_eq_true.mp h w hw)⟩
/-! ===== END ===== -/

/-! ===== BEGIN printed: names, fields, word lists, decode rows ===== -/
def RX0 : String := "PartsFlow"
def TX0 : u_T := fun k => match k with
  | 0 => ("PartsFlow", "variableCount", "I", false)
  | 1 => ("PartsFlow", "variableParts", "[I", true)
  | 2 => ("PartsFlow", "variableOnce", "[Z", true)
  | 3 => ("PartsFlow", "variableGiven", "[Z", true)
  | 4 => ("PartsFlow", "pointCount", "I", false)
  | 5 => ("PartsFlow", "pointDoing", "[I", true)
  | 6 => ("PartsFlow", "pointVariable", "[I", true)
  | 7 => ("PartsFlow", "pointBits", "[I", true)
  | 8 => ("PartsFlow", "pointNextX", "[I", true)
  | 9 => ("PartsFlow", "pointNextY", "[I", true)
  | 10 => ("PartsFlow", "solved", "Z", false)
  | 11 => ("PartsFlow", "reached", "[Z", true)
  | 12 => ("PartsFlow", "ahead", "[J", true)
  | 13 => ("PartsFlow", "behind", "[J", true)
  | 14 => ("PartsFlow", "waiting", "[I", true)
  | 15 => ("PartsFlow", "isWaiting", "[Z", true)
  | 16 => ("PartsFlow", "waitingHead", "I", false)
  | _ => ("PartsFlow", "waitingCount", "I", false)
def tyX0 : Nat → FieldType := fun k => match k with
  | 0 => .int
  | 1 => .array .int
  | 2 => .array .boolean
  | 3 => .array .boolean
  | 4 => .int
  | 5 => .array .int
  | 6 => .array .int
  | 7 => .array .int
  | 8 => .array .int
  | 9 => .array .int
  | 10 => .boolean
  | 11 => .array .boolean
  | 12 => .array .long
  | 13 => .array .long
  | 14 => .array .int
  | 15 => .array .boolean
  | 16 => .int
  | _ => .int
abbrev wsX00 : List Cond := u_ws RX0 TX0 18
theorem nmX0 : ∀ a, a < 18 → ∀ b, b < 18 → a ≠ b → (TX0 a).2.1 ≠ (TX0 b).2.1 := by decide +kernel
theorem tyX0_ok : ∀ k, k < 18 → parseFieldDescriptor (TX0 k).2.2.1 = some (tyX0 k) := by decide +kernel
abbrev cX0_init : ByteArray := prog_1_method_1_code
def yX0_init : MethodName := ⟨RX0, "<init>", "()V"⟩
abbrev cX0_variable : ByteArray := prog_1_method_2_code
def yX0_variable : MethodName := ⟨RX0, "variable", "(IZZ)I"⟩
abbrev cX0_point : ByteArray := prog_1_method_3_code
def yX0_point : MethodName := ⟨RX0, "point", "(IIII)I"⟩
abbrev cX0_next : ByteArray := prog_1_method_4_code
def yX0_next : MethodName := ⟨RX0, "next", "(III)Z"⟩
abbrev cX0_isReached : ByteArray := prog_1_method_5_code
def yX0_isReached : MethodName := ⟨RX0, "isReached", "(I)Z"⟩
abbrev cX0_without : ByteArray := prog_1_method_6_code
def yX0_without : MethodName := ⟨RX0, "without", "(II)I"⟩
abbrev cX0_having : ByteArray := prog_1_method_7_code
def yX0_having : MethodName := ⟨RX0, "having", "(II)I"⟩
abbrev cX0_fault : ByteArray := prog_1_method_8_code
def yX0_fault : MethodName := ⟨RX0, "fault", "(I)I"⟩
abbrev cX0_count : ByteArray := prog_1_method_9_code
def yX0_count : MethodName := ⟨RX0, "count", "(I)I"⟩
abbrev cX0_clear : ByteArray := prog_1_method_10_code
def yX0_clear : MethodName := ⟨RX0, "clear", "()I"⟩
abbrev cX0_isPoint : ByteArray := prog_1_method_11_code
def yX0_isPoint : MethodName := ⟨RX0, "isPoint", "(I)Z"⟩
abbrev cX0_isVariable : ByteArray := prog_1_method_12_code
def yX0_isVariable : MethodName := ⟨RX0, "isVariable", "(I)Z"⟩
abbrev cX0_canBeNext : ByteArray := prog_1_method_13_code
def yX0_canBeNext : MethodName := ⟨RX0, "canBeNext", "(I)Z"⟩
abbrev cX0_isDoing : ByteArray := prog_1_method_14_code
def yX0_isDoing : MethodName := ⟨RX0, "isDoing", "(IIII)Z"⟩
abbrev cX0_isOfSomeParts : ByteArray := prog_1_method_15_code
def yX0_isOfSomeParts : MethodName := ⟨RX0, "isOfSomeParts", "(I)Z"⟩
abbrev cX0_bitsOfDoing : ByteArray := prog_1_method_16_code
def yX0_bitsOfDoing : MethodName := ⟨RX0, "bitsOfDoing", "(IIII)I"⟩
abbrev cX0_lowBits : ByteArray := prog_1_method_17_code
def yX0_lowBits : MethodName := ⟨RX0, "lowBits", "(I)I"⟩
abbrev cX0_allParts : ByteArray := prog_1_method_18_code
def yX0_allParts : MethodName := ⟨RX0, "allParts", "(I)I"⟩
abbrev cX0_wordOf : ByteArray := prog_1_method_19_code
def yX0_wordOf : MethodName := ⟨RX0, "wordOf", "(I)I"⟩
abbrev cX0_shiftOf : ByteArray := prog_1_method_20_code
def yX0_shiftOf : MethodName := ⟨RX0, "shiftOf", "(I)I"⟩
abbrev cX0_inWord : ByteArray := prog_1_method_21_code
def yX0_inWord : MethodName := ⟨RX0, "inWord", "(II)J"⟩
abbrev cX0_bitsAhead : ByteArray := prog_1_method_22_code
def yX0_bitsAhead : MethodName := ⟨RX0, "bitsAhead", "(III)I"⟩
abbrev cX0_solvedBits : ByteArray := prog_1_method_23_code
def yX0_solvedBits : MethodName := ⟨RX0, "solvedBits", "(III)I"⟩
abbrev cX0_faultOfPoint : ByteArray := prog_1_method_24_code
def yX0_faultOfPoint : MethodName := ⟨RX0, "faultOfPoint", "(I)I"⟩
abbrev cX0_countReached : ByteArray := prog_1_method_25_code
def yX0_countReached : MethodName := ⟨RX0, "countReached", "()I"⟩
abbrev cX0_countFaults : ByteArray := prog_1_method_26_code
def yX0_countFaults : MethodName := ⟨RX0, "countFaults", "()I"⟩
abbrev cX0_firstFault : ByteArray := prog_1_method_27_code
def yX0_firstFault : MethodName := ⟨RX0, "firstFault", "()I"⟩
abbrev cX0_countParts : ByteArray := prog_1_method_28_code
def yX0_countParts : MethodName := ⟨RX0, "countParts", "()I"⟩
abbrev cX0_solve : ByteArray := prog_1_method_29_code
def yX0_solve : MethodName := ⟨RX0, "solve", "()V"⟩
abbrev cX0_forgetFlow : ByteArray := prog_1_method_30_code
def yX0_forgetFlow : MethodName := ⟨RX0, "forgetFlow", "()V"⟩
abbrev cX0_beginWays : ByteArray := prog_1_method_31_code
def yX0_beginWays : MethodName := ⟨RX0, "beginWays", "()V"⟩
abbrev cX0_passThrough : ByteArray := prog_1_method_32_code
def yX0_passThrough : MethodName := ⟨RX0, "passThrough", "(I)V"⟩
abbrev cX0_goOnTo : ByteArray := prog_1_method_33_code
def yX0_goOnTo : MethodName := ⟨RX0, "goOnTo", "(I)V"⟩
abbrev cX0_addWaiting : ByteArray := prog_1_method_34_code
def yX0_addWaiting : MethodName := ⟨RX0, "addWaiting", "(I)V"⟩
abbrev cX0_takeWaiting : ByteArray := prog_1_method_35_code
def yX0_takeWaiting : MethodName := ⟨RX0, "takeWaiting", "()I"⟩
def wsX0_init : List Cond := .code yX0_init cX0_init 1 none :: ([.methodLink RX0 3 objectInit, .instanceMethod objectInit, .code objectInit ⟨#[0xb1]⟩ 1 none, .arrayClass .int, .fieldLink RX0 9 "PartsFlow" "variableParts" "[I", .arrayClass .boolean, .fieldLink RX0 13 "PartsFlow" "variableOnce" "[Z", .fieldLink RX0 17 "PartsFlow" "variableGiven" "[Z", .fieldLink RX0 20 "PartsFlow" "pointDoing" "[I", .fieldLink RX0 23 "PartsFlow" "pointVariable" "[I", .fieldLink RX0 26 "PartsFlow" "pointBits" "[I", .fieldLink RX0 29 "PartsFlow" "pointNextX" "[I", .fieldLink RX0 32 "PartsFlow" "pointNextY" "[I", .fieldLink RX0 35 "PartsFlow" "reached" "[Z", .arrayClass .long, .fieldLink RX0 38 "PartsFlow" "ahead" "[J", .fieldLink RX0 42 "PartsFlow" "behind" "[J", .fieldLink RX0 45 "PartsFlow" "waiting" "[I", .fieldLink RX0 48 "PartsFlow" "isWaiting" "[Z"] ++ wsX00)
def wsX0_variable : List Cond := .code yX0_variable cX0_variable 5 (some .int) :: ([.fieldLink RX0 51 "PartsFlow" "variableCount" "I", .fieldLink RX0 9 "PartsFlow" "variableParts" "[I", .fieldLink RX0 13 "PartsFlow" "variableOnce" "[Z", .fieldLink RX0 17 "PartsFlow" "variableGiven" "[Z", .fieldLink RX0 55 "PartsFlow" "solved" "Z"] ++ wsX00)
def wsX0_isVariable : List Cond := .code yX0_isVariable cX0_isVariable 2 (some .boolean) :: ([.fieldLink RX0 51 "PartsFlow" "variableCount" "I"] ++ wsX00)
def wsX0_isOfSomeParts : List Cond := .code yX0_isOfSomeParts cX0_isOfSomeParts 1 (some .boolean) :: ([])
def wsX0_isDoing : List Cond := .code yX0_isDoing cX0_isDoing 5 (some .boolean) :: ([.fieldLink RX0 9 "PartsFlow" "variableParts" "[I", .methodLink RX0 101 yX0_isVariable, .instanceMethod yX0_isVariable, .selects RX0 yX0_isVariable yX0_isVariable, .initialized RX0, .code yX0_isVariable cX0_isVariable 2 (some .boolean), .fieldLink RX0 51 "PartsFlow" "variableCount" "I", .methodLink RX0 104 yX0_isOfSomeParts, .static yX0_isOfSomeParts, .code yX0_isOfSomeParts cX0_isOfSomeParts 1 (some .boolean)] ++ wsX00)
def wsX0_lowBits : List Cond := .code yX0_lowBits cX0_lowBits 1 (some .int) :: ([])
def wsX0_allParts : List Cond := .code yX0_allParts cX0_allParts 2 (some .int) :: ([.fieldLink RX0 9 "PartsFlow" "variableParts" "[I", .methodLink RX0 107 yX0_lowBits, .static yX0_lowBits, .initialized RX0, .code yX0_lowBits cX0_lowBits 1 (some .int)] ++ wsX00)
def wsX0_bitsOfDoing : List Cond := .code yX0_bitsOfDoing cX0_bitsOfDoing 5 (some .int) :: ([.methodLink RX0 104 yX0_isOfSomeParts, .static yX0_isOfSomeParts, .initialized RX0, .code yX0_isOfSomeParts cX0_isOfSomeParts 1 (some .boolean), .methodLink RX0 107 yX0_lowBits, .static yX0_lowBits, .code yX0_lowBits cX0_lowBits 1 (some .int), .methodLink RX0 110 yX0_allParts, .instanceMethod yX0_allParts, .selects RX0 yX0_allParts yX0_allParts, .code yX0_allParts cX0_allParts 2 (some .int), .fieldLink RX0 9 "PartsFlow" "variableParts" "[I"] ++ wsX00)
def wsX0_point_r1 : List Cond := [Cond.fieldLink RX0 59 "PartsFlow" "pointCount" "I", Cond.fieldLink RX0 20 "PartsFlow" "pointDoing" "[I", Cond.fieldLink RX0 23 "PartsFlow" "pointVariable" "[I", Cond.fieldLink RX0 26 "PartsFlow" "pointBits" "[I", Cond.fieldLink RX0 29 "PartsFlow" "pointNextX" "[I", Cond.fieldLink RX0 32 "PartsFlow" "pointNextY" "[I", Cond.fieldLink RX0 55 "PartsFlow" "solved" "Z", Cond.methodLink RX0 62 yX0_isDoing, Cond.instanceMethod yX0_isDoing, Cond.selects RX0 yX0_isDoing yX0_isDoing, Cond.initialized RX0, Cond.code yX0_isDoing cX0_isDoing 5 (some .boolean), Cond.fieldLink RX0 9 "PartsFlow" "variableParts" "[I", Cond.methodLink RX0 101 yX0_isVariable, Cond.instanceMethod yX0_isVariable, Cond.selects RX0 yX0_isVariable yX0_isVariable, Cond.code yX0_isVariable cX0_isVariable 2 (some .boolean), Cond.fieldLink RX0 51 "PartsFlow" "variableCount" "I", Cond.methodLink RX0 104 yX0_isOfSomeParts, Cond.static yX0_isOfSomeParts, Cond.code yX0_isOfSomeParts cX0_isOfSomeParts 1 (some .boolean), Cond.methodLink RX0 66 yX0_bitsOfDoing, Cond.instanceMethod yX0_bitsOfDoing, Cond.selects RX0 yX0_bitsOfDoing yX0_bitsOfDoing]
def wsX0_point_r2 : List Cond := [Cond.code yX0_bitsOfDoing cX0_bitsOfDoing 5 (some .int), Cond.methodLink RX0 107 yX0_lowBits, Cond.static yX0_lowBits, Cond.code yX0_lowBits cX0_lowBits 1 (some .int), Cond.methodLink RX0 110 yX0_allParts, Cond.instanceMethod yX0_allParts, Cond.selects RX0 yX0_allParts yX0_allParts, Cond.code yX0_allParts cX0_allParts 2 (some .int)]
def wsX0_point : List Cond := .code yX0_point cX0_point 6 (some .int) :: ((wsX0_point_r1 ++ wsX0_point_r2) ++ wsX00)
def wsX0_isPoint : List Cond := .code yX0_isPoint cX0_isPoint 2 (some .boolean) :: ([.fieldLink RX0 59 "PartsFlow" "pointCount" "I"] ++ wsX00)
def wsX0_canBeNext : List Cond := .code yX0_canBeNext cX0_canBeNext 1 (some .boolean) :: ([])
def wsX0_next : List Cond := .code yX0_next cX0_next 4 (some .boolean) :: ([.fieldLink RX0 29 "PartsFlow" "pointNextX" "[I", .fieldLink RX0 32 "PartsFlow" "pointNextY" "[I", .fieldLink RX0 55 "PartsFlow" "solved" "Z", .methodLink RX0 70 yX0_isPoint, .instanceMethod yX0_isPoint, .selects RX0 yX0_isPoint yX0_isPoint, .initialized RX0, .code yX0_isPoint cX0_isPoint 2 (some .boolean), .fieldLink RX0 59 "PartsFlow" "pointCount" "I", .methodLink RX0 74 yX0_canBeNext, .static yX0_canBeNext, .code yX0_canBeNext cX0_canBeNext 1 (some .boolean)] ++ wsX00)
def wsX0_forgetFlow : List Cond := .code yX0_forgetFlow cX0_forgetFlow 2 none :: ([.fieldLink RX0 142 "PartsFlow" "waitingHead" "I", .fieldLink RX0 129 "PartsFlow" "waitingCount" "I", .fieldLink RX0 59 "PartsFlow" "pointCount" "I", .fieldLink RX0 35 "PartsFlow" "reached" "[Z", .fieldLink RX0 48 "PartsFlow" "isWaiting" "[Z", .fieldLink RX0 38 "PartsFlow" "ahead" "[J"] ++ wsX00)
def wsX0_wordOf : List Cond := .code yX0_wordOf cX0_wordOf 1 (some .int) :: ([])
def wsX0_shiftOf : List Cond := .code yX0_shiftOf cX0_shiftOf 1 (some .int) :: ([])
def wsX0_inWord : List Cond := .code yX0_inWord cX0_inWord 2 (some .long) :: ([.methodLink RX0 113 yX0_shiftOf, .static yX0_shiftOf, .initialized RX0, .code yX0_shiftOf cX0_shiftOf 1 (some .int)])
def wsX0_addWaiting : List Cond := .code yX0_addWaiting cX0_addWaiting 2 none :: ([.fieldLink RX0 48 "PartsFlow" "isWaiting" "[Z", .fieldLink RX0 129 "PartsFlow" "waitingCount" "I", .fieldLink RX0 45 "PartsFlow" "waiting" "[I", .fieldLink RX0 142 "PartsFlow" "waitingHead" "I"] ++ wsX00)
def wsX0_goOnTo : List Cond := .code yX0_goOnTo cX0_goOnTo 7 none :: ([.fieldLink RX0 35 "PartsFlow" "reached" "[Z", .fieldLink RX0 38 "PartsFlow" "ahead" "[J", .fieldLink RX0 42 "PartsFlow" "behind" "[J", .methodLink RX0 70 yX0_isPoint, .instanceMethod yX0_isPoint, .selects RX0 yX0_isPoint yX0_isPoint, .initialized RX0, .code yX0_isPoint cX0_isPoint 2 (some .boolean), .fieldLink RX0 59 "PartsFlow" "pointCount" "I", .methodLink RX0 151 yX0_addWaiting, .instanceMethod yX0_addWaiting, .selects RX0 yX0_addWaiting yX0_addWaiting, .code yX0_addWaiting cX0_addWaiting 2 none, .fieldLink RX0 48 "PartsFlow" "isWaiting" "[Z", .fieldLink RX0 129 "PartsFlow" "waitingCount" "I", .fieldLink RX0 45 "PartsFlow" "waiting" "[I", .fieldLink RX0 142 "PartsFlow" "waitingHead" "I"] ++ wsX00)
def wsX0_beginWays_r1 : List Cond := [Cond.fieldLink RX0 42 "PartsFlow" "behind" "[J", Cond.fieldLink RX0 51 "PartsFlow" "variableCount" "I", Cond.fieldLink RX0 17 "PartsFlow" "variableGiven" "[Z", Cond.methodLink RX0 119 yX0_wordOf, Cond.static yX0_wordOf, Cond.initialized RX0, Cond.code yX0_wordOf cX0_wordOf 1 (some .int), Cond.methodLink RX0 110 yX0_allParts, Cond.instanceMethod yX0_allParts, Cond.selects RX0 yX0_allParts yX0_allParts, Cond.code yX0_allParts cX0_allParts 2 (some .int), Cond.fieldLink RX0 9 "PartsFlow" "variableParts" "[I", Cond.methodLink RX0 107 yX0_lowBits, Cond.static yX0_lowBits, Cond.code yX0_lowBits cX0_lowBits 1 (some .int), Cond.methodLink RX0 145 yX0_inWord, Cond.static yX0_inWord, Cond.code yX0_inWord cX0_inWord 2 (some .long), Cond.methodLink RX0 113 yX0_shiftOf, Cond.static yX0_shiftOf, Cond.code yX0_shiftOf cX0_shiftOf 1 (some .int), Cond.methodLink RX0 139 yX0_goOnTo, Cond.instanceMethod yX0_goOnTo, Cond.selects RX0 yX0_goOnTo yX0_goOnTo]
def wsX0_beginWays_r2 : List Cond := [Cond.code yX0_goOnTo cX0_goOnTo 7 none, Cond.fieldLink RX0 35 "PartsFlow" "reached" "[Z", Cond.fieldLink RX0 38 "PartsFlow" "ahead" "[J", Cond.methodLink RX0 70 yX0_isPoint, Cond.instanceMethod yX0_isPoint, Cond.selects RX0 yX0_isPoint yX0_isPoint, Cond.code yX0_isPoint cX0_isPoint 2 (some .boolean), Cond.fieldLink RX0 59 "PartsFlow" "pointCount" "I", Cond.methodLink RX0 151 yX0_addWaiting, Cond.instanceMethod yX0_addWaiting, Cond.selects RX0 yX0_addWaiting yX0_addWaiting, Cond.code yX0_addWaiting cX0_addWaiting 2 none, Cond.fieldLink RX0 48 "PartsFlow" "isWaiting" "[Z", Cond.fieldLink RX0 129 "PartsFlow" "waitingCount" "I", Cond.fieldLink RX0 45 "PartsFlow" "waiting" "[I", Cond.fieldLink RX0 142 "PartsFlow" "waitingHead" "I"]
def wsX0_beginWays : List Cond := .code yX0_beginWays cX0_beginWays 3 none :: ((wsX0_beginWays_r1 ++ wsX0_beginWays_r2) ++ wsX00)
def wsX0_takeWaiting : List Cond := .code yX0_takeWaiting cX0_takeWaiting 2 (some .int) :: ([.fieldLink RX0 45 "PartsFlow" "waiting" "[I", .fieldLink RX0 142 "PartsFlow" "waitingHead" "I", .fieldLink RX0 129 "PartsFlow" "waitingCount" "I", .fieldLink RX0 48 "PartsFlow" "isWaiting" "[Z"] ++ wsX00)
def wsX0_passThrough : List Cond := .code yX0_passThrough cX0_passThrough 10 none :: ([.fieldLink RX0 42 "PartsFlow" "behind" "[J", .fieldLink RX0 38 "PartsFlow" "ahead" "[J", .fieldLink RX0 20 "PartsFlow" "pointDoing" "[I", .fieldLink RX0 23 "PartsFlow" "pointVariable" "[I", .fieldLink RX0 26 "PartsFlow" "pointBits" "[I", .constantLong RX0 149 (-1), .methodLink RX0 145 yX0_inWord, .static yX0_inWord, .initialized RX0, .code yX0_inWord cX0_inWord 2 (some .long), .methodLink RX0 113 yX0_shiftOf, .static yX0_shiftOf, .code yX0_shiftOf cX0_shiftOf 1 (some .int), .methodLink RX0 119 yX0_wordOf, .static yX0_wordOf, .code yX0_wordOf cX0_wordOf 1 (some .int)] ++ wsX00)
def wsX0_solve_r1 : List Cond := [Cond.fieldLink RX0 55 "PartsFlow" "solved" "Z", Cond.constant RX0 128 (46200), Cond.fieldLink RX0 129 "PartsFlow" "waitingCount" "I", Cond.fieldLink RX0 29 "PartsFlow" "pointNextX" "[I", Cond.fieldLink RX0 32 "PartsFlow" "pointNextY" "[I", Cond.methodLink RX0 122 yX0_forgetFlow, Cond.instanceMethod yX0_forgetFlow, Cond.selects RX0 yX0_forgetFlow yX0_forgetFlow, Cond.initialized RX0, Cond.code yX0_forgetFlow cX0_forgetFlow 2 none, Cond.fieldLink RX0 142 "PartsFlow" "waitingHead" "I", Cond.fieldLink RX0 59 "PartsFlow" "pointCount" "I", Cond.fieldLink RX0 35 "PartsFlow" "reached" "[Z", Cond.fieldLink RX0 48 "PartsFlow" "isWaiting" "[Z", Cond.fieldLink RX0 38 "PartsFlow" "ahead" "[J", Cond.methodLink RX0 125 yX0_beginWays, Cond.instanceMethod yX0_beginWays, Cond.selects RX0 yX0_beginWays yX0_beginWays, Cond.code yX0_beginWays cX0_beginWays 3 none, Cond.fieldLink RX0 42 "PartsFlow" "behind" "[J", Cond.fieldLink RX0 51 "PartsFlow" "variableCount" "I", Cond.fieldLink RX0 17 "PartsFlow" "variableGiven" "[Z", Cond.methodLink RX0 119 yX0_wordOf, Cond.static yX0_wordOf]
def wsX0_solve_r2 : List Cond := [Cond.code yX0_wordOf cX0_wordOf 1 (some .int), Cond.methodLink RX0 110 yX0_allParts, Cond.instanceMethod yX0_allParts, Cond.selects RX0 yX0_allParts yX0_allParts, Cond.code yX0_allParts cX0_allParts 2 (some .int), Cond.fieldLink RX0 9 "PartsFlow" "variableParts" "[I", Cond.methodLink RX0 107 yX0_lowBits, Cond.static yX0_lowBits, Cond.code yX0_lowBits cX0_lowBits 1 (some .int), Cond.methodLink RX0 145 yX0_inWord, Cond.static yX0_inWord, Cond.code yX0_inWord cX0_inWord 2 (some .long), Cond.methodLink RX0 113 yX0_shiftOf, Cond.static yX0_shiftOf, Cond.code yX0_shiftOf cX0_shiftOf 1 (some .int), Cond.methodLink RX0 139 yX0_goOnTo, Cond.instanceMethod yX0_goOnTo, Cond.selects RX0 yX0_goOnTo yX0_goOnTo, Cond.code yX0_goOnTo cX0_goOnTo 7 none, Cond.methodLink RX0 70 yX0_isPoint, Cond.instanceMethod yX0_isPoint, Cond.selects RX0 yX0_isPoint yX0_isPoint, Cond.code yX0_isPoint cX0_isPoint 2 (some .boolean), Cond.methodLink RX0 151 yX0_addWaiting]
def wsX0_solve_r3 : List Cond := [Cond.instanceMethod yX0_addWaiting, Cond.selects RX0 yX0_addWaiting yX0_addWaiting, Cond.code yX0_addWaiting cX0_addWaiting 2 none, Cond.fieldLink RX0 45 "PartsFlow" "waiting" "[I", Cond.methodLink RX0 132 yX0_takeWaiting, Cond.instanceMethod yX0_takeWaiting, Cond.selects RX0 yX0_takeWaiting yX0_takeWaiting, Cond.code yX0_takeWaiting cX0_takeWaiting 2 (some .int), Cond.methodLink RX0 135 yX0_passThrough, Cond.instanceMethod yX0_passThrough, Cond.selects RX0 yX0_passThrough yX0_passThrough, Cond.code yX0_passThrough cX0_passThrough 10 none, Cond.fieldLink RX0 20 "PartsFlow" "pointDoing" "[I", Cond.fieldLink RX0 23 "PartsFlow" "pointVariable" "[I", Cond.fieldLink RX0 26 "PartsFlow" "pointBits" "[I", Cond.constantLong RX0 149 (-1)]
def wsX0_solve : List Cond := .code yX0_solve cX0_solve 3 none :: ((wsX0_solve_r1 ++ (wsX0_solve_r2 ++ wsX0_solve_r3)) ++ wsX00)
def wsX0_isReached_r1 : List Cond := [Cond.fieldLink RX0 35 "PartsFlow" "reached" "[Z", Cond.methodLink RX0 70 yX0_isPoint, Cond.instanceMethod yX0_isPoint, Cond.selects RX0 yX0_isPoint yX0_isPoint, Cond.initialized RX0, Cond.code yX0_isPoint cX0_isPoint 2 (some .boolean), Cond.fieldLink RX0 59 "PartsFlow" "pointCount" "I", Cond.methodLink RX0 77 yX0_solve, Cond.instanceMethod yX0_solve, Cond.selects RX0 yX0_solve yX0_solve, Cond.code yX0_solve cX0_solve 3 none, Cond.fieldLink RX0 55 "PartsFlow" "solved" "Z", Cond.constant RX0 128 (46200), Cond.fieldLink RX0 129 "PartsFlow" "waitingCount" "I", Cond.fieldLink RX0 29 "PartsFlow" "pointNextX" "[I", Cond.fieldLink RX0 32 "PartsFlow" "pointNextY" "[I", Cond.methodLink RX0 122 yX0_forgetFlow, Cond.instanceMethod yX0_forgetFlow, Cond.selects RX0 yX0_forgetFlow yX0_forgetFlow, Cond.code yX0_forgetFlow cX0_forgetFlow 2 none, Cond.fieldLink RX0 142 "PartsFlow" "waitingHead" "I", Cond.fieldLink RX0 48 "PartsFlow" "isWaiting" "[Z", Cond.fieldLink RX0 38 "PartsFlow" "ahead" "[J", Cond.methodLink RX0 125 yX0_beginWays]
def wsX0_isReached_r2 : List Cond := [Cond.instanceMethod yX0_beginWays, Cond.selects RX0 yX0_beginWays yX0_beginWays, Cond.code yX0_beginWays cX0_beginWays 3 none, Cond.fieldLink RX0 42 "PartsFlow" "behind" "[J", Cond.fieldLink RX0 51 "PartsFlow" "variableCount" "I", Cond.fieldLink RX0 17 "PartsFlow" "variableGiven" "[Z", Cond.methodLink RX0 119 yX0_wordOf, Cond.static yX0_wordOf, Cond.code yX0_wordOf cX0_wordOf 1 (some .int), Cond.methodLink RX0 110 yX0_allParts, Cond.instanceMethod yX0_allParts, Cond.selects RX0 yX0_allParts yX0_allParts, Cond.code yX0_allParts cX0_allParts 2 (some .int), Cond.fieldLink RX0 9 "PartsFlow" "variableParts" "[I", Cond.methodLink RX0 107 yX0_lowBits, Cond.static yX0_lowBits, Cond.code yX0_lowBits cX0_lowBits 1 (some .int), Cond.methodLink RX0 145 yX0_inWord, Cond.static yX0_inWord, Cond.code yX0_inWord cX0_inWord 2 (some .long), Cond.methodLink RX0 113 yX0_shiftOf, Cond.static yX0_shiftOf, Cond.code yX0_shiftOf cX0_shiftOf 1 (some .int), Cond.methodLink RX0 139 yX0_goOnTo]
def wsX0_isReached_r3 : List Cond := [Cond.instanceMethod yX0_goOnTo, Cond.selects RX0 yX0_goOnTo yX0_goOnTo, Cond.code yX0_goOnTo cX0_goOnTo 7 none, Cond.methodLink RX0 151 yX0_addWaiting, Cond.instanceMethod yX0_addWaiting, Cond.selects RX0 yX0_addWaiting yX0_addWaiting, Cond.code yX0_addWaiting cX0_addWaiting 2 none, Cond.fieldLink RX0 45 "PartsFlow" "waiting" "[I", Cond.methodLink RX0 132 yX0_takeWaiting, Cond.instanceMethod yX0_takeWaiting, Cond.selects RX0 yX0_takeWaiting yX0_takeWaiting, Cond.code yX0_takeWaiting cX0_takeWaiting 2 (some .int), Cond.methodLink RX0 135 yX0_passThrough, Cond.instanceMethod yX0_passThrough, Cond.selects RX0 yX0_passThrough yX0_passThrough, Cond.code yX0_passThrough cX0_passThrough 10 none, Cond.fieldLink RX0 20 "PartsFlow" "pointDoing" "[I", Cond.fieldLink RX0 23 "PartsFlow" "pointVariable" "[I", Cond.fieldLink RX0 26 "PartsFlow" "pointBits" "[I", Cond.constantLong RX0 149 (-1)]
def wsX0_isReached : List Cond := .code yX0_isReached cX0_isReached 2 (some .boolean) :: ((wsX0_isReached_r1 ++ (wsX0_isReached_r2 ++ wsX0_isReached_r3)) ++ wsX00)
def wsX0_solvedBits : List Cond := .code yX0_solvedBits cX0_solvedBits 6 (some .int) :: ([.fieldLink RX0 38 "PartsFlow" "ahead" "[J", .methodLink RX0 119 yX0_wordOf, .static yX0_wordOf, .initialized RX0, .code yX0_wordOf cX0_wordOf 1 (some .int), .methodLink RX0 113 yX0_shiftOf, .static yX0_shiftOf, .code yX0_shiftOf cX0_shiftOf 1 (some .int), .methodLink RX0 107 yX0_lowBits, .static yX0_lowBits, .code yX0_lowBits cX0_lowBits 1 (some .int)] ++ wsX00)
def wsX0_bitsAhead_r1 : List Cond := [Cond.methodLink RX0 70 yX0_isPoint, Cond.instanceMethod yX0_isPoint, Cond.selects RX0 yX0_isPoint yX0_isPoint, Cond.initialized RX0, Cond.code yX0_isPoint cX0_isPoint 2 (some .boolean), Cond.fieldLink RX0 59 "PartsFlow" "pointCount" "I", Cond.methodLink RX0 101 yX0_isVariable, Cond.instanceMethod yX0_isVariable, Cond.selects RX0 yX0_isVariable yX0_isVariable, Cond.code yX0_isVariable cX0_isVariable 2 (some .boolean), Cond.fieldLink RX0 51 "PartsFlow" "variableCount" "I", Cond.methodLink RX0 77 yX0_solve, Cond.instanceMethod yX0_solve, Cond.selects RX0 yX0_solve yX0_solve, Cond.code yX0_solve cX0_solve 3 none, Cond.fieldLink RX0 55 "PartsFlow" "solved" "Z", Cond.constant RX0 128 (46200), Cond.fieldLink RX0 129 "PartsFlow" "waitingCount" "I", Cond.fieldLink RX0 29 "PartsFlow" "pointNextX" "[I", Cond.fieldLink RX0 32 "PartsFlow" "pointNextY" "[I", Cond.methodLink RX0 122 yX0_forgetFlow, Cond.instanceMethod yX0_forgetFlow, Cond.selects RX0 yX0_forgetFlow yX0_forgetFlow, Cond.code yX0_forgetFlow cX0_forgetFlow 2 none]
def wsX0_bitsAhead_r2 : List Cond := [Cond.fieldLink RX0 142 "PartsFlow" "waitingHead" "I", Cond.fieldLink RX0 35 "PartsFlow" "reached" "[Z", Cond.fieldLink RX0 48 "PartsFlow" "isWaiting" "[Z", Cond.fieldLink RX0 38 "PartsFlow" "ahead" "[J", Cond.methodLink RX0 125 yX0_beginWays, Cond.instanceMethod yX0_beginWays, Cond.selects RX0 yX0_beginWays yX0_beginWays, Cond.code yX0_beginWays cX0_beginWays 3 none, Cond.fieldLink RX0 42 "PartsFlow" "behind" "[J", Cond.fieldLink RX0 17 "PartsFlow" "variableGiven" "[Z", Cond.methodLink RX0 119 yX0_wordOf, Cond.static yX0_wordOf, Cond.code yX0_wordOf cX0_wordOf 1 (some .int), Cond.methodLink RX0 110 yX0_allParts, Cond.instanceMethod yX0_allParts, Cond.selects RX0 yX0_allParts yX0_allParts, Cond.code yX0_allParts cX0_allParts 2 (some .int), Cond.fieldLink RX0 9 "PartsFlow" "variableParts" "[I", Cond.methodLink RX0 107 yX0_lowBits, Cond.static yX0_lowBits, Cond.code yX0_lowBits cX0_lowBits 1 (some .int), Cond.methodLink RX0 145 yX0_inWord, Cond.static yX0_inWord, Cond.code yX0_inWord cX0_inWord 2 (some .long)]
def wsX0_bitsAhead_r3 : List Cond := [Cond.methodLink RX0 113 yX0_shiftOf, Cond.static yX0_shiftOf, Cond.code yX0_shiftOf cX0_shiftOf 1 (some .int), Cond.methodLink RX0 139 yX0_goOnTo, Cond.instanceMethod yX0_goOnTo, Cond.selects RX0 yX0_goOnTo yX0_goOnTo, Cond.code yX0_goOnTo cX0_goOnTo 7 none, Cond.methodLink RX0 151 yX0_addWaiting, Cond.instanceMethod yX0_addWaiting, Cond.selects RX0 yX0_addWaiting yX0_addWaiting, Cond.code yX0_addWaiting cX0_addWaiting 2 none, Cond.fieldLink RX0 45 "PartsFlow" "waiting" "[I", Cond.methodLink RX0 132 yX0_takeWaiting, Cond.instanceMethod yX0_takeWaiting, Cond.selects RX0 yX0_takeWaiting yX0_takeWaiting, Cond.code yX0_takeWaiting cX0_takeWaiting 2 (some .int), Cond.methodLink RX0 135 yX0_passThrough, Cond.instanceMethod yX0_passThrough, Cond.selects RX0 yX0_passThrough yX0_passThrough, Cond.code yX0_passThrough cX0_passThrough 10 none, Cond.fieldLink RX0 20 "PartsFlow" "pointDoing" "[I", Cond.fieldLink RX0 23 "PartsFlow" "pointVariable" "[I", Cond.fieldLink RX0 26 "PartsFlow" "pointBits" "[I", Cond.constantLong RX0 149 (-1)]
def wsX0_bitsAhead_r4 : List Cond := [Cond.methodLink RX0 116 yX0_solvedBits, Cond.instanceMethod yX0_solvedBits, Cond.selects RX0 yX0_solvedBits yX0_solvedBits, Cond.code yX0_solvedBits cX0_solvedBits 6 (some .int)]
def wsX0_bitsAhead : List Cond := .code yX0_bitsAhead cX0_bitsAhead 4 (some .int) :: ((wsX0_bitsAhead_r1 ++ (wsX0_bitsAhead_r2 ++ (wsX0_bitsAhead_r3 ++ wsX0_bitsAhead_r4))) ++ wsX00)
def wsX0_without_r1 : List Cond := [Cond.methodLink RX0 80 yX0_bitsAhead, Cond.instanceMethod yX0_bitsAhead, Cond.selects RX0 yX0_bitsAhead yX0_bitsAhead, Cond.initialized RX0, Cond.code yX0_bitsAhead cX0_bitsAhead 4 (some .int), Cond.methodLink RX0 70 yX0_isPoint, Cond.instanceMethod yX0_isPoint, Cond.selects RX0 yX0_isPoint yX0_isPoint, Cond.code yX0_isPoint cX0_isPoint 2 (some .boolean), Cond.fieldLink RX0 59 "PartsFlow" "pointCount" "I", Cond.methodLink RX0 101 yX0_isVariable, Cond.instanceMethod yX0_isVariable, Cond.selects RX0 yX0_isVariable yX0_isVariable, Cond.code yX0_isVariable cX0_isVariable 2 (some .boolean), Cond.fieldLink RX0 51 "PartsFlow" "variableCount" "I", Cond.methodLink RX0 77 yX0_solve, Cond.instanceMethod yX0_solve, Cond.selects RX0 yX0_solve yX0_solve, Cond.code yX0_solve cX0_solve 3 none, Cond.fieldLink RX0 55 "PartsFlow" "solved" "Z", Cond.constant RX0 128 (46200), Cond.fieldLink RX0 129 "PartsFlow" "waitingCount" "I", Cond.fieldLink RX0 29 "PartsFlow" "pointNextX" "[I", Cond.fieldLink RX0 32 "PartsFlow" "pointNextY" "[I"]
def wsX0_without_r2 : List Cond := [Cond.methodLink RX0 122 yX0_forgetFlow, Cond.instanceMethod yX0_forgetFlow, Cond.selects RX0 yX0_forgetFlow yX0_forgetFlow, Cond.code yX0_forgetFlow cX0_forgetFlow 2 none, Cond.fieldLink RX0 142 "PartsFlow" "waitingHead" "I", Cond.fieldLink RX0 35 "PartsFlow" "reached" "[Z", Cond.fieldLink RX0 48 "PartsFlow" "isWaiting" "[Z", Cond.fieldLink RX0 38 "PartsFlow" "ahead" "[J", Cond.methodLink RX0 125 yX0_beginWays, Cond.instanceMethod yX0_beginWays, Cond.selects RX0 yX0_beginWays yX0_beginWays, Cond.code yX0_beginWays cX0_beginWays 3 none, Cond.fieldLink RX0 42 "PartsFlow" "behind" "[J", Cond.fieldLink RX0 17 "PartsFlow" "variableGiven" "[Z", Cond.methodLink RX0 119 yX0_wordOf, Cond.static yX0_wordOf, Cond.code yX0_wordOf cX0_wordOf 1 (some .int), Cond.methodLink RX0 110 yX0_allParts, Cond.instanceMethod yX0_allParts, Cond.selects RX0 yX0_allParts yX0_allParts, Cond.code yX0_allParts cX0_allParts 2 (some .int), Cond.fieldLink RX0 9 "PartsFlow" "variableParts" "[I", Cond.methodLink RX0 107 yX0_lowBits, Cond.static yX0_lowBits]
def wsX0_without_r3 : List Cond := [Cond.code yX0_lowBits cX0_lowBits 1 (some .int), Cond.methodLink RX0 145 yX0_inWord, Cond.static yX0_inWord, Cond.code yX0_inWord cX0_inWord 2 (some .long), Cond.methodLink RX0 113 yX0_shiftOf, Cond.static yX0_shiftOf, Cond.code yX0_shiftOf cX0_shiftOf 1 (some .int), Cond.methodLink RX0 139 yX0_goOnTo, Cond.instanceMethod yX0_goOnTo, Cond.selects RX0 yX0_goOnTo yX0_goOnTo, Cond.code yX0_goOnTo cX0_goOnTo 7 none, Cond.methodLink RX0 151 yX0_addWaiting, Cond.instanceMethod yX0_addWaiting, Cond.selects RX0 yX0_addWaiting yX0_addWaiting, Cond.code yX0_addWaiting cX0_addWaiting 2 none, Cond.fieldLink RX0 45 "PartsFlow" "waiting" "[I", Cond.methodLink RX0 132 yX0_takeWaiting, Cond.instanceMethod yX0_takeWaiting, Cond.selects RX0 yX0_takeWaiting yX0_takeWaiting, Cond.code yX0_takeWaiting cX0_takeWaiting 2 (some .int), Cond.methodLink RX0 135 yX0_passThrough, Cond.instanceMethod yX0_passThrough, Cond.selects RX0 yX0_passThrough yX0_passThrough, Cond.code yX0_passThrough cX0_passThrough 10 none]
def wsX0_without_r4 : List Cond := [Cond.fieldLink RX0 20 "PartsFlow" "pointDoing" "[I", Cond.fieldLink RX0 23 "PartsFlow" "pointVariable" "[I", Cond.fieldLink RX0 26 "PartsFlow" "pointBits" "[I", Cond.constantLong RX0 149 (-1), Cond.methodLink RX0 116 yX0_solvedBits, Cond.instanceMethod yX0_solvedBits, Cond.selects RX0 yX0_solvedBits yX0_solvedBits, Cond.code yX0_solvedBits cX0_solvedBits 6 (some .int)]
def wsX0_without : List Cond := .code yX0_without cX0_without 3 (some .int) :: ((wsX0_without_r1 ++ (wsX0_without_r2 ++ (wsX0_without_r3 ++ wsX0_without_r4))) ++ wsX00)
def wsX0_having_r1 : List Cond := [Cond.methodLink RX0 80 yX0_bitsAhead, Cond.instanceMethod yX0_bitsAhead, Cond.selects RX0 yX0_bitsAhead yX0_bitsAhead, Cond.initialized RX0, Cond.code yX0_bitsAhead cX0_bitsAhead 4 (some .int), Cond.methodLink RX0 70 yX0_isPoint, Cond.instanceMethod yX0_isPoint, Cond.selects RX0 yX0_isPoint yX0_isPoint, Cond.code yX0_isPoint cX0_isPoint 2 (some .boolean), Cond.fieldLink RX0 59 "PartsFlow" "pointCount" "I", Cond.methodLink RX0 101 yX0_isVariable, Cond.instanceMethod yX0_isVariable, Cond.selects RX0 yX0_isVariable yX0_isVariable, Cond.code yX0_isVariable cX0_isVariable 2 (some .boolean), Cond.fieldLink RX0 51 "PartsFlow" "variableCount" "I", Cond.methodLink RX0 77 yX0_solve, Cond.instanceMethod yX0_solve, Cond.selects RX0 yX0_solve yX0_solve, Cond.code yX0_solve cX0_solve 3 none, Cond.fieldLink RX0 55 "PartsFlow" "solved" "Z", Cond.constant RX0 128 (46200), Cond.fieldLink RX0 129 "PartsFlow" "waitingCount" "I", Cond.fieldLink RX0 29 "PartsFlow" "pointNextX" "[I", Cond.fieldLink RX0 32 "PartsFlow" "pointNextY" "[I"]
def wsX0_having_r2 : List Cond := [Cond.methodLink RX0 122 yX0_forgetFlow, Cond.instanceMethod yX0_forgetFlow, Cond.selects RX0 yX0_forgetFlow yX0_forgetFlow, Cond.code yX0_forgetFlow cX0_forgetFlow 2 none, Cond.fieldLink RX0 142 "PartsFlow" "waitingHead" "I", Cond.fieldLink RX0 35 "PartsFlow" "reached" "[Z", Cond.fieldLink RX0 48 "PartsFlow" "isWaiting" "[Z", Cond.fieldLink RX0 38 "PartsFlow" "ahead" "[J", Cond.methodLink RX0 125 yX0_beginWays, Cond.instanceMethod yX0_beginWays, Cond.selects RX0 yX0_beginWays yX0_beginWays, Cond.code yX0_beginWays cX0_beginWays 3 none, Cond.fieldLink RX0 42 "PartsFlow" "behind" "[J", Cond.fieldLink RX0 17 "PartsFlow" "variableGiven" "[Z", Cond.methodLink RX0 119 yX0_wordOf, Cond.static yX0_wordOf, Cond.code yX0_wordOf cX0_wordOf 1 (some .int), Cond.methodLink RX0 110 yX0_allParts, Cond.instanceMethod yX0_allParts, Cond.selects RX0 yX0_allParts yX0_allParts, Cond.code yX0_allParts cX0_allParts 2 (some .int), Cond.fieldLink RX0 9 "PartsFlow" "variableParts" "[I", Cond.methodLink RX0 107 yX0_lowBits, Cond.static yX0_lowBits]
def wsX0_having_r3 : List Cond := [Cond.code yX0_lowBits cX0_lowBits 1 (some .int), Cond.methodLink RX0 145 yX0_inWord, Cond.static yX0_inWord, Cond.code yX0_inWord cX0_inWord 2 (some .long), Cond.methodLink RX0 113 yX0_shiftOf, Cond.static yX0_shiftOf, Cond.code yX0_shiftOf cX0_shiftOf 1 (some .int), Cond.methodLink RX0 139 yX0_goOnTo, Cond.instanceMethod yX0_goOnTo, Cond.selects RX0 yX0_goOnTo yX0_goOnTo, Cond.code yX0_goOnTo cX0_goOnTo 7 none, Cond.methodLink RX0 151 yX0_addWaiting, Cond.instanceMethod yX0_addWaiting, Cond.selects RX0 yX0_addWaiting yX0_addWaiting, Cond.code yX0_addWaiting cX0_addWaiting 2 none, Cond.fieldLink RX0 45 "PartsFlow" "waiting" "[I", Cond.methodLink RX0 132 yX0_takeWaiting, Cond.instanceMethod yX0_takeWaiting, Cond.selects RX0 yX0_takeWaiting yX0_takeWaiting, Cond.code yX0_takeWaiting cX0_takeWaiting 2 (some .int), Cond.methodLink RX0 135 yX0_passThrough, Cond.instanceMethod yX0_passThrough, Cond.selects RX0 yX0_passThrough yX0_passThrough, Cond.code yX0_passThrough cX0_passThrough 10 none]
def wsX0_having_r4 : List Cond := [Cond.fieldLink RX0 20 "PartsFlow" "pointDoing" "[I", Cond.fieldLink RX0 23 "PartsFlow" "pointVariable" "[I", Cond.fieldLink RX0 26 "PartsFlow" "pointBits" "[I", Cond.constantLong RX0 149 (-1), Cond.methodLink RX0 116 yX0_solvedBits, Cond.instanceMethod yX0_solvedBits, Cond.selects RX0 yX0_solvedBits yX0_solvedBits, Cond.code yX0_solvedBits cX0_solvedBits 6 (some .int)]
def wsX0_having : List Cond := .code yX0_having cX0_having 3 (some .int) :: ((wsX0_having_r1 ++ (wsX0_having_r2 ++ (wsX0_having_r3 ++ wsX0_having_r4))) ++ wsX00)
def wsX0_faultOfPoint_r1 : List Cond := [Cond.fieldLink RX0 35 "PartsFlow" "reached" "[Z", Cond.fieldLink RX0 20 "PartsFlow" "pointDoing" "[I", Cond.fieldLink RX0 23 "PartsFlow" "pointVariable" "[I", Cond.fieldLink RX0 26 "PartsFlow" "pointBits" "[I", Cond.fieldLink RX0 13 "PartsFlow" "variableOnce" "[Z", Cond.methodLink RX0 116 yX0_solvedBits, Cond.instanceMethod yX0_solvedBits, Cond.selects RX0 yX0_solvedBits yX0_solvedBits, Cond.initialized RX0, Cond.code yX0_solvedBits cX0_solvedBits 6 (some .int), Cond.fieldLink RX0 38 "PartsFlow" "ahead" "[J", Cond.methodLink RX0 119 yX0_wordOf, Cond.static yX0_wordOf, Cond.code yX0_wordOf cX0_wordOf 1 (some .int), Cond.methodLink RX0 113 yX0_shiftOf, Cond.static yX0_shiftOf, Cond.code yX0_shiftOf cX0_shiftOf 1 (some .int), Cond.methodLink RX0 107 yX0_lowBits, Cond.static yX0_lowBits, Cond.code yX0_lowBits cX0_lowBits 1 (some .int), Cond.methodLink RX0 110 yX0_allParts, Cond.instanceMethod yX0_allParts, Cond.selects RX0 yX0_allParts yX0_allParts, Cond.code yX0_allParts cX0_allParts 2 (some .int)]
def wsX0_faultOfPoint_r2 : List Cond := [Cond.fieldLink RX0 9 "PartsFlow" "variableParts" "[I"]
def wsX0_faultOfPoint : List Cond := .code yX0_faultOfPoint cX0_faultOfPoint 5 (some .int) :: ((wsX0_faultOfPoint_r1 ++ wsX0_faultOfPoint_r2) ++ wsX00)
def wsX0_fault_r1 : List Cond := [Cond.methodLink RX0 70 yX0_isPoint, Cond.instanceMethod yX0_isPoint, Cond.selects RX0 yX0_isPoint yX0_isPoint, Cond.initialized RX0, Cond.code yX0_isPoint cX0_isPoint 2 (some .boolean), Cond.fieldLink RX0 59 "PartsFlow" "pointCount" "I", Cond.methodLink RX0 77 yX0_solve, Cond.instanceMethod yX0_solve, Cond.selects RX0 yX0_solve yX0_solve, Cond.code yX0_solve cX0_solve 3 none, Cond.fieldLink RX0 55 "PartsFlow" "solved" "Z", Cond.constant RX0 128 (46200), Cond.fieldLink RX0 129 "PartsFlow" "waitingCount" "I", Cond.fieldLink RX0 29 "PartsFlow" "pointNextX" "[I", Cond.fieldLink RX0 32 "PartsFlow" "pointNextY" "[I", Cond.methodLink RX0 122 yX0_forgetFlow, Cond.instanceMethod yX0_forgetFlow, Cond.selects RX0 yX0_forgetFlow yX0_forgetFlow, Cond.code yX0_forgetFlow cX0_forgetFlow 2 none, Cond.fieldLink RX0 142 "PartsFlow" "waitingHead" "I", Cond.fieldLink RX0 35 "PartsFlow" "reached" "[Z", Cond.fieldLink RX0 48 "PartsFlow" "isWaiting" "[Z", Cond.fieldLink RX0 38 "PartsFlow" "ahead" "[J", Cond.methodLink RX0 125 yX0_beginWays]
def wsX0_fault_r2 : List Cond := [Cond.instanceMethod yX0_beginWays, Cond.selects RX0 yX0_beginWays yX0_beginWays, Cond.code yX0_beginWays cX0_beginWays 3 none, Cond.fieldLink RX0 42 "PartsFlow" "behind" "[J", Cond.fieldLink RX0 51 "PartsFlow" "variableCount" "I", Cond.fieldLink RX0 17 "PartsFlow" "variableGiven" "[Z", Cond.methodLink RX0 119 yX0_wordOf, Cond.static yX0_wordOf, Cond.code yX0_wordOf cX0_wordOf 1 (some .int), Cond.methodLink RX0 110 yX0_allParts, Cond.instanceMethod yX0_allParts, Cond.selects RX0 yX0_allParts yX0_allParts, Cond.code yX0_allParts cX0_allParts 2 (some .int), Cond.fieldLink RX0 9 "PartsFlow" "variableParts" "[I", Cond.methodLink RX0 107 yX0_lowBits, Cond.static yX0_lowBits, Cond.code yX0_lowBits cX0_lowBits 1 (some .int), Cond.methodLink RX0 145 yX0_inWord, Cond.static yX0_inWord, Cond.code yX0_inWord cX0_inWord 2 (some .long), Cond.methodLink RX0 113 yX0_shiftOf, Cond.static yX0_shiftOf, Cond.code yX0_shiftOf cX0_shiftOf 1 (some .int), Cond.methodLink RX0 139 yX0_goOnTo]
def wsX0_fault_r3 : List Cond := [Cond.instanceMethod yX0_goOnTo, Cond.selects RX0 yX0_goOnTo yX0_goOnTo, Cond.code yX0_goOnTo cX0_goOnTo 7 none, Cond.methodLink RX0 151 yX0_addWaiting, Cond.instanceMethod yX0_addWaiting, Cond.selects RX0 yX0_addWaiting yX0_addWaiting, Cond.code yX0_addWaiting cX0_addWaiting 2 none, Cond.fieldLink RX0 45 "PartsFlow" "waiting" "[I", Cond.methodLink RX0 132 yX0_takeWaiting, Cond.instanceMethod yX0_takeWaiting, Cond.selects RX0 yX0_takeWaiting yX0_takeWaiting, Cond.code yX0_takeWaiting cX0_takeWaiting 2 (some .int), Cond.methodLink RX0 135 yX0_passThrough, Cond.instanceMethod yX0_passThrough, Cond.selects RX0 yX0_passThrough yX0_passThrough, Cond.code yX0_passThrough cX0_passThrough 10 none, Cond.fieldLink RX0 20 "PartsFlow" "pointDoing" "[I", Cond.fieldLink RX0 23 "PartsFlow" "pointVariable" "[I", Cond.fieldLink RX0 26 "PartsFlow" "pointBits" "[I", Cond.constantLong RX0 149 (-1), Cond.methodLink RX0 84 yX0_faultOfPoint, Cond.instanceMethod yX0_faultOfPoint, Cond.selects RX0 yX0_faultOfPoint yX0_faultOfPoint, Cond.code yX0_faultOfPoint cX0_faultOfPoint 5 (some .int)]
def wsX0_fault_r4 : List Cond := [Cond.fieldLink RX0 13 "PartsFlow" "variableOnce" "[Z", Cond.methodLink RX0 116 yX0_solvedBits, Cond.instanceMethod yX0_solvedBits, Cond.selects RX0 yX0_solvedBits yX0_solvedBits, Cond.code yX0_solvedBits cX0_solvedBits 6 (some .int)]
def wsX0_fault : List Cond := .code yX0_fault cX0_fault 2 (some .int) :: ((wsX0_fault_r1 ++ (wsX0_fault_r2 ++ (wsX0_fault_r3 ++ wsX0_fault_r4))) ++ wsX00)
def wsX0_countReached_r1 : List Cond := [Cond.fieldLink RX0 59 "PartsFlow" "pointCount" "I", Cond.fieldLink RX0 35 "PartsFlow" "reached" "[Z", Cond.methodLink RX0 77 yX0_solve, Cond.instanceMethod yX0_solve, Cond.selects RX0 yX0_solve yX0_solve, Cond.initialized RX0, Cond.code yX0_solve cX0_solve 3 none, Cond.fieldLink RX0 55 "PartsFlow" "solved" "Z", Cond.constant RX0 128 (46200), Cond.fieldLink RX0 129 "PartsFlow" "waitingCount" "I", Cond.fieldLink RX0 29 "PartsFlow" "pointNextX" "[I", Cond.fieldLink RX0 32 "PartsFlow" "pointNextY" "[I", Cond.methodLink RX0 122 yX0_forgetFlow, Cond.instanceMethod yX0_forgetFlow, Cond.selects RX0 yX0_forgetFlow yX0_forgetFlow, Cond.code yX0_forgetFlow cX0_forgetFlow 2 none, Cond.fieldLink RX0 142 "PartsFlow" "waitingHead" "I", Cond.fieldLink RX0 48 "PartsFlow" "isWaiting" "[Z", Cond.fieldLink RX0 38 "PartsFlow" "ahead" "[J", Cond.methodLink RX0 125 yX0_beginWays, Cond.instanceMethod yX0_beginWays, Cond.selects RX0 yX0_beginWays yX0_beginWays, Cond.code yX0_beginWays cX0_beginWays 3 none, Cond.fieldLink RX0 42 "PartsFlow" "behind" "[J"]
def wsX0_countReached_r2 : List Cond := [Cond.fieldLink RX0 51 "PartsFlow" "variableCount" "I", Cond.fieldLink RX0 17 "PartsFlow" "variableGiven" "[Z", Cond.methodLink RX0 119 yX0_wordOf, Cond.static yX0_wordOf, Cond.code yX0_wordOf cX0_wordOf 1 (some .int), Cond.methodLink RX0 110 yX0_allParts, Cond.instanceMethod yX0_allParts, Cond.selects RX0 yX0_allParts yX0_allParts, Cond.code yX0_allParts cX0_allParts 2 (some .int), Cond.fieldLink RX0 9 "PartsFlow" "variableParts" "[I", Cond.methodLink RX0 107 yX0_lowBits, Cond.static yX0_lowBits, Cond.code yX0_lowBits cX0_lowBits 1 (some .int), Cond.methodLink RX0 145 yX0_inWord, Cond.static yX0_inWord, Cond.code yX0_inWord cX0_inWord 2 (some .long), Cond.methodLink RX0 113 yX0_shiftOf, Cond.static yX0_shiftOf, Cond.code yX0_shiftOf cX0_shiftOf 1 (some .int), Cond.methodLink RX0 139 yX0_goOnTo, Cond.instanceMethod yX0_goOnTo, Cond.selects RX0 yX0_goOnTo yX0_goOnTo, Cond.code yX0_goOnTo cX0_goOnTo 7 none, Cond.methodLink RX0 70 yX0_isPoint]
def wsX0_countReached_r3 : List Cond := [Cond.instanceMethod yX0_isPoint, Cond.selects RX0 yX0_isPoint yX0_isPoint, Cond.code yX0_isPoint cX0_isPoint 2 (some .boolean), Cond.methodLink RX0 151 yX0_addWaiting, Cond.instanceMethod yX0_addWaiting, Cond.selects RX0 yX0_addWaiting yX0_addWaiting, Cond.code yX0_addWaiting cX0_addWaiting 2 none, Cond.fieldLink RX0 45 "PartsFlow" "waiting" "[I", Cond.methodLink RX0 132 yX0_takeWaiting, Cond.instanceMethod yX0_takeWaiting, Cond.selects RX0 yX0_takeWaiting yX0_takeWaiting, Cond.code yX0_takeWaiting cX0_takeWaiting 2 (some .int), Cond.methodLink RX0 135 yX0_passThrough, Cond.instanceMethod yX0_passThrough, Cond.selects RX0 yX0_passThrough yX0_passThrough, Cond.code yX0_passThrough cX0_passThrough 10 none, Cond.fieldLink RX0 20 "PartsFlow" "pointDoing" "[I", Cond.fieldLink RX0 23 "PartsFlow" "pointVariable" "[I", Cond.fieldLink RX0 26 "PartsFlow" "pointBits" "[I", Cond.constantLong RX0 149 (-1)]
def wsX0_countReached : List Cond := .code yX0_countReached cX0_countReached 3 (some .int) :: ((wsX0_countReached_r1 ++ (wsX0_countReached_r2 ++ wsX0_countReached_r3)) ++ wsX00)
def wsX0_countFaults_r1 : List Cond := [Cond.fieldLink RX0 59 "PartsFlow" "pointCount" "I", Cond.methodLink RX0 77 yX0_solve, Cond.instanceMethod yX0_solve, Cond.selects RX0 yX0_solve yX0_solve, Cond.initialized RX0, Cond.code yX0_solve cX0_solve 3 none, Cond.fieldLink RX0 55 "PartsFlow" "solved" "Z", Cond.constant RX0 128 (46200), Cond.fieldLink RX0 129 "PartsFlow" "waitingCount" "I", Cond.fieldLink RX0 29 "PartsFlow" "pointNextX" "[I", Cond.fieldLink RX0 32 "PartsFlow" "pointNextY" "[I", Cond.methodLink RX0 122 yX0_forgetFlow, Cond.instanceMethod yX0_forgetFlow, Cond.selects RX0 yX0_forgetFlow yX0_forgetFlow, Cond.code yX0_forgetFlow cX0_forgetFlow 2 none, Cond.fieldLink RX0 142 "PartsFlow" "waitingHead" "I", Cond.fieldLink RX0 35 "PartsFlow" "reached" "[Z", Cond.fieldLink RX0 48 "PartsFlow" "isWaiting" "[Z", Cond.fieldLink RX0 38 "PartsFlow" "ahead" "[J", Cond.methodLink RX0 125 yX0_beginWays, Cond.instanceMethod yX0_beginWays, Cond.selects RX0 yX0_beginWays yX0_beginWays, Cond.code yX0_beginWays cX0_beginWays 3 none, Cond.fieldLink RX0 42 "PartsFlow" "behind" "[J"]
def wsX0_countFaults_r2 : List Cond := [Cond.fieldLink RX0 51 "PartsFlow" "variableCount" "I", Cond.fieldLink RX0 17 "PartsFlow" "variableGiven" "[Z", Cond.methodLink RX0 119 yX0_wordOf, Cond.static yX0_wordOf, Cond.code yX0_wordOf cX0_wordOf 1 (some .int), Cond.methodLink RX0 110 yX0_allParts, Cond.instanceMethod yX0_allParts, Cond.selects RX0 yX0_allParts yX0_allParts, Cond.code yX0_allParts cX0_allParts 2 (some .int), Cond.fieldLink RX0 9 "PartsFlow" "variableParts" "[I", Cond.methodLink RX0 107 yX0_lowBits, Cond.static yX0_lowBits, Cond.code yX0_lowBits cX0_lowBits 1 (some .int), Cond.methodLink RX0 145 yX0_inWord, Cond.static yX0_inWord, Cond.code yX0_inWord cX0_inWord 2 (some .long), Cond.methodLink RX0 113 yX0_shiftOf, Cond.static yX0_shiftOf, Cond.code yX0_shiftOf cX0_shiftOf 1 (some .int), Cond.methodLink RX0 139 yX0_goOnTo, Cond.instanceMethod yX0_goOnTo, Cond.selects RX0 yX0_goOnTo yX0_goOnTo, Cond.code yX0_goOnTo cX0_goOnTo 7 none, Cond.methodLink RX0 70 yX0_isPoint]
def wsX0_countFaults_r3 : List Cond := [Cond.instanceMethod yX0_isPoint, Cond.selects RX0 yX0_isPoint yX0_isPoint, Cond.code yX0_isPoint cX0_isPoint 2 (some .boolean), Cond.methodLink RX0 151 yX0_addWaiting, Cond.instanceMethod yX0_addWaiting, Cond.selects RX0 yX0_addWaiting yX0_addWaiting, Cond.code yX0_addWaiting cX0_addWaiting 2 none, Cond.fieldLink RX0 45 "PartsFlow" "waiting" "[I", Cond.methodLink RX0 132 yX0_takeWaiting, Cond.instanceMethod yX0_takeWaiting, Cond.selects RX0 yX0_takeWaiting yX0_takeWaiting, Cond.code yX0_takeWaiting cX0_takeWaiting 2 (some .int), Cond.methodLink RX0 135 yX0_passThrough, Cond.instanceMethod yX0_passThrough, Cond.selects RX0 yX0_passThrough yX0_passThrough, Cond.code yX0_passThrough cX0_passThrough 10 none, Cond.fieldLink RX0 20 "PartsFlow" "pointDoing" "[I", Cond.fieldLink RX0 23 "PartsFlow" "pointVariable" "[I", Cond.fieldLink RX0 26 "PartsFlow" "pointBits" "[I", Cond.constantLong RX0 149 (-1), Cond.methodLink RX0 84 yX0_faultOfPoint, Cond.instanceMethod yX0_faultOfPoint, Cond.selects RX0 yX0_faultOfPoint yX0_faultOfPoint, Cond.code yX0_faultOfPoint cX0_faultOfPoint 5 (some .int)]
def wsX0_countFaults_r4 : List Cond := [Cond.fieldLink RX0 13 "PartsFlow" "variableOnce" "[Z", Cond.methodLink RX0 116 yX0_solvedBits, Cond.instanceMethod yX0_solvedBits, Cond.selects RX0 yX0_solvedBits yX0_solvedBits, Cond.code yX0_solvedBits cX0_solvedBits 6 (some .int)]
def wsX0_countFaults : List Cond := .code yX0_countFaults cX0_countFaults 3 (some .int) :: ((wsX0_countFaults_r1 ++ (wsX0_countFaults_r2 ++ (wsX0_countFaults_r3 ++ wsX0_countFaults_r4))) ++ wsX00)
def wsX0_firstFault_r1 : List Cond := [Cond.fieldLink RX0 59 "PartsFlow" "pointCount" "I", Cond.methodLink RX0 77 yX0_solve, Cond.instanceMethod yX0_solve, Cond.selects RX0 yX0_solve yX0_solve, Cond.initialized RX0, Cond.code yX0_solve cX0_solve 3 none, Cond.fieldLink RX0 55 "PartsFlow" "solved" "Z", Cond.constant RX0 128 (46200), Cond.fieldLink RX0 129 "PartsFlow" "waitingCount" "I", Cond.fieldLink RX0 29 "PartsFlow" "pointNextX" "[I", Cond.fieldLink RX0 32 "PartsFlow" "pointNextY" "[I", Cond.methodLink RX0 122 yX0_forgetFlow, Cond.instanceMethod yX0_forgetFlow, Cond.selects RX0 yX0_forgetFlow yX0_forgetFlow, Cond.code yX0_forgetFlow cX0_forgetFlow 2 none, Cond.fieldLink RX0 142 "PartsFlow" "waitingHead" "I", Cond.fieldLink RX0 35 "PartsFlow" "reached" "[Z", Cond.fieldLink RX0 48 "PartsFlow" "isWaiting" "[Z", Cond.fieldLink RX0 38 "PartsFlow" "ahead" "[J", Cond.methodLink RX0 125 yX0_beginWays, Cond.instanceMethod yX0_beginWays, Cond.selects RX0 yX0_beginWays yX0_beginWays, Cond.code yX0_beginWays cX0_beginWays 3 none, Cond.fieldLink RX0 42 "PartsFlow" "behind" "[J"]
def wsX0_firstFault_r2 : List Cond := [Cond.fieldLink RX0 51 "PartsFlow" "variableCount" "I", Cond.fieldLink RX0 17 "PartsFlow" "variableGiven" "[Z", Cond.methodLink RX0 119 yX0_wordOf, Cond.static yX0_wordOf, Cond.code yX0_wordOf cX0_wordOf 1 (some .int), Cond.methodLink RX0 110 yX0_allParts, Cond.instanceMethod yX0_allParts, Cond.selects RX0 yX0_allParts yX0_allParts, Cond.code yX0_allParts cX0_allParts 2 (some .int), Cond.fieldLink RX0 9 "PartsFlow" "variableParts" "[I", Cond.methodLink RX0 107 yX0_lowBits, Cond.static yX0_lowBits, Cond.code yX0_lowBits cX0_lowBits 1 (some .int), Cond.methodLink RX0 145 yX0_inWord, Cond.static yX0_inWord, Cond.code yX0_inWord cX0_inWord 2 (some .long), Cond.methodLink RX0 113 yX0_shiftOf, Cond.static yX0_shiftOf, Cond.code yX0_shiftOf cX0_shiftOf 1 (some .int), Cond.methodLink RX0 139 yX0_goOnTo, Cond.instanceMethod yX0_goOnTo, Cond.selects RX0 yX0_goOnTo yX0_goOnTo, Cond.code yX0_goOnTo cX0_goOnTo 7 none, Cond.methodLink RX0 70 yX0_isPoint]
def wsX0_firstFault_r3 : List Cond := [Cond.instanceMethod yX0_isPoint, Cond.selects RX0 yX0_isPoint yX0_isPoint, Cond.code yX0_isPoint cX0_isPoint 2 (some .boolean), Cond.methodLink RX0 151 yX0_addWaiting, Cond.instanceMethod yX0_addWaiting, Cond.selects RX0 yX0_addWaiting yX0_addWaiting, Cond.code yX0_addWaiting cX0_addWaiting 2 none, Cond.fieldLink RX0 45 "PartsFlow" "waiting" "[I", Cond.methodLink RX0 132 yX0_takeWaiting, Cond.instanceMethod yX0_takeWaiting, Cond.selects RX0 yX0_takeWaiting yX0_takeWaiting, Cond.code yX0_takeWaiting cX0_takeWaiting 2 (some .int), Cond.methodLink RX0 135 yX0_passThrough, Cond.instanceMethod yX0_passThrough, Cond.selects RX0 yX0_passThrough yX0_passThrough, Cond.code yX0_passThrough cX0_passThrough 10 none, Cond.fieldLink RX0 20 "PartsFlow" "pointDoing" "[I", Cond.fieldLink RX0 23 "PartsFlow" "pointVariable" "[I", Cond.fieldLink RX0 26 "PartsFlow" "pointBits" "[I", Cond.constantLong RX0 149 (-1), Cond.methodLink RX0 84 yX0_faultOfPoint, Cond.instanceMethod yX0_faultOfPoint, Cond.selects RX0 yX0_faultOfPoint yX0_faultOfPoint, Cond.code yX0_faultOfPoint cX0_faultOfPoint 5 (some .int)]
def wsX0_firstFault_r4 : List Cond := [Cond.fieldLink RX0 13 "PartsFlow" "variableOnce" "[Z", Cond.methodLink RX0 116 yX0_solvedBits, Cond.instanceMethod yX0_solvedBits, Cond.selects RX0 yX0_solvedBits yX0_solvedBits, Cond.code yX0_solvedBits cX0_solvedBits 6 (some .int)]
def wsX0_firstFault : List Cond := .code yX0_firstFault cX0_firstFault 2 (some .int) :: ((wsX0_firstFault_r1 ++ (wsX0_firstFault_r2 ++ (wsX0_firstFault_r3 ++ wsX0_firstFault_r4))) ++ wsX00)
def wsX0_countParts : List Cond := .code yX0_countParts cX0_countParts 3 (some .int) :: ([.fieldLink RX0 51 "PartsFlow" "variableCount" "I", .fieldLink RX0 9 "PartsFlow" "variableParts" "[I"] ++ wsX00)
def wsX0_count_r1 : List Cond := [Cond.fieldLink RX0 59 "PartsFlow" "pointCount" "I", Cond.fieldLink RX0 51 "PartsFlow" "variableCount" "I", Cond.methodLink RX0 88 yX0_countReached, Cond.instanceMethod yX0_countReached, Cond.selects RX0 yX0_countReached yX0_countReached, Cond.initialized RX0, Cond.code yX0_countReached cX0_countReached 3 (some .int), Cond.fieldLink RX0 35 "PartsFlow" "reached" "[Z", Cond.methodLink RX0 77 yX0_solve, Cond.instanceMethod yX0_solve, Cond.selects RX0 yX0_solve yX0_solve, Cond.code yX0_solve cX0_solve 3 none, Cond.fieldLink RX0 55 "PartsFlow" "solved" "Z", Cond.constant RX0 128 (46200), Cond.fieldLink RX0 129 "PartsFlow" "waitingCount" "I", Cond.fieldLink RX0 29 "PartsFlow" "pointNextX" "[I", Cond.fieldLink RX0 32 "PartsFlow" "pointNextY" "[I", Cond.methodLink RX0 122 yX0_forgetFlow, Cond.instanceMethod yX0_forgetFlow, Cond.selects RX0 yX0_forgetFlow yX0_forgetFlow, Cond.code yX0_forgetFlow cX0_forgetFlow 2 none, Cond.fieldLink RX0 142 "PartsFlow" "waitingHead" "I", Cond.fieldLink RX0 48 "PartsFlow" "isWaiting" "[Z", Cond.fieldLink RX0 38 "PartsFlow" "ahead" "[J"]
def wsX0_count_r2 : List Cond := [Cond.methodLink RX0 125 yX0_beginWays, Cond.instanceMethod yX0_beginWays, Cond.selects RX0 yX0_beginWays yX0_beginWays, Cond.code yX0_beginWays cX0_beginWays 3 none, Cond.fieldLink RX0 42 "PartsFlow" "behind" "[J", Cond.fieldLink RX0 17 "PartsFlow" "variableGiven" "[Z", Cond.methodLink RX0 119 yX0_wordOf, Cond.static yX0_wordOf, Cond.code yX0_wordOf cX0_wordOf 1 (some .int), Cond.methodLink RX0 110 yX0_allParts, Cond.instanceMethod yX0_allParts, Cond.selects RX0 yX0_allParts yX0_allParts, Cond.code yX0_allParts cX0_allParts 2 (some .int), Cond.fieldLink RX0 9 "PartsFlow" "variableParts" "[I", Cond.methodLink RX0 107 yX0_lowBits, Cond.static yX0_lowBits, Cond.code yX0_lowBits cX0_lowBits 1 (some .int), Cond.methodLink RX0 145 yX0_inWord, Cond.static yX0_inWord, Cond.code yX0_inWord cX0_inWord 2 (some .long), Cond.methodLink RX0 113 yX0_shiftOf, Cond.static yX0_shiftOf, Cond.code yX0_shiftOf cX0_shiftOf 1 (some .int), Cond.methodLink RX0 139 yX0_goOnTo]
def wsX0_count_r3 : List Cond := [Cond.instanceMethod yX0_goOnTo, Cond.selects RX0 yX0_goOnTo yX0_goOnTo, Cond.code yX0_goOnTo cX0_goOnTo 7 none, Cond.methodLink RX0 70 yX0_isPoint, Cond.instanceMethod yX0_isPoint, Cond.selects RX0 yX0_isPoint yX0_isPoint, Cond.code yX0_isPoint cX0_isPoint 2 (some .boolean), Cond.methodLink RX0 151 yX0_addWaiting, Cond.instanceMethod yX0_addWaiting, Cond.selects RX0 yX0_addWaiting yX0_addWaiting, Cond.code yX0_addWaiting cX0_addWaiting 2 none, Cond.fieldLink RX0 45 "PartsFlow" "waiting" "[I", Cond.methodLink RX0 132 yX0_takeWaiting, Cond.instanceMethod yX0_takeWaiting, Cond.selects RX0 yX0_takeWaiting yX0_takeWaiting, Cond.code yX0_takeWaiting cX0_takeWaiting 2 (some .int), Cond.methodLink RX0 135 yX0_passThrough, Cond.instanceMethod yX0_passThrough, Cond.selects RX0 yX0_passThrough yX0_passThrough, Cond.code yX0_passThrough cX0_passThrough 10 none, Cond.fieldLink RX0 20 "PartsFlow" "pointDoing" "[I", Cond.fieldLink RX0 23 "PartsFlow" "pointVariable" "[I", Cond.fieldLink RX0 26 "PartsFlow" "pointBits" "[I", Cond.constantLong RX0 149 (-1)]
def wsX0_count_r4 : List Cond := [Cond.methodLink RX0 92 yX0_countFaults, Cond.instanceMethod yX0_countFaults, Cond.selects RX0 yX0_countFaults yX0_countFaults, Cond.code yX0_countFaults cX0_countFaults 3 (some .int), Cond.methodLink RX0 84 yX0_faultOfPoint, Cond.instanceMethod yX0_faultOfPoint, Cond.selects RX0 yX0_faultOfPoint yX0_faultOfPoint, Cond.code yX0_faultOfPoint cX0_faultOfPoint 5 (some .int), Cond.fieldLink RX0 13 "PartsFlow" "variableOnce" "[Z", Cond.methodLink RX0 116 yX0_solvedBits, Cond.instanceMethod yX0_solvedBits, Cond.selects RX0 yX0_solvedBits yX0_solvedBits, Cond.code yX0_solvedBits cX0_solvedBits 6 (some .int), Cond.methodLink RX0 95 yX0_firstFault, Cond.instanceMethod yX0_firstFault, Cond.selects RX0 yX0_firstFault yX0_firstFault, Cond.code yX0_firstFault cX0_firstFault 2 (some .int), Cond.methodLink RX0 98 yX0_countParts, Cond.instanceMethod yX0_countParts, Cond.selects RX0 yX0_countParts yX0_countParts, Cond.code yX0_countParts cX0_countParts 3 (some .int)]
def wsX0_count : List Cond := .code yX0_count cX0_count 2 (some .int) :: ((wsX0_count_r1 ++ (wsX0_count_r2 ++ (wsX0_count_r3 ++ wsX0_count_r4))) ++ wsX00)
def wsX0_clear : List Cond := .code yX0_clear cX0_clear 2 (some .int) :: ([.fieldLink RX0 59 "PartsFlow" "pointCount" "I", .fieldLink RX0 55 "PartsFlow" "solved" "Z"] ++ wsX00)
theorem dX0_init_0 : decode cX0_init 0 = .ok (.aload_n 0, 1) := by decide +kernel
theorem dX0_init_1 : decode cX0_init 1 = .ok (.invokespecial 3, 3) := by decide +kernel
theorem dX0_init_4 : decode cX0_init 4 = .ok (.aload_n 0, 1) := by decide +kernel
theorem dX0_init_5 : decode cX0_init 5 = .ok (.bipush 20, 2) := by decide +kernel
theorem dX0_init_7 : decode cX0_init 7 = .ok (.newarray .int, 2) := by decide +kernel
theorem dX0_init_9 : decode cX0_init 9 = .ok (.putfield 9, 3) := by decide +kernel
theorem dX0_init_12 : decode cX0_init 12 = .ok (.aload_n 0, 1) := by decide +kernel
theorem dX0_init_13 : decode cX0_init 13 = .ok (.bipush 20, 2) := by decide +kernel
theorem dX0_init_15 : decode cX0_init 15 = .ok (.newarray .boolean, 2) := by decide +kernel
theorem dX0_init_17 : decode cX0_init 17 = .ok (.putfield 13, 3) := by decide +kernel
theorem dX0_init_20 : decode cX0_init 20 = .ok (.aload_n 0, 1) := by decide +kernel
theorem dX0_init_21 : decode cX0_init 21 = .ok (.bipush 20, 2) := by decide +kernel
theorem dX0_init_23 : decode cX0_init 23 = .ok (.newarray .boolean, 2) := by decide +kernel
theorem dX0_init_25 : decode cX0_init 25 = .ok (.putfield 17, 3) := by decide +kernel
theorem dX0_init_28 : decode cX0_init 28 = .ok (.aload_n 0, 1) := by decide +kernel
theorem dX0_init_29 : decode cX0_init 29 = .ok (.bipush 120, 2) := by decide +kernel
theorem dX0_init_31 : decode cX0_init 31 = .ok (.newarray .int, 2) := by decide +kernel
theorem dX0_init_33 : decode cX0_init 33 = .ok (.putfield 20, 3) := by decide +kernel
theorem dX0_init_36 : decode cX0_init 36 = .ok (.aload_n 0, 1) := by decide +kernel
theorem dX0_init_37 : decode cX0_init 37 = .ok (.bipush 120, 2) := by decide +kernel
theorem dX0_init_39 : decode cX0_init 39 = .ok (.newarray .int, 2) := by decide +kernel
theorem dX0_init_41 : decode cX0_init 41 = .ok (.putfield 23, 3) := by decide +kernel
theorem dX0_init_44 : decode cX0_init 44 = .ok (.aload_n 0, 1) := by decide +kernel
theorem dX0_init_45 : decode cX0_init 45 = .ok (.bipush 120, 2) := by decide +kernel
theorem dX0_init_47 : decode cX0_init 47 = .ok (.newarray .int, 2) := by decide +kernel
theorem dX0_init_49 : decode cX0_init 49 = .ok (.putfield 26, 3) := by decide +kernel
theorem dX0_init_52 : decode cX0_init 52 = .ok (.aload_n 0, 1) := by decide +kernel
theorem dX0_init_53 : decode cX0_init 53 = .ok (.bipush 120, 2) := by decide +kernel
theorem dX0_init_55 : decode cX0_init 55 = .ok (.newarray .int, 2) := by decide +kernel
theorem dX0_init_57 : decode cX0_init 57 = .ok (.putfield 29, 3) := by decide +kernel
theorem dX0_init_60 : decode cX0_init 60 = .ok (.aload_n 0, 1) := by decide +kernel
theorem dX0_init_61 : decode cX0_init 61 = .ok (.bipush 120, 2) := by decide +kernel
theorem dX0_init_63 : decode cX0_init 63 = .ok (.newarray .int, 2) := by decide +kernel
theorem dX0_init_65 : decode cX0_init 65 = .ok (.putfield 32, 3) := by decide +kernel
theorem dX0_init_68 : decode cX0_init 68 = .ok (.aload_n 0, 1) := by decide +kernel
theorem dX0_init_69 : decode cX0_init 69 = .ok (.bipush 120, 2) := by decide +kernel
theorem dX0_init_71 : decode cX0_init 71 = .ok (.newarray .boolean, 2) := by decide +kernel
theorem dX0_init_73 : decode cX0_init 73 = .ok (.putfield 35, 3) := by decide +kernel
theorem dX0_init_76 : decode cX0_init 76 = .ok (.aload_n 0, 1) := by decide +kernel
theorem dX0_init_77 : decode cX0_init 77 = .ok (.sipush 720, 3) := by decide +kernel
theorem dX0_init_80 : decode cX0_init 80 = .ok (.newarray .long, 2) := by decide +kernel
theorem dX0_init_82 : decode cX0_init 82 = .ok (.putfield 38, 3) := by decide +kernel
theorem dX0_init_85 : decode cX0_init 85 = .ok (.aload_n 0, 1) := by decide +kernel
theorem dX0_init_86 : decode cX0_init 86 = .ok (.bipush 6, 2) := by decide +kernel
theorem dX0_init_88 : decode cX0_init 88 = .ok (.newarray .long, 2) := by decide +kernel
theorem dX0_init_90 : decode cX0_init 90 = .ok (.putfield 42, 3) := by decide +kernel
theorem dX0_init_93 : decode cX0_init 93 = .ok (.aload_n 0, 1) := by decide +kernel
theorem dX0_init_94 : decode cX0_init 94 = .ok (.bipush 120, 2) := by decide +kernel
theorem dX0_init_96 : decode cX0_init 96 = .ok (.newarray .int, 2) := by decide +kernel
theorem dX0_init_98 : decode cX0_init 98 = .ok (.putfield 45, 3) := by decide +kernel
theorem dX0_init_101 : decode cX0_init 101 = .ok (.aload_n 0, 1) := by decide +kernel
theorem dX0_init_102 : decode cX0_init 102 = .ok (.bipush 120, 2) := by decide +kernel
theorem dX0_init_104 : decode cX0_init 104 = .ok (.newarray .boolean, 2) := by decide +kernel
theorem dX0_init_106 : decode cX0_init 106 = .ok (.putfield 48, 3) := by decide +kernel
theorem dX0_init_109 : decode cX0_init 109 = .ok (.return_, 1) := by decide +kernel
theorem dX0_variable_0 : decode cX0_variable 0 = .ok (.iload_n 1, 1) := by decide +kernel
theorem dX0_variable_1 : decode cX0_variable 1 = .ok (.iconst 1, 1) := by decide +kernel
theorem dX0_variable_2 : decode cX0_variable 2 = .ok (.if_icmp .lt 18, 3) := by decide +kernel
theorem dX0_variable_5 : decode cX0_variable 5 = .ok (.iload_n 1, 1) := by decide +kernel
theorem dX0_variable_6 : decode cX0_variable 6 = .ok (.bipush 8, 2) := by decide +kernel
theorem dX0_variable_8 : decode cX0_variable 8 = .ok (.if_icmp .gt 12, 3) := by decide +kernel
theorem dX0_variable_11 : decode cX0_variable 11 = .ok (.aload_n 0, 1) := by decide +kernel
theorem dX0_variable_12 : decode cX0_variable 12 = .ok (.getfield 51, 3) := by decide +kernel
theorem dX0_variable_15 : decode cX0_variable 15 = .ok (.bipush 20, 2) := by decide +kernel
theorem dX0_variable_17 : decode cX0_variable 17 = .ok (.if_icmp .lt 5, 3) := by decide +kernel
theorem dX0_variable_20 : decode cX0_variable 20 = .ok (.iconst (-1), 1) := by decide +kernel
theorem dX0_variable_21 : decode cX0_variable 21 = .ok (.ireturn, 1) := by decide +kernel
theorem dX0_variable_22 : decode cX0_variable 22 = .ok (.aload_n 0, 1) := by decide +kernel
theorem dX0_variable_23 : decode cX0_variable 23 = .ok (.getfield 51, 3) := by decide +kernel
theorem dX0_variable_26 : decode cX0_variable 26 = .ok (.istore 4, 2) := by decide +kernel
theorem dX0_variable_28 : decode cX0_variable 28 = .ok (.aload_n 0, 1) := by decide +kernel
theorem dX0_variable_29 : decode cX0_variable 29 = .ok (.getfield 9, 3) := by decide +kernel
theorem dX0_variable_32 : decode cX0_variable 32 = .ok (.iload 4, 2) := by decide +kernel
theorem dX0_variable_34 : decode cX0_variable 34 = .ok (.iload_n 1, 1) := by decide +kernel
theorem dX0_variable_35 : decode cX0_variable 35 = .ok (.iastore, 1) := by decide +kernel
theorem dX0_variable_36 : decode cX0_variable 36 = .ok (.aload_n 0, 1) := by decide +kernel
theorem dX0_variable_37 : decode cX0_variable 37 = .ok (.getfield 13, 3) := by decide +kernel
theorem dX0_variable_40 : decode cX0_variable 40 = .ok (.iload 4, 2) := by decide +kernel
theorem dX0_variable_42 : decode cX0_variable 42 = .ok (.iload_n 2, 1) := by decide +kernel
theorem dX0_variable_43 : decode cX0_variable 43 = .ok (.bastore, 1) := by decide +kernel
theorem dX0_variable_44 : decode cX0_variable 44 = .ok (.aload_n 0, 1) := by decide +kernel
theorem dX0_variable_45 : decode cX0_variable 45 = .ok (.getfield 17, 3) := by decide +kernel
theorem dX0_variable_48 : decode cX0_variable 48 = .ok (.iload 4, 2) := by decide +kernel
theorem dX0_variable_50 : decode cX0_variable 50 = .ok (.iload_n 3, 1) := by decide +kernel
theorem dX0_variable_51 : decode cX0_variable 51 = .ok (.bastore, 1) := by decide +kernel
theorem dX0_variable_52 : decode cX0_variable 52 = .ok (.aload_n 0, 1) := by decide +kernel
theorem dX0_variable_53 : decode cX0_variable 53 = .ok (.iload 4, 2) := by decide +kernel
theorem dX0_variable_55 : decode cX0_variable 55 = .ok (.iconst 1, 1) := by decide +kernel
theorem dX0_variable_56 : decode cX0_variable 56 = .ok (.iadd, 1) := by decide +kernel
theorem dX0_variable_57 : decode cX0_variable 57 = .ok (.putfield 51, 3) := by decide +kernel
theorem dX0_variable_60 : decode cX0_variable 60 = .ok (.aload_n 0, 1) := by decide +kernel
theorem dX0_variable_61 : decode cX0_variable 61 = .ok (.iconst 0, 1) := by decide +kernel
theorem dX0_variable_62 : decode cX0_variable 62 = .ok (.putfield 55, 3) := by decide +kernel
theorem dX0_variable_65 : decode cX0_variable 65 = .ok (.iload 4, 2) := by decide +kernel
theorem dX0_variable_67 : decode cX0_variable 67 = .ok (.ireturn, 1) := by decide +kernel
set_option maxRecDepth 20000 in
theorem ggX0_point_X0_isDoing : GoodIn wsX0_point wsX0_isDoing := goodIn_r _ [12, 13, 14, 15, 16, 11, 17, 18, 19, 20, 21, 33, 34, 35, 36, 37, 38, 39, 40, 41, 42, 43, 44, 45, 46, 47, 48, 49, 50] (by decide +kernel) (by decide +kernel)
set_option maxRecDepth 20000 in
theorem gX0_point_X0_isDoing : GoodIn wsX0_point (wsV RX0 62 RX0 yX0_isDoing wsX0_isDoing) := goodIn_app (goodIn_of _ (by decide +kernel)) ggX0_point_X0_isDoing
set_option maxRecDepth 20000 in
theorem ggX0_point_X0_bitsOfDoing : GoodIn wsX0_point wsX0_bitsOfDoing := goodIn_r _ [25, 19, 20, 11, 21, 26, 27, 28, 29, 30, 31, 32, 13, 33, 34, 35, 36, 37, 38, 39, 40, 41, 42, 43, 44, 45, 46, 47, 48, 49, 50] (by decide +kernel) (by decide +kernel)
set_option maxRecDepth 20000 in
theorem gX0_point_X0_bitsOfDoing : GoodIn wsX0_point (wsV RX0 66 RX0 yX0_bitsOfDoing wsX0_bitsOfDoing) := goodIn_app (goodIn_of _ (by decide +kernel)) ggX0_point_X0_bitsOfDoing
theorem dX0_point_0 : decode cX0_point 0 = .ok (.aload_n 0, 1) := by decide +kernel
theorem dX0_point_1 : decode cX0_point 1 = .ok (.getfield 59, 3) := by decide +kernel
theorem dX0_point_4 : decode cX0_point 4 = .ok (.bipush 120, 2) := by decide +kernel
theorem dX0_point_6 : decode cX0_point 6 = .ok (.if_icmp .ge 15, 3) := by decide +kernel
theorem dX0_point_9 : decode cX0_point 9 = .ok (.aload_n 0, 1) := by decide +kernel
theorem dX0_point_10 : decode cX0_point 10 = .ok (.iload_n 1, 1) := by decide +kernel
theorem dX0_point_11 : decode cX0_point 11 = .ok (.iload_n 2, 1) := by decide +kernel
theorem dX0_point_12 : decode cX0_point 12 = .ok (.iload_n 3, 1) := by decide +kernel
theorem dX0_point_13 : decode cX0_point 13 = .ok (.iload 4, 2) := by decide +kernel
theorem dX0_point_15 : decode cX0_point 15 = .ok (.invokevirtual 62, 3) := by decide +kernel
theorem dX0_point_18 : decode cX0_point 18 = .ok (.ifCond .ne 5, 3) := by decide +kernel
theorem dX0_point_21 : decode cX0_point 21 = .ok (.iconst (-1), 1) := by decide +kernel
theorem dX0_point_22 : decode cX0_point 22 = .ok (.ireturn, 1) := by decide +kernel
theorem dX0_point_23 : decode cX0_point 23 = .ok (.aload_n 0, 1) := by decide +kernel
theorem dX0_point_24 : decode cX0_point 24 = .ok (.getfield 59, 3) := by decide +kernel
theorem dX0_point_27 : decode cX0_point 27 = .ok (.istore 5, 2) := by decide +kernel
theorem dX0_point_29 : decode cX0_point 29 = .ok (.aload_n 0, 1) := by decide +kernel
theorem dX0_point_30 : decode cX0_point 30 = .ok (.getfield 20, 3) := by decide +kernel
theorem dX0_point_33 : decode cX0_point 33 = .ok (.iload 5, 2) := by decide +kernel
theorem dX0_point_35 : decode cX0_point 35 = .ok (.iload_n 1, 1) := by decide +kernel
theorem dX0_point_36 : decode cX0_point 36 = .ok (.iastore, 1) := by decide +kernel
theorem dX0_point_37 : decode cX0_point 37 = .ok (.aload_n 0, 1) := by decide +kernel
theorem dX0_point_38 : decode cX0_point 38 = .ok (.getfield 23, 3) := by decide +kernel
theorem dX0_point_41 : decode cX0_point 41 = .ok (.iload 5, 2) := by decide +kernel
theorem dX0_point_43 : decode cX0_point 43 = .ok (.iload_n 1, 1) := by decide +kernel
theorem dX0_point_44 : decode cX0_point 44 = .ok (.ifCond .ne 7, 3) := by decide +kernel
theorem dX0_point_47 : decode cX0_point 47 = .ok (.iconst 0, 1) := by decide +kernel
theorem dX0_point_48 : decode cX0_point 48 = .ok (.goto 4, 3) := by decide +kernel
theorem dX0_point_51 : decode cX0_point 51 = .ok (.iload_n 2, 1) := by decide +kernel
theorem dX0_point_52 : decode cX0_point 52 = .ok (.iastore, 1) := by decide +kernel
theorem dX0_point_53 : decode cX0_point 53 = .ok (.aload_n 0, 1) := by decide +kernel
theorem dX0_point_54 : decode cX0_point 54 = .ok (.getfield 26, 3) := by decide +kernel
theorem dX0_point_57 : decode cX0_point 57 = .ok (.iload 5, 2) := by decide +kernel
theorem dX0_point_59 : decode cX0_point 59 = .ok (.aload_n 0, 1) := by decide +kernel
theorem dX0_point_60 : decode cX0_point 60 = .ok (.iload_n 1, 1) := by decide +kernel
theorem dX0_point_61 : decode cX0_point 61 = .ok (.iload_n 2, 1) := by decide +kernel
theorem dX0_point_62 : decode cX0_point 62 = .ok (.iload_n 3, 1) := by decide +kernel
theorem dX0_point_63 : decode cX0_point 63 = .ok (.iload 4, 2) := by decide +kernel
theorem dX0_point_65 : decode cX0_point 65 = .ok (.invokevirtual 66, 3) := by decide +kernel
theorem dX0_point_68 : decode cX0_point 68 = .ok (.iastore, 1) := by decide +kernel
theorem dX0_point_69 : decode cX0_point 69 = .ok (.aload_n 0, 1) := by decide +kernel
theorem dX0_point_70 : decode cX0_point 70 = .ok (.getfield 29, 3) := by decide +kernel
theorem dX0_point_73 : decode cX0_point 73 = .ok (.iload 5, 2) := by decide +kernel
theorem dX0_point_75 : decode cX0_point 75 = .ok (.iload 5, 2) := by decide +kernel
theorem dX0_point_77 : decode cX0_point 77 = .ok (.iconst 1, 1) := by decide +kernel
theorem dX0_point_78 : decode cX0_point 78 = .ok (.iadd, 1) := by decide +kernel
theorem dX0_point_79 : decode cX0_point 79 = .ok (.iastore, 1) := by decide +kernel
theorem dX0_point_80 : decode cX0_point 80 = .ok (.aload_n 0, 1) := by decide +kernel
theorem dX0_point_81 : decode cX0_point 81 = .ok (.getfield 32, 3) := by decide +kernel
theorem dX0_point_84 : decode cX0_point 84 = .ok (.iload 5, 2) := by decide +kernel
theorem dX0_point_86 : decode cX0_point 86 = .ok (.iconst (-1), 1) := by decide +kernel
theorem dX0_point_87 : decode cX0_point 87 = .ok (.iastore, 1) := by decide +kernel
theorem dX0_point_88 : decode cX0_point 88 = .ok (.aload_n 0, 1) := by decide +kernel
theorem dX0_point_89 : decode cX0_point 89 = .ok (.iload 5, 2) := by decide +kernel
theorem dX0_point_91 : decode cX0_point 91 = .ok (.iconst 1, 1) := by decide +kernel
theorem dX0_point_92 : decode cX0_point 92 = .ok (.iadd, 1) := by decide +kernel
theorem dX0_point_93 : decode cX0_point 93 = .ok (.putfield 59, 3) := by decide +kernel
theorem dX0_point_96 : decode cX0_point 96 = .ok (.aload_n 0, 1) := by decide +kernel
theorem dX0_point_97 : decode cX0_point 97 = .ok (.iconst 0, 1) := by decide +kernel
theorem dX0_point_98 : decode cX0_point 98 = .ok (.putfield 55, 3) := by decide +kernel
theorem dX0_point_101 : decode cX0_point 101 = .ok (.iload 5, 2) := by decide +kernel
theorem dX0_point_103 : decode cX0_point 103 = .ok (.ireturn, 1) := by decide +kernel
set_option maxRecDepth 20000 in
theorem ggX0_next_X0_isPoint : GoodIn wsX0_next wsX0_isPoint := goodIn_r _ [8, 9, 13, 14, 15, 16, 17, 18, 19, 20, 21, 22, 23, 24, 25, 26, 27, 28, 29, 30] (by decide +kernel) (by decide +kernel)
set_option maxRecDepth 20000 in
theorem gX0_next_X0_isPoint : GoodIn wsX0_next (wsV RX0 70 RX0 yX0_isPoint wsX0_isPoint) := goodIn_app (goodIn_of _ (by decide +kernel)) ggX0_next_X0_isPoint
set_option maxRecDepth 20000 in
theorem ggX0_next_X0_canBeNext : GoodIn wsX0_next wsX0_canBeNext := goodIn_r _ [12] (by decide +kernel) (by decide +kernel)
set_option maxRecDepth 20000 in
theorem gX0_next_X0_canBeNext : GoodIn wsX0_next (va_wsS RX0 74 yX0_canBeNext wsX0_canBeNext) := goodIn_app (goodIn_of _ (by decide +kernel)) ggX0_next_X0_canBeNext
theorem dX0_next_0 : decode cX0_next 0 = .ok (.aload_n 0, 1) := by decide +kernel
theorem dX0_next_1 : decode cX0_next 1 = .ok (.iload_n 1, 1) := by decide +kernel
theorem dX0_next_2 : decode cX0_next 2 = .ok (.invokevirtual 70, 3) := by decide +kernel
theorem dX0_next_5 : decode cX0_next 5 = .ok (.ifCond .eq 17, 3) := by decide +kernel
theorem dX0_next_8 : decode cX0_next 8 = .ok (.iload_n 2, 1) := by decide +kernel
theorem dX0_next_9 : decode cX0_next 9 = .ok (.invokestatic 74, 3) := by decide +kernel
theorem dX0_next_12 : decode cX0_next 12 = .ok (.ifCond .eq 10, 3) := by decide +kernel
theorem dX0_next_15 : decode cX0_next 15 = .ok (.iload_n 3, 1) := by decide +kernel
theorem dX0_next_16 : decode cX0_next 16 = .ok (.invokestatic 74, 3) := by decide +kernel
theorem dX0_next_19 : decode cX0_next 19 = .ok (.ifCond .ne 5, 3) := by decide +kernel
theorem dX0_next_22 : decode cX0_next 22 = .ok (.iconst 0, 1) := by decide +kernel
theorem dX0_next_23 : decode cX0_next 23 = .ok (.ireturn, 1) := by decide +kernel
theorem dX0_next_24 : decode cX0_next 24 = .ok (.aload_n 0, 1) := by decide +kernel
theorem dX0_next_25 : decode cX0_next 25 = .ok (.getfield 29, 3) := by decide +kernel
theorem dX0_next_28 : decode cX0_next 28 = .ok (.iload_n 1, 1) := by decide +kernel
theorem dX0_next_29 : decode cX0_next 29 = .ok (.iload_n 2, 1) := by decide +kernel
theorem dX0_next_30 : decode cX0_next 30 = .ok (.iastore, 1) := by decide +kernel
theorem dX0_next_31 : decode cX0_next 31 = .ok (.aload_n 0, 1) := by decide +kernel
theorem dX0_next_32 : decode cX0_next 32 = .ok (.getfield 32, 3) := by decide +kernel
theorem dX0_next_35 : decode cX0_next 35 = .ok (.iload_n 1, 1) := by decide +kernel
theorem dX0_next_36 : decode cX0_next 36 = .ok (.iload_n 3, 1) := by decide +kernel
theorem dX0_next_37 : decode cX0_next 37 = .ok (.iastore, 1) := by decide +kernel
theorem dX0_next_38 : decode cX0_next 38 = .ok (.aload_n 0, 1) := by decide +kernel
theorem dX0_next_39 : decode cX0_next 39 = .ok (.iconst 0, 1) := by decide +kernel
theorem dX0_next_40 : decode cX0_next 40 = .ok (.putfield 55, 3) := by decide +kernel
theorem dX0_next_43 : decode cX0_next 43 = .ok (.iconst 1, 1) := by decide +kernel
theorem dX0_next_44 : decode cX0_next 44 = .ok (.ireturn, 1) := by decide +kernel
set_option maxRecDepth 20000 in
theorem ggX0_isReached_X0_isPoint : GoodIn wsX0_isReached wsX0_isPoint := goodIn_r _ [6, 7, 69, 70, 71, 72, 73, 74, 75, 76, 77, 78, 79, 80, 81, 82, 83, 84, 85, 86] (by decide +kernel) (by decide +kernel)
set_option maxRecDepth 20000 in
theorem gX0_isReached_X0_isPoint : GoodIn wsX0_isReached (wsV RX0 70 RX0 yX0_isPoint wsX0_isPoint) := goodIn_app (goodIn_of _ (by decide +kernel)) ggX0_isReached_X0_isPoint
set_option maxRecDepth 20000 in
theorem ggX0_isReached_X0_solve : GoodIn wsX0_isReached wsX0_solve := goodIn_r _ [11, 12, 13, 14, 15, 16, 17, 18, 19, 5, 20, 21, 7, 1, 22, 23, 24, 25, 26, 27, 28, 29, 30, 31, 32, 33, 34, 35, 36, 37, 38, 39, 40, 41, 42, 43, 44, 45, 46, 47, 48, 49, 50, 51, 2, 3, 4, 6, 52, 53, 54, 55, 56, 57, 58, 59, 60, 61, 62, 63, 64, 65, 66, 67, 68, 69, 70, 71, 72, 73, 74, 75, 76, 77, 78, 79, 80, 81, 82, 83, 84, 85, 86] (by decide +kernel) (by decide +kernel)
set_option maxRecDepth 20000 in
theorem gX0_isReached_X0_solve : GoodIn wsX0_isReached (wsV RX0 77 RX0 yX0_solve wsX0_solve) := goodIn_app (goodIn_of _ (by decide +kernel)) ggX0_isReached_X0_solve
theorem dX0_isReached_0 : decode cX0_isReached 0 = .ok (.aload_n 0, 1) := by decide +kernel
theorem dX0_isReached_1 : decode cX0_isReached 1 = .ok (.iload_n 1, 1) := by decide +kernel
theorem dX0_isReached_2 : decode cX0_isReached 2 = .ok (.invokevirtual 70, 3) := by decide +kernel
theorem dX0_isReached_5 : decode cX0_isReached 5 = .ok (.ifCond .ne 5, 3) := by decide +kernel
theorem dX0_isReached_8 : decode cX0_isReached 8 = .ok (.iconst 0, 1) := by decide +kernel
theorem dX0_isReached_9 : decode cX0_isReached 9 = .ok (.ireturn, 1) := by decide +kernel
theorem dX0_isReached_10 : decode cX0_isReached 10 = .ok (.aload_n 0, 1) := by decide +kernel
theorem dX0_isReached_11 : decode cX0_isReached 11 = .ok (.invokevirtual 77, 3) := by decide +kernel
theorem dX0_isReached_14 : decode cX0_isReached 14 = .ok (.aload_n 0, 1) := by decide +kernel
theorem dX0_isReached_15 : decode cX0_isReached 15 = .ok (.getfield 35, 3) := by decide +kernel
theorem dX0_isReached_18 : decode cX0_isReached 18 = .ok (.iload_n 1, 1) := by decide +kernel
theorem dX0_isReached_19 : decode cX0_isReached 19 = .ok (.baload, 1) := by decide +kernel
theorem dX0_isReached_20 : decode cX0_isReached 20 = .ok (.ireturn, 1) := by decide +kernel
set_option maxRecDepth 20000 in
theorem ggX0_without_X0_bitsAhead : GoodIn wsX0_without wsX0_bitsAhead := goodIn_r _ [5, 6, 7, 8, 4, 9, 10, 11, 12, 13, 14, 15, 16, 17, 18, 19, 20, 21, 22, 23, 24, 25, 26, 27, 28, 29, 30, 31, 32, 33, 34, 35, 36, 37, 38, 39, 40, 41, 42, 43, 44, 45, 46, 47, 48, 49, 50, 51, 52, 53, 54, 55, 56, 57, 58, 59, 60, 61, 62, 63, 64, 65, 66, 67, 68, 69, 70, 71, 72, 73, 74, 75, 76, 77, 78, 79, 80, 81, 82, 83, 84, 85, 86, 87, 88, 89, 90, 91, 92, 93, 94, 95, 96, 97, 98] (by decide +kernel) (by decide +kernel)
set_option maxRecDepth 20000 in
theorem gX0_without_X0_bitsAhead : GoodIn wsX0_without (wsV RX0 80 RX0 yX0_bitsAhead wsX0_bitsAhead) := goodIn_app (goodIn_of _ (by decide +kernel)) ggX0_without_X0_bitsAhead
theorem dX0_without_0 : decode cX0_without 0 = .ok (.aload_n 0, 1) := by decide +kernel
theorem dX0_without_1 : decode cX0_without 1 = .ok (.iload_n 1, 1) := by decide +kernel
theorem dX0_without_2 : decode cX0_without 2 = .ok (.iload_n 2, 1) := by decide +kernel
theorem dX0_without_3 : decode cX0_without 3 = .ok (.iconst 0, 1) := by decide +kernel
theorem dX0_without_4 : decode cX0_without 4 = .ok (.invokevirtual 80, 3) := by decide +kernel
theorem dX0_without_7 : decode cX0_without 7 = .ok (.ireturn, 1) := by decide +kernel
set_option maxRecDepth 20000 in
theorem ggX0_having_X0_bitsAhead : GoodIn wsX0_having wsX0_bitsAhead := goodIn_r _ [5, 6, 7, 8, 4, 9, 10, 11, 12, 13, 14, 15, 16, 17, 18, 19, 20, 21, 22, 23, 24, 25, 26, 27, 28, 29, 30, 31, 32, 33, 34, 35, 36, 37, 38, 39, 40, 41, 42, 43, 44, 45, 46, 47, 48, 49, 50, 51, 52, 53, 54, 55, 56, 57, 58, 59, 60, 61, 62, 63, 64, 65, 66, 67, 68, 69, 70, 71, 72, 73, 74, 75, 76, 77, 78, 79, 80, 81, 82, 83, 84, 85, 86, 87, 88, 89, 90, 91, 92, 93, 94, 95, 96, 97, 98] (by decide +kernel) (by decide +kernel)
set_option maxRecDepth 20000 in
theorem gX0_having_X0_bitsAhead : GoodIn wsX0_having (wsV RX0 80 RX0 yX0_bitsAhead wsX0_bitsAhead) := goodIn_app (goodIn_of _ (by decide +kernel)) ggX0_having_X0_bitsAhead
theorem dX0_having_0 : decode cX0_having 0 = .ok (.aload_n 0, 1) := by decide +kernel
theorem dX0_having_1 : decode cX0_having 1 = .ok (.iload_n 1, 1) := by decide +kernel
theorem dX0_having_2 : decode cX0_having 2 = .ok (.iload_n 2, 1) := by decide +kernel
theorem dX0_having_3 : decode cX0_having 3 = .ok (.iconst 3, 1) := by decide +kernel
theorem dX0_having_4 : decode cX0_having 4 = .ok (.invokevirtual 80, 3) := by decide +kernel
theorem dX0_having_7 : decode cX0_having 7 = .ok (.ireturn, 1) := by decide +kernel
set_option maxRecDepth 20000 in
theorem ggX0_fault_X0_isPoint : GoodIn wsX0_fault wsX0_isPoint := goodIn_r _ [5, 6, 78, 79, 80, 81, 82, 83, 84, 85, 86, 87, 88, 89, 90, 91, 92, 93, 94, 95] (by decide +kernel) (by decide +kernel)
set_option maxRecDepth 20000 in
theorem gX0_fault_X0_isPoint : GoodIn wsX0_fault (wsV RX0 70 RX0 yX0_isPoint wsX0_isPoint) := goodIn_app (goodIn_of _ (by decide +kernel)) ggX0_fault_X0_isPoint
set_option maxRecDepth 20000 in
theorem ggX0_fault_X0_solve : GoodIn wsX0_fault wsX0_solve := goodIn_r _ [10, 11, 12, 13, 14, 15, 16, 17, 18, 4, 19, 20, 6, 21, 22, 23, 24, 25, 26, 27, 28, 29, 30, 31, 32, 33, 34, 35, 36, 37, 38, 39, 40, 41, 42, 43, 44, 45, 46, 47, 48, 49, 50, 51, 1, 2, 3, 5, 52, 53, 54, 55, 56, 57, 58, 59, 60, 61, 62, 63, 64, 65, 66, 67, 68, 78, 79, 80, 81, 82, 83, 84, 85, 86, 87, 88, 89, 90, 91, 92, 93, 94, 95] (by decide +kernel) (by decide +kernel)
set_option maxRecDepth 20000 in
theorem gX0_fault_X0_solve : GoodIn wsX0_fault (wsV RX0 77 RX0 yX0_solve wsX0_solve) := goodIn_app (goodIn_of _ (by decide +kernel)) ggX0_fault_X0_solve
set_option maxRecDepth 20000 in
theorem ggX0_fault_X0_faultOfPoint : GoodIn wsX0_fault wsX0_faultOfPoint := goodIn_r _ [72, 21, 65, 66, 67, 73, 74, 75, 76, 4, 77, 23, 31, 32, 33, 45, 46, 47, 39, 40, 41, 34, 35, 36, 37, 38, 78, 79, 80, 81, 82, 83, 84, 85, 86, 87, 88, 89, 90, 91, 92, 93, 94, 95] (by decide +kernel) (by decide +kernel)
set_option maxRecDepth 20000 in
theorem gX0_fault_X0_faultOfPoint : GoodIn wsX0_fault (wsV RX0 84 RX0 yX0_faultOfPoint wsX0_faultOfPoint) := goodIn_app (goodIn_of _ (by decide +kernel)) ggX0_fault_X0_faultOfPoint
theorem dX0_fault_0 : decode cX0_fault 0 = .ok (.aload_n 0, 1) := by decide +kernel
theorem dX0_fault_1 : decode cX0_fault 1 = .ok (.iload_n 1, 1) := by decide +kernel
theorem dX0_fault_2 : decode cX0_fault 2 = .ok (.invokevirtual 70, 3) := by decide +kernel
theorem dX0_fault_5 : decode cX0_fault 5 = .ok (.ifCond .ne 5, 3) := by decide +kernel
theorem dX0_fault_8 : decode cX0_fault 8 = .ok (.iconst (-1), 1) := by decide +kernel
theorem dX0_fault_9 : decode cX0_fault 9 = .ok (.ireturn, 1) := by decide +kernel
theorem dX0_fault_10 : decode cX0_fault 10 = .ok (.aload_n 0, 1) := by decide +kernel
theorem dX0_fault_11 : decode cX0_fault 11 = .ok (.invokevirtual 77, 3) := by decide +kernel
theorem dX0_fault_14 : decode cX0_fault 14 = .ok (.aload_n 0, 1) := by decide +kernel
theorem dX0_fault_15 : decode cX0_fault 15 = .ok (.iload_n 1, 1) := by decide +kernel
theorem dX0_fault_16 : decode cX0_fault 16 = .ok (.invokevirtual 84, 3) := by decide +kernel
theorem dX0_fault_19 : decode cX0_fault 19 = .ok (.ireturn, 1) := by decide +kernel
set_option maxRecDepth 20000 in
theorem ggX0_count_X0_countReached : GoodIn wsX0_count wsX0_countReached := goodIn_r _ [7, 1, 8, 9, 10, 11, 6, 12, 13, 14, 15, 16, 17, 18, 19, 20, 21, 22, 23, 24, 25, 26, 27, 28, 29, 2, 30, 31, 32, 33, 34, 35, 36, 37, 38, 39, 40, 41, 42, 43, 44, 45, 46, 47, 48, 49, 50, 51, 52, 53, 54, 55, 56, 57, 58, 59, 60, 61, 62, 63, 64, 65, 66, 67, 68, 69, 70, 71, 72, 94, 95, 96, 97, 98, 99, 100, 101, 102, 103, 104, 105, 106, 107, 108, 109, 110, 111] (by decide +kernel) (by decide +kernel)
set_option maxRecDepth 20000 in
theorem gX0_count_X0_countReached : GoodIn wsX0_count (wsV RX0 88 RX0 yX0_countReached wsX0_countReached) := goodIn_app (goodIn_of _ (by decide +kernel)) ggX0_count_X0_countReached
set_option maxRecDepth 20000 in
theorem ggX0_count_X0_countFaults : GoodIn wsX0_count wsX0_countFaults := goodIn_r _ [76, 1, 9, 10, 11, 6, 12, 13, 14, 15, 16, 17, 18, 19, 20, 21, 22, 8, 23, 24, 25, 26, 27, 28, 29, 2, 30, 31, 32, 33, 34, 35, 36, 37, 38, 39, 40, 41, 42, 43, 44, 45, 46, 47, 48, 49, 50, 51, 52, 53, 54, 55, 56, 57, 58, 59, 60, 61, 62, 63, 64, 65, 66, 67, 68, 69, 70, 71, 72, 77, 78, 79, 80, 81, 82, 83, 84, 85, 94, 95, 96, 97, 98, 99, 100, 101, 102, 103, 104, 105, 106, 107, 108, 109, 110, 111] (by decide +kernel) (by decide +kernel)
set_option maxRecDepth 20000 in
theorem gX0_count_X0_countFaults : GoodIn wsX0_count (wsV RX0 92 RX0 yX0_countFaults wsX0_countFaults) := goodIn_app (goodIn_of _ (by decide +kernel)) ggX0_count_X0_countFaults
set_option maxRecDepth 20000 in
theorem ggX0_count_X0_firstFault : GoodIn wsX0_count wsX0_firstFault := goodIn_r _ [89, 1, 9, 10, 11, 6, 12, 13, 14, 15, 16, 17, 18, 19, 20, 21, 22, 8, 23, 24, 25, 26, 27, 28, 29, 2, 30, 31, 32, 33, 34, 35, 36, 37, 38, 39, 40, 41, 42, 43, 44, 45, 46, 47, 48, 49, 50, 51, 52, 53, 54, 55, 56, 57, 58, 59, 60, 61, 62, 63, 64, 65, 66, 67, 68, 69, 70, 71, 72, 77, 78, 79, 80, 81, 82, 83, 84, 85, 94, 95, 96, 97, 98, 99, 100, 101, 102, 103, 104, 105, 106, 107, 108, 109, 110, 111] (by decide +kernel) (by decide +kernel)
set_option maxRecDepth 20000 in
theorem gX0_count_X0_firstFault : GoodIn wsX0_count (wsV RX0 95 RX0 yX0_firstFault wsX0_firstFault) := goodIn_app (goodIn_of _ (by decide +kernel)) ggX0_count_X0_firstFault
set_option maxRecDepth 20000 in
theorem ggX0_count_X0_countParts : GoodIn wsX0_count wsX0_countParts := goodIn_r _ [93, 2, 38, 94, 95, 96, 97, 98, 99, 100, 101, 102, 103, 104, 105, 106, 107, 108, 109, 110, 111] (by decide +kernel) (by decide +kernel)
set_option maxRecDepth 20000 in
theorem gX0_count_X0_countParts : GoodIn wsX0_count (wsV RX0 98 RX0 yX0_countParts wsX0_countParts) := goodIn_app (goodIn_of _ (by decide +kernel)) ggX0_count_X0_countParts
theorem dX0_count_0 : decode cX0_count 0 = .ok (.iload_n 1, 1) := by decide +kernel
theorem dX0_count_1 : decode cX0_count 1 = .ok (.tableswitch 69 0 5 #[39, 44, 49, 54, 59, 64], 39) := by decide +kernel
theorem dX0_count_40 : decode cX0_count 40 = .ok (.aload_n 0, 1) := by decide +kernel
theorem dX0_count_41 : decode cX0_count 41 = .ok (.getfield 59, 3) := by decide +kernel
theorem dX0_count_44 : decode cX0_count 44 = .ok (.ireturn, 1) := by decide +kernel
theorem dX0_count_45 : decode cX0_count 45 = .ok (.aload_n 0, 1) := by decide +kernel
theorem dX0_count_46 : decode cX0_count 46 = .ok (.invokevirtual 88, 3) := by decide +kernel
theorem dX0_count_49 : decode cX0_count 49 = .ok (.ireturn, 1) := by decide +kernel
theorem dX0_count_50 : decode cX0_count 50 = .ok (.aload_n 0, 1) := by decide +kernel
theorem dX0_count_51 : decode cX0_count 51 = .ok (.invokevirtual 92, 3) := by decide +kernel
theorem dX0_count_54 : decode cX0_count 54 = .ok (.ireturn, 1) := by decide +kernel
theorem dX0_count_55 : decode cX0_count 55 = .ok (.aload_n 0, 1) := by decide +kernel
theorem dX0_count_56 : decode cX0_count 56 = .ok (.invokevirtual 95, 3) := by decide +kernel
theorem dX0_count_59 : decode cX0_count 59 = .ok (.ireturn, 1) := by decide +kernel
theorem dX0_count_60 : decode cX0_count 60 = .ok (.aload_n 0, 1) := by decide +kernel
theorem dX0_count_61 : decode cX0_count 61 = .ok (.getfield 51, 3) := by decide +kernel
theorem dX0_count_64 : decode cX0_count 64 = .ok (.ireturn, 1) := by decide +kernel
theorem dX0_count_65 : decode cX0_count 65 = .ok (.aload_n 0, 1) := by decide +kernel
theorem dX0_count_66 : decode cX0_count 66 = .ok (.invokevirtual 98, 3) := by decide +kernel
theorem dX0_count_69 : decode cX0_count 69 = .ok (.ireturn, 1) := by decide +kernel
theorem dX0_count_70 : decode cX0_count 70 = .ok (.iconst (-1), 1) := by decide +kernel
theorem dX0_count_71 : decode cX0_count 71 = .ok (.ireturn, 1) := by decide +kernel
theorem dX0_clear_0 : decode cX0_clear 0 = .ok (.aload_n 0, 1) := by decide +kernel
theorem dX0_clear_1 : decode cX0_clear 1 = .ok (.getfield 59, 3) := by decide +kernel
theorem dX0_clear_4 : decode cX0_clear 4 = .ok (.istore_n 1, 1) := by decide +kernel
theorem dX0_clear_5 : decode cX0_clear 5 = .ok (.aload_n 0, 1) := by decide +kernel
theorem dX0_clear_6 : decode cX0_clear 6 = .ok (.iconst 0, 1) := by decide +kernel
theorem dX0_clear_7 : decode cX0_clear 7 = .ok (.putfield 59, 3) := by decide +kernel
theorem dX0_clear_10 : decode cX0_clear 10 = .ok (.aload_n 0, 1) := by decide +kernel
theorem dX0_clear_11 : decode cX0_clear 11 = .ok (.iconst 0, 1) := by decide +kernel
theorem dX0_clear_12 : decode cX0_clear 12 = .ok (.putfield 55, 3) := by decide +kernel
theorem dX0_clear_15 : decode cX0_clear 15 = .ok (.iload_n 1, 1) := by decide +kernel
theorem dX0_clear_16 : decode cX0_clear 16 = .ok (.ireturn, 1) := by decide +kernel
theorem dX0_isPoint_0 : decode cX0_isPoint 0 = .ok (.iload_n 1, 1) := by decide +kernel
theorem dX0_isPoint_1 : decode cX0_isPoint 1 = .ok (.ifCond .lt 15, 3) := by decide +kernel
theorem dX0_isPoint_4 : decode cX0_isPoint 4 = .ok (.iload_n 1, 1) := by decide +kernel
theorem dX0_isPoint_5 : decode cX0_isPoint 5 = .ok (.aload_n 0, 1) := by decide +kernel
theorem dX0_isPoint_6 : decode cX0_isPoint 6 = .ok (.getfield 59, 3) := by decide +kernel
theorem dX0_isPoint_9 : decode cX0_isPoint 9 = .ok (.if_icmp .ge 7, 3) := by decide +kernel
theorem dX0_isPoint_12 : decode cX0_isPoint 12 = .ok (.iconst 1, 1) := by decide +kernel
theorem dX0_isPoint_13 : decode cX0_isPoint 13 = .ok (.goto 4, 3) := by decide +kernel
theorem dX0_isPoint_16 : decode cX0_isPoint 16 = .ok (.iconst 0, 1) := by decide +kernel
theorem dX0_isPoint_17 : decode cX0_isPoint 17 = .ok (.ireturn, 1) := by decide +kernel
theorem dX0_isVariable_0 : decode cX0_isVariable 0 = .ok (.iload_n 1, 1) := by decide +kernel
theorem dX0_isVariable_1 : decode cX0_isVariable 1 = .ok (.ifCond .lt 15, 3) := by decide +kernel
theorem dX0_isVariable_4 : decode cX0_isVariable 4 = .ok (.iload_n 1, 1) := by decide +kernel
theorem dX0_isVariable_5 : decode cX0_isVariable 5 = .ok (.aload_n 0, 1) := by decide +kernel
theorem dX0_isVariable_6 : decode cX0_isVariable 6 = .ok (.getfield 51, 3) := by decide +kernel
theorem dX0_isVariable_9 : decode cX0_isVariable 9 = .ok (.if_icmp .ge 7, 3) := by decide +kernel
theorem dX0_isVariable_12 : decode cX0_isVariable 12 = .ok (.iconst 1, 1) := by decide +kernel
theorem dX0_isVariable_13 : decode cX0_isVariable 13 = .ok (.goto 4, 3) := by decide +kernel
theorem dX0_isVariable_16 : decode cX0_isVariable 16 = .ok (.iconst 0, 1) := by decide +kernel
theorem dX0_isVariable_17 : decode cX0_isVariable 17 = .ok (.ireturn, 1) := by decide +kernel
theorem dX0_canBeNext_0 : decode cX0_canBeNext 0 = .ok (.iload_n 0, 1) := by decide +kernel
theorem dX0_canBeNext_1 : decode cX0_canBeNext 1 = .ok (.iconst (-1), 1) := by decide +kernel
theorem dX0_canBeNext_2 : decode cX0_canBeNext 2 = .ok (.if_icmp .lt 13, 3) := by decide +kernel
theorem dX0_canBeNext_5 : decode cX0_canBeNext 5 = .ok (.iload_n 0, 1) := by decide +kernel
theorem dX0_canBeNext_6 : decode cX0_canBeNext 6 = .ok (.bipush 120, 2) := by decide +kernel
theorem dX0_canBeNext_8 : decode cX0_canBeNext 8 = .ok (.if_icmp .ge 7, 3) := by decide +kernel
theorem dX0_canBeNext_11 : decode cX0_canBeNext 11 = .ok (.iconst 1, 1) := by decide +kernel
theorem dX0_canBeNext_12 : decode cX0_canBeNext 12 = .ok (.goto 4, 3) := by decide +kernel
theorem dX0_canBeNext_15 : decode cX0_canBeNext 15 = .ok (.iconst 0, 1) := by decide +kernel
theorem dX0_canBeNext_16 : decode cX0_canBeNext 16 = .ok (.ireturn, 1) := by decide +kernel
set_option maxRecDepth 20000 in
theorem ggX0_isDoing_X0_isVariable : GoodIn wsX0_isDoing wsX0_isVariable := goodIn_r _ [6, 7, 11, 12, 13, 14, 15, 16, 17, 18, 19, 20, 21, 22, 23, 24, 25, 26, 27, 28] (by decide +kernel) (by decide +kernel)
set_option maxRecDepth 20000 in
theorem gX0_isDoing_X0_isVariable : GoodIn wsX0_isDoing (wsV RX0 101 RX0 yX0_isVariable wsX0_isVariable) := goodIn_app (goodIn_of _ (by decide +kernel)) ggX0_isDoing_X0_isVariable
set_option maxRecDepth 20000 in
theorem ggX0_isDoing_X0_isOfSomeParts : GoodIn wsX0_isDoing wsX0_isOfSomeParts := goodIn_r _ [10] (by decide +kernel) (by decide +kernel)
set_option maxRecDepth 20000 in
theorem gX0_isDoing_X0_isOfSomeParts : GoodIn wsX0_isDoing (va_wsS RX0 104 yX0_isOfSomeParts wsX0_isOfSomeParts) := goodIn_app (goodIn_of _ (by decide +kernel)) ggX0_isDoing_X0_isOfSomeParts
theorem dX0_isDoing_0 : decode cX0_isDoing 0 = .ok (.iload_n 1, 1) := by decide +kernel
theorem dX0_isDoing_1 : decode cX0_isDoing 1 = .ok (.ifCond .lt 8, 3) := by decide +kernel
theorem dX0_isDoing_4 : decode cX0_isDoing 4 = .ok (.iload_n 1, 1) := by decide +kernel
theorem dX0_isDoing_5 : decode cX0_isDoing 5 = .ok (.iconst 5, 1) := by decide +kernel
theorem dX0_isDoing_6 : decode cX0_isDoing 6 = .ok (.if_icmp .le 5, 3) := by decide +kernel
theorem dX0_isDoing_9 : decode cX0_isDoing 9 = .ok (.iconst 0, 1) := by decide +kernel
theorem dX0_isDoing_10 : decode cX0_isDoing 10 = .ok (.ireturn, 1) := by decide +kernel
theorem dX0_isDoing_11 : decode cX0_isDoing 11 = .ok (.iload_n 1, 1) := by decide +kernel
theorem dX0_isDoing_12 : decode cX0_isDoing 12 = .ok (.ifCond .ne 5, 3) := by decide +kernel
theorem dX0_isDoing_15 : decode cX0_isDoing 15 = .ok (.iconst 1, 1) := by decide +kernel
theorem dX0_isDoing_16 : decode cX0_isDoing 16 = .ok (.ireturn, 1) := by decide +kernel
theorem dX0_isDoing_17 : decode cX0_isDoing 17 = .ok (.aload_n 0, 1) := by decide +kernel
theorem dX0_isDoing_18 : decode cX0_isDoing 18 = .ok (.iload_n 2, 1) := by decide +kernel
theorem dX0_isDoing_19 : decode cX0_isDoing 19 = .ok (.invokevirtual 101, 3) := by decide +kernel
theorem dX0_isDoing_22 : decode cX0_isDoing 22 = .ok (.ifCond .ne 5, 3) := by decide +kernel
theorem dX0_isDoing_25 : decode cX0_isDoing 25 = .ok (.iconst 0, 1) := by decide +kernel
theorem dX0_isDoing_26 : decode cX0_isDoing 26 = .ok (.ireturn, 1) := by decide +kernel
theorem dX0_isDoing_27 : decode cX0_isDoing 27 = .ok (.iload_n 1, 1) := by decide +kernel
theorem dX0_isDoing_28 : decode cX0_isDoing 28 = .ok (.invokestatic 104, 3) := by decide +kernel
theorem dX0_isDoing_31 : decode cX0_isDoing 31 = .ok (.ifCond .eq 26, 3) := by decide +kernel
theorem dX0_isDoing_34 : decode cX0_isDoing 34 = .ok (.iload_n 3, 1) := by decide +kernel
theorem dX0_isDoing_35 : decode cX0_isDoing 35 = .ok (.ifCond .lt 26, 3) := by decide +kernel
theorem dX0_isDoing_38 : decode cX0_isDoing 38 = .ok (.iload 4, 2) := by decide +kernel
theorem dX0_isDoing_40 : decode cX0_isDoing 40 = .ok (.iconst 1, 1) := by decide +kernel
theorem dX0_isDoing_41 : decode cX0_isDoing 41 = .ok (.if_icmp .lt 20, 3) := by decide +kernel
theorem dX0_isDoing_44 : decode cX0_isDoing 44 = .ok (.iload_n 3, 1) := by decide +kernel
theorem dX0_isDoing_45 : decode cX0_isDoing 45 = .ok (.aload_n 0, 1) := by decide +kernel
theorem dX0_isDoing_46 : decode cX0_isDoing 46 = .ok (.getfield 9, 3) := by decide +kernel
theorem dX0_isDoing_49 : decode cX0_isDoing 49 = .ok (.iload_n 2, 1) := by decide +kernel
theorem dX0_isDoing_50 : decode cX0_isDoing 50 = .ok (.iaload, 1) := by decide +kernel
theorem dX0_isDoing_51 : decode cX0_isDoing 51 = .ok (.iload 4, 2) := by decide +kernel
theorem dX0_isDoing_53 : decode cX0_isDoing 53 = .ok (.isub, 1) := by decide +kernel
theorem dX0_isDoing_54 : decode cX0_isDoing 54 = .ok (.if_icmp .gt 7, 3) := by decide +kernel
theorem dX0_isDoing_57 : decode cX0_isDoing 57 = .ok (.iconst 1, 1) := by decide +kernel
theorem dX0_isDoing_58 : decode cX0_isDoing 58 = .ok (.goto 4, 3) := by decide +kernel
theorem dX0_isDoing_61 : decode cX0_isDoing 61 = .ok (.iconst 0, 1) := by decide +kernel
theorem dX0_isDoing_62 : decode cX0_isDoing 62 = .ok (.ireturn, 1) := by decide +kernel
theorem dX0_isOfSomeParts_0 : decode cX0_isOfSomeParts 0 = .ok (.iload_n 0, 1) := by decide +kernel
theorem dX0_isOfSomeParts_1 : decode cX0_isOfSomeParts 1 = .ok (.iconst 1, 1) := by decide +kernel
theorem dX0_isOfSomeParts_2 : decode cX0_isOfSomeParts 2 = .ok (.if_icmp .eq 13, 3) := by decide +kernel
theorem dX0_isOfSomeParts_5 : decode cX0_isOfSomeParts 5 = .ok (.iload_n 0, 1) := by decide +kernel
theorem dX0_isOfSomeParts_6 : decode cX0_isOfSomeParts 6 = .ok (.iconst 2, 1) := by decide +kernel
theorem dX0_isOfSomeParts_7 : decode cX0_isOfSomeParts 7 = .ok (.if_icmp .eq 8, 3) := by decide +kernel
theorem dX0_isOfSomeParts_10 : decode cX0_isOfSomeParts 10 = .ok (.iload_n 0, 1) := by decide +kernel
theorem dX0_isOfSomeParts_11 : decode cX0_isOfSomeParts 11 = .ok (.iconst 3, 1) := by decide +kernel
theorem dX0_isOfSomeParts_12 : decode cX0_isOfSomeParts 12 = .ok (.if_icmp .ne 7, 3) := by decide +kernel
theorem dX0_isOfSomeParts_15 : decode cX0_isOfSomeParts 15 = .ok (.iconst 1, 1) := by decide +kernel
theorem dX0_isOfSomeParts_16 : decode cX0_isOfSomeParts 16 = .ok (.goto 4, 3) := by decide +kernel
theorem dX0_isOfSomeParts_19 : decode cX0_isOfSomeParts 19 = .ok (.iconst 0, 1) := by decide +kernel
theorem dX0_isOfSomeParts_20 : decode cX0_isOfSomeParts 20 = .ok (.ireturn, 1) := by decide +kernel
set_option maxRecDepth 20000 in
theorem ggX0_bitsOfDoing_X0_isOfSomeParts : GoodIn wsX0_bitsOfDoing wsX0_isOfSomeParts := goodIn_r _ [4] (by decide +kernel) (by decide +kernel)
set_option maxRecDepth 20000 in
theorem gX0_bitsOfDoing_X0_isOfSomeParts : GoodIn wsX0_bitsOfDoing (va_wsS RX0 104 yX0_isOfSomeParts wsX0_isOfSomeParts) := goodIn_app (goodIn_of _ (by decide +kernel)) ggX0_bitsOfDoing_X0_isOfSomeParts
set_option maxRecDepth 20000 in
theorem ggX0_bitsOfDoing_X0_lowBits : GoodIn wsX0_bitsOfDoing wsX0_lowBits := goodIn_r _ [7] (by decide +kernel) (by decide +kernel)
set_option maxRecDepth 20000 in
theorem gX0_bitsOfDoing_X0_lowBits : GoodIn wsX0_bitsOfDoing (va_wsS RX0 107 yX0_lowBits wsX0_lowBits) := goodIn_app (goodIn_of _ (by decide +kernel)) ggX0_bitsOfDoing_X0_lowBits
set_option maxRecDepth 20000 in
theorem ggX0_bitsOfDoing_X0_allParts : GoodIn wsX0_bitsOfDoing wsX0_allParts := goodIn_r _ [11, 12, 5, 6, 3, 7, 13, 14, 15, 16, 17, 18, 19, 20, 21, 22, 23, 24, 25, 26, 27, 28, 29, 30] (by decide +kernel) (by decide +kernel)
set_option maxRecDepth 20000 in
theorem gX0_bitsOfDoing_X0_allParts : GoodIn wsX0_bitsOfDoing (wsV RX0 110 RX0 yX0_allParts wsX0_allParts) := goodIn_app (goodIn_of _ (by decide +kernel)) ggX0_bitsOfDoing_X0_allParts
theorem dX0_bitsOfDoing_0 : decode cX0_bitsOfDoing 0 = .ok (.iload_n 1, 1) := by decide +kernel
theorem dX0_bitsOfDoing_1 : decode cX0_bitsOfDoing 1 = .ok (.ifCond .ne 5, 3) := by decide +kernel
theorem dX0_bitsOfDoing_4 : decode cX0_bitsOfDoing 4 = .ok (.iconst 0, 1) := by decide +kernel
theorem dX0_bitsOfDoing_5 : decode cX0_bitsOfDoing 5 = .ok (.ireturn, 1) := by decide +kernel
theorem dX0_bitsOfDoing_6 : decode cX0_bitsOfDoing 6 = .ok (.iload_n 1, 1) := by decide +kernel
theorem dX0_bitsOfDoing_7 : decode cX0_bitsOfDoing 7 = .ok (.invokestatic 104, 3) := by decide +kernel
theorem dX0_bitsOfDoing_10 : decode cX0_bitsOfDoing 10 = .ok (.ifCond .eq 13, 3) := by decide +kernel
theorem dX0_bitsOfDoing_13 : decode cX0_bitsOfDoing 13 = .ok (.iload 4, 2) := by decide +kernel
theorem dX0_bitsOfDoing_15 : decode cX0_bitsOfDoing 15 = .ok (.invokestatic 107, 3) := by decide +kernel
theorem dX0_bitsOfDoing_18 : decode cX0_bitsOfDoing 18 = .ok (.iload_n 3, 1) := by decide +kernel
theorem dX0_bitsOfDoing_19 : decode cX0_bitsOfDoing 19 = .ok (.ishl, 1) := by decide +kernel
theorem dX0_bitsOfDoing_20 : decode cX0_bitsOfDoing 20 = .ok (.goto 8, 3) := by decide +kernel
theorem dX0_bitsOfDoing_23 : decode cX0_bitsOfDoing 23 = .ok (.aload_n 0, 1) := by decide +kernel
theorem dX0_bitsOfDoing_24 : decode cX0_bitsOfDoing 24 = .ok (.iload_n 2, 1) := by decide +kernel
theorem dX0_bitsOfDoing_25 : decode cX0_bitsOfDoing 25 = .ok (.invokevirtual 110, 3) := by decide +kernel
theorem dX0_bitsOfDoing_28 : decode cX0_bitsOfDoing 28 = .ok (.ireturn, 1) := by decide +kernel
theorem dX0_lowBits_0 : decode cX0_lowBits 0 = .ok (.iconst 1, 1) := by decide +kernel
theorem dX0_lowBits_1 : decode cX0_lowBits 1 = .ok (.iload_n 0, 1) := by decide +kernel
theorem dX0_lowBits_2 : decode cX0_lowBits 2 = .ok (.ishl, 1) := by decide +kernel
theorem dX0_lowBits_3 : decode cX0_lowBits 3 = .ok (.iconst 1, 1) := by decide +kernel
theorem dX0_lowBits_4 : decode cX0_lowBits 4 = .ok (.isub, 1) := by decide +kernel
theorem dX0_lowBits_5 : decode cX0_lowBits 5 = .ok (.ireturn, 1) := by decide +kernel
set_option maxRecDepth 20000 in
theorem ggX0_allParts_X0_lowBits : GoodIn wsX0_allParts wsX0_lowBits := goodIn_r _ [5] (by decide +kernel) (by decide +kernel)
set_option maxRecDepth 20000 in
theorem gX0_allParts_X0_lowBits : GoodIn wsX0_allParts (va_wsS RX0 107 yX0_lowBits wsX0_lowBits) := goodIn_app (goodIn_of _ (by decide +kernel)) ggX0_allParts_X0_lowBits
theorem dX0_allParts_0 : decode cX0_allParts 0 = .ok (.aload_n 0, 1) := by decide +kernel
theorem dX0_allParts_1 : decode cX0_allParts 1 = .ok (.getfield 9, 3) := by decide +kernel
theorem dX0_allParts_4 : decode cX0_allParts 4 = .ok (.iload_n 1, 1) := by decide +kernel
theorem dX0_allParts_5 : decode cX0_allParts 5 = .ok (.iaload, 1) := by decide +kernel
theorem dX0_allParts_6 : decode cX0_allParts 6 = .ok (.invokestatic 107, 3) := by decide +kernel
theorem dX0_allParts_9 : decode cX0_allParts 9 = .ok (.ireturn, 1) := by decide +kernel
theorem dX0_wordOf_0 : decode cX0_wordOf 0 = .ok (.iload_n 0, 1) := by decide +kernel
theorem dX0_wordOf_1 : decode cX0_wordOf 1 = .ok (.bipush 8, 2) := by decide +kernel
theorem dX0_wordOf_3 : decode cX0_wordOf 3 = .ok (.idiv, 1) := by decide +kernel
theorem dX0_wordOf_4 : decode cX0_wordOf 4 = .ok (.ireturn, 1) := by decide +kernel
theorem dX0_shiftOf_0 : decode cX0_shiftOf 0 = .ok (.iload_n 0, 1) := by decide +kernel
theorem dX0_shiftOf_1 : decode cX0_shiftOf 1 = .ok (.bipush 8, 2) := by decide +kernel
theorem dX0_shiftOf_3 : decode cX0_shiftOf 3 = .ok (.irem, 1) := by decide +kernel
theorem dX0_shiftOf_4 : decode cX0_shiftOf 4 = .ok (.bipush 8, 2) := by decide +kernel
theorem dX0_shiftOf_6 : decode cX0_shiftOf 6 = .ok (.imul, 1) := by decide +kernel
theorem dX0_shiftOf_7 : decode cX0_shiftOf 7 = .ok (.ireturn, 1) := by decide +kernel
set_option maxRecDepth 20000 in
theorem ggX0_inWord_X0_shiftOf : GoodIn wsX0_inWord wsX0_shiftOf := goodIn_r _ [4] (by decide +kernel) (by decide +kernel)
set_option maxRecDepth 20000 in
theorem gX0_inWord_X0_shiftOf : GoodIn wsX0_inWord (va_wsS RX0 113 yX0_shiftOf wsX0_shiftOf) := goodIn_app (goodIn_of _ (by decide +kernel)) ggX0_inWord_X0_shiftOf
theorem dX0_inWord_0 : decode cX0_inWord 0 = .ok (.iload_n 1, 1) := by decide +kernel
theorem dX0_inWord_1 : decode cX0_inWord 1 = .ok (.i2l, 1) := by decide +kernel
theorem dX0_inWord_2 : decode cX0_inWord 2 = .ok (.iload_n 0, 1) := by decide +kernel
theorem dX0_inWord_3 : decode cX0_inWord 3 = .ok (.invokestatic 113, 3) := by decide +kernel
theorem dX0_inWord_6 : decode cX0_inWord 6 = .ok (.lshl, 1) := by decide +kernel
theorem dX0_inWord_7 : decode cX0_inWord 7 = .ok (.lreturn, 1) := by decide +kernel
set_option maxRecDepth 20000 in
theorem ggX0_bitsAhead_X0_isPoint : GoodIn wsX0_bitsAhead wsX0_isPoint := goodIn_r _ [5, 6, 77, 78, 79, 80, 81, 82, 83, 84, 85, 86, 87, 88, 89, 90, 91, 92, 93, 94] (by decide +kernel) (by decide +kernel)
set_option maxRecDepth 20000 in
theorem gX0_bitsAhead_X0_isPoint : GoodIn wsX0_bitsAhead (wsV RX0 70 RX0 yX0_isPoint wsX0_isPoint) := goodIn_app (goodIn_of _ (by decide +kernel)) ggX0_bitsAhead_X0_isPoint
set_option maxRecDepth 20000 in
theorem ggX0_bitsAhead_X0_isVariable : GoodIn wsX0_bitsAhead wsX0_isVariable := goodIn_r _ [10, 11, 77, 78, 79, 80, 81, 82, 83, 84, 85, 86, 87, 88, 89, 90, 91, 92, 93, 94] (by decide +kernel) (by decide +kernel)
set_option maxRecDepth 20000 in
theorem gX0_bitsAhead_X0_isVariable : GoodIn wsX0_bitsAhead (wsV RX0 101 RX0 yX0_isVariable wsX0_isVariable) := goodIn_app (goodIn_of _ (by decide +kernel)) ggX0_bitsAhead_X0_isVariable
set_option maxRecDepth 20000 in
theorem ggX0_bitsAhead_X0_solve : GoodIn wsX0_bitsAhead wsX0_solve := goodIn_r _ [15, 16, 17, 18, 19, 20, 21, 22, 23, 4, 24, 25, 6, 26, 27, 28, 29, 30, 31, 32, 33, 11, 34, 35, 36, 37, 38, 39, 40, 41, 42, 43, 44, 45, 46, 47, 48, 49, 50, 51, 52, 53, 54, 55, 1, 2, 3, 5, 56, 57, 58, 59, 60, 61, 62, 63, 64, 65, 66, 67, 68, 69, 70, 71, 72, 77, 78, 79, 80, 81, 82, 83, 84, 85, 86, 87, 88, 89, 90, 91, 92, 93, 94] (by decide +kernel) (by decide +kernel)
set_option maxRecDepth 20000 in
theorem gX0_bitsAhead_X0_solve : GoodIn wsX0_bitsAhead (wsV RX0 77 RX0 yX0_solve wsX0_solve) := goodIn_app (goodIn_of _ (by decide +kernel)) ggX0_bitsAhead_X0_solve
set_option maxRecDepth 20000 in
theorem ggX0_bitsAhead_X0_solvedBits : GoodIn wsX0_bitsAhead wsX0_solvedBits := goodIn_r _ [76, 28, 35, 36, 4, 37, 49, 50, 51, 43, 44, 45, 77, 78, 79, 80, 81, 82, 83, 84, 85, 86, 87, 88, 89, 90, 91, 92, 93, 94] (by decide +kernel) (by decide +kernel)
set_option maxRecDepth 20000 in
theorem gX0_bitsAhead_X0_solvedBits : GoodIn wsX0_bitsAhead (wsV RX0 116 RX0 yX0_solvedBits wsX0_solvedBits) := goodIn_app (goodIn_of _ (by decide +kernel)) ggX0_bitsAhead_X0_solvedBits
theorem dX0_bitsAhead_0 : decode cX0_bitsAhead 0 = .ok (.aload_n 0, 1) := by decide +kernel
theorem dX0_bitsAhead_1 : decode cX0_bitsAhead 1 = .ok (.iload_n 1, 1) := by decide +kernel
theorem dX0_bitsAhead_2 : decode cX0_bitsAhead 2 = .ok (.invokevirtual 70, 3) := by decide +kernel
theorem dX0_bitsAhead_5 : decode cX0_bitsAhead 5 = .ok (.ifCond .eq 11, 3) := by decide +kernel
theorem dX0_bitsAhead_8 : decode cX0_bitsAhead 8 = .ok (.aload_n 0, 1) := by decide +kernel
theorem dX0_bitsAhead_9 : decode cX0_bitsAhead 9 = .ok (.iload_n 2, 1) := by decide +kernel
theorem dX0_bitsAhead_10 : decode cX0_bitsAhead 10 = .ok (.invokevirtual 101, 3) := by decide +kernel
theorem dX0_bitsAhead_13 : decode cX0_bitsAhead 13 = .ok (.ifCond .ne 5, 3) := by decide +kernel
theorem dX0_bitsAhead_16 : decode cX0_bitsAhead 16 = .ok (.iconst 0, 1) := by decide +kernel
theorem dX0_bitsAhead_17 : decode cX0_bitsAhead 17 = .ok (.ireturn, 1) := by decide +kernel
theorem dX0_bitsAhead_18 : decode cX0_bitsAhead 18 = .ok (.aload_n 0, 1) := by decide +kernel
theorem dX0_bitsAhead_19 : decode cX0_bitsAhead 19 = .ok (.invokevirtual 77, 3) := by decide +kernel
theorem dX0_bitsAhead_22 : decode cX0_bitsAhead 22 = .ok (.aload_n 0, 1) := by decide +kernel
theorem dX0_bitsAhead_23 : decode cX0_bitsAhead 23 = .ok (.iload_n 1, 1) := by decide +kernel
theorem dX0_bitsAhead_24 : decode cX0_bitsAhead 24 = .ok (.iload_n 2, 1) := by decide +kernel
theorem dX0_bitsAhead_25 : decode cX0_bitsAhead 25 = .ok (.iload_n 3, 1) := by decide +kernel
theorem dX0_bitsAhead_26 : decode cX0_bitsAhead 26 = .ok (.invokevirtual 116, 3) := by decide +kernel
theorem dX0_bitsAhead_29 : decode cX0_bitsAhead 29 = .ok (.ireturn, 1) := by decide +kernel
set_option maxRecDepth 20000 in
theorem ggX0_solvedBits_X0_wordOf : GoodIn wsX0_solvedBits wsX0_wordOf := goodIn_r _ [5] (by decide +kernel) (by decide +kernel)
set_option maxRecDepth 20000 in
theorem gX0_solvedBits_X0_wordOf : GoodIn wsX0_solvedBits (va_wsS RX0 119 yX0_wordOf wsX0_wordOf) := goodIn_app (goodIn_of _ (by decide +kernel)) ggX0_solvedBits_X0_wordOf
set_option maxRecDepth 20000 in
theorem ggX0_solvedBits_X0_shiftOf : GoodIn wsX0_solvedBits wsX0_shiftOf := goodIn_r _ [8] (by decide +kernel) (by decide +kernel)
set_option maxRecDepth 20000 in
theorem gX0_solvedBits_X0_shiftOf : GoodIn wsX0_solvedBits (va_wsS RX0 113 yX0_shiftOf wsX0_shiftOf) := goodIn_app (goodIn_of _ (by decide +kernel)) ggX0_solvedBits_X0_shiftOf
set_option maxRecDepth 20000 in
theorem ggX0_solvedBits_X0_lowBits : GoodIn wsX0_solvedBits wsX0_lowBits := goodIn_r _ [11] (by decide +kernel) (by decide +kernel)
set_option maxRecDepth 20000 in
theorem gX0_solvedBits_X0_lowBits : GoodIn wsX0_solvedBits (va_wsS RX0 107 yX0_lowBits wsX0_lowBits) := goodIn_app (goodIn_of _ (by decide +kernel)) ggX0_solvedBits_X0_lowBits
theorem dX0_solvedBits_0 : decode cX0_solvedBits 0 = .ok (.aload_n 0, 1) := by decide +kernel
theorem dX0_solvedBits_1 : decode cX0_solvedBits 1 = .ok (.getfield 38, 3) := by decide +kernel
theorem dX0_solvedBits_4 : decode cX0_solvedBits 4 = .ok (.iload_n 1, 1) := by decide +kernel
theorem dX0_solvedBits_5 : decode cX0_solvedBits 5 = .ok (.bipush 6, 2) := by decide +kernel
theorem dX0_solvedBits_7 : decode cX0_solvedBits 7 = .ok (.imul, 1) := by decide +kernel
theorem dX0_solvedBits_8 : decode cX0_solvedBits 8 = .ok (.iload_n 3, 1) := by decide +kernel
theorem dX0_solvedBits_9 : decode cX0_solvedBits 9 = .ok (.iadd, 1) := by decide +kernel
theorem dX0_solvedBits_10 : decode cX0_solvedBits 10 = .ok (.iload_n 2, 1) := by decide +kernel
theorem dX0_solvedBits_11 : decode cX0_solvedBits 11 = .ok (.invokestatic 119, 3) := by decide +kernel
theorem dX0_solvedBits_14 : decode cX0_solvedBits 14 = .ok (.iadd, 1) := by decide +kernel
theorem dX0_solvedBits_15 : decode cX0_solvedBits 15 = .ok (.laload, 1) := by decide +kernel
theorem dX0_solvedBits_16 : decode cX0_solvedBits 16 = .ok (.lstore 4, 2) := by decide +kernel
theorem dX0_solvedBits_18 : decode cX0_solvedBits 18 = .ok (.lload 4, 2) := by decide +kernel
theorem dX0_solvedBits_20 : decode cX0_solvedBits 20 = .ok (.iload_n 2, 1) := by decide +kernel
theorem dX0_solvedBits_21 : decode cX0_solvedBits 21 = .ok (.invokestatic 113, 3) := by decide +kernel
theorem dX0_solvedBits_24 : decode cX0_solvedBits 24 = .ok (.lushr, 1) := by decide +kernel
theorem dX0_solvedBits_25 : decode cX0_solvedBits 25 = .ok (.l2i, 1) := by decide +kernel
theorem dX0_solvedBits_26 : decode cX0_solvedBits 26 = .ok (.bipush 8, 2) := by decide +kernel
theorem dX0_solvedBits_28 : decode cX0_solvedBits 28 = .ok (.invokestatic 107, 3) := by decide +kernel
theorem dX0_solvedBits_31 : decode cX0_solvedBits 31 = .ok (.iand, 1) := by decide +kernel
theorem dX0_solvedBits_32 : decode cX0_solvedBits 32 = .ok (.ireturn, 1) := by decide +kernel
set_option maxRecDepth 20000 in
theorem ggX0_faultOfPoint_X0_solvedBits : GoodIn wsX0_faultOfPoint wsX0_solvedBits := goodIn_r _ [10, 11, 12, 13, 9, 14, 15, 16, 17, 18, 19, 20, 26, 27, 28, 29, 30, 31, 32, 33, 34, 35, 36, 37, 38, 39, 40, 41, 42, 43] (by decide +kernel) (by decide +kernel)
set_option maxRecDepth 20000 in
theorem gX0_faultOfPoint_X0_solvedBits : GoodIn wsX0_faultOfPoint (wsV RX0 116 RX0 yX0_solvedBits wsX0_solvedBits) := goodIn_app (goodIn_of _ (by decide +kernel)) ggX0_faultOfPoint_X0_solvedBits
set_option maxRecDepth 20000 in
theorem ggX0_faultOfPoint_X0_allParts : GoodIn wsX0_faultOfPoint wsX0_allParts := goodIn_r _ [24, 25, 18, 19, 9, 20, 26, 27, 28, 29, 30, 31, 32, 33, 34, 35, 36, 37, 38, 39, 40, 41, 42, 43] (by decide +kernel) (by decide +kernel)
set_option maxRecDepth 20000 in
theorem gX0_faultOfPoint_X0_allParts : GoodIn wsX0_faultOfPoint (wsV RX0 110 RX0 yX0_allParts wsX0_allParts) := goodIn_app (goodIn_of _ (by decide +kernel)) ggX0_faultOfPoint_X0_allParts
theorem dX0_faultOfPoint_0 : decode cX0_faultOfPoint 0 = .ok (.aload_n 0, 1) := by decide +kernel
theorem dX0_faultOfPoint_1 : decode cX0_faultOfPoint 1 = .ok (.getfield 35, 3) := by decide +kernel
theorem dX0_faultOfPoint_4 : decode cX0_faultOfPoint 4 = .ok (.iload_n 1, 1) := by decide +kernel
theorem dX0_faultOfPoint_5 : decode cX0_faultOfPoint 5 = .ok (.baload, 1) := by decide +kernel
theorem dX0_faultOfPoint_6 : decode cX0_faultOfPoint 6 = .ok (.ifCond .ne 5, 3) := by decide +kernel
theorem dX0_faultOfPoint_9 : decode cX0_faultOfPoint 9 = .ok (.iconst 0, 1) := by decide +kernel
theorem dX0_faultOfPoint_10 : decode cX0_faultOfPoint 10 = .ok (.ireturn, 1) := by decide +kernel
theorem dX0_faultOfPoint_11 : decode cX0_faultOfPoint 11 = .ok (.aload_n 0, 1) := by decide +kernel
theorem dX0_faultOfPoint_12 : decode cX0_faultOfPoint 12 = .ok (.getfield 20, 3) := by decide +kernel
theorem dX0_faultOfPoint_15 : decode cX0_faultOfPoint 15 = .ok (.iload_n 1, 1) := by decide +kernel
theorem dX0_faultOfPoint_16 : decode cX0_faultOfPoint 16 = .ok (.iaload, 1) := by decide +kernel
theorem dX0_faultOfPoint_17 : decode cX0_faultOfPoint 17 = .ok (.istore_n 2, 1) := by decide +kernel
theorem dX0_faultOfPoint_18 : decode cX0_faultOfPoint 18 = .ok (.aload_n 0, 1) := by decide +kernel
theorem dX0_faultOfPoint_19 : decode cX0_faultOfPoint 19 = .ok (.getfield 23, 3) := by decide +kernel
theorem dX0_faultOfPoint_22 : decode cX0_faultOfPoint 22 = .ok (.iload_n 1, 1) := by decide +kernel
theorem dX0_faultOfPoint_23 : decode cX0_faultOfPoint 23 = .ok (.iaload, 1) := by decide +kernel
theorem dX0_faultOfPoint_24 : decode cX0_faultOfPoint 24 = .ok (.istore_n 3, 1) := by decide +kernel
theorem dX0_faultOfPoint_25 : decode cX0_faultOfPoint 25 = .ok (.iload_n 2, 1) := by decide +kernel
theorem dX0_faultOfPoint_26 : decode cX0_faultOfPoint 26 = .ok (.iconst 2, 1) := by decide +kernel
theorem dX0_faultOfPoint_27 : decode cX0_faultOfPoint 27 = .ok (.if_icmp .eq 8, 3) := by decide +kernel
theorem dX0_faultOfPoint_30 : decode cX0_faultOfPoint 30 = .ok (.iload_n 2, 1) := by decide +kernel
theorem dX0_faultOfPoint_31 : decode cX0_faultOfPoint 31 = .ok (.iconst 3, 1) := by decide +kernel
theorem dX0_faultOfPoint_32 : decode cX0_faultOfPoint 32 = .ok (.if_icmp .ne 30, 3) := by decide +kernel
theorem dX0_faultOfPoint_35 : decode cX0_faultOfPoint 35 = .ok (.aload_n 0, 1) := by decide +kernel
theorem dX0_faultOfPoint_36 : decode cX0_faultOfPoint 36 = .ok (.iload_n 1, 1) := by decide +kernel
theorem dX0_faultOfPoint_37 : decode cX0_faultOfPoint 37 = .ok (.iload_n 3, 1) := by decide +kernel
theorem dX0_faultOfPoint_38 : decode cX0_faultOfPoint 38 = .ok (.iconst 0, 1) := by decide +kernel
theorem dX0_faultOfPoint_39 : decode cX0_faultOfPoint 39 = .ok (.invokevirtual 116, 3) := by decide +kernel
theorem dX0_faultOfPoint_42 : decode cX0_faultOfPoint 42 = .ok (.aload_n 0, 1) := by decide +kernel
theorem dX0_faultOfPoint_43 : decode cX0_faultOfPoint 43 = .ok (.getfield 26, 3) := by decide +kernel
theorem dX0_faultOfPoint_46 : decode cX0_faultOfPoint 46 = .ok (.iload_n 1, 1) := by decide +kernel
theorem dX0_faultOfPoint_47 : decode cX0_faultOfPoint 47 = .ok (.iaload, 1) := by decide +kernel
theorem dX0_faultOfPoint_48 : decode cX0_faultOfPoint 48 = .ok (.iand, 1) := by decide +kernel
theorem dX0_faultOfPoint_49 : decode cX0_faultOfPoint 49 = .ok (.istore 4, 2) := by decide +kernel
theorem dX0_faultOfPoint_51 : decode cX0_faultOfPoint 51 = .ok (.iload 4, 2) := by decide +kernel
theorem dX0_faultOfPoint_53 : decode cX0_faultOfPoint 53 = .ok (.ifCond .eq 7, 3) := by decide +kernel
theorem dX0_faultOfPoint_56 : decode cX0_faultOfPoint 56 = .ok (.iconst 1, 1) := by decide +kernel
theorem dX0_faultOfPoint_57 : decode cX0_faultOfPoint 57 = .ok (.goto 4, 3) := by decide +kernel
theorem dX0_faultOfPoint_60 : decode cX0_faultOfPoint 60 = .ok (.iconst 0, 1) := by decide +kernel
theorem dX0_faultOfPoint_61 : decode cX0_faultOfPoint 61 = .ok (.ireturn, 1) := by decide +kernel
theorem dX0_faultOfPoint_62 : decode cX0_faultOfPoint 62 = .ok (.iload_n 2, 1) := by decide +kernel
theorem dX0_faultOfPoint_63 : decode cX0_faultOfPoint 63 = .ok (.iconst 1, 1) := by decide +kernel
theorem dX0_faultOfPoint_64 : decode cX0_faultOfPoint 64 = .ok (.if_icmp .ne 12, 3) := by decide +kernel
theorem dX0_faultOfPoint_67 : decode cX0_faultOfPoint 67 = .ok (.aload_n 0, 1) := by decide +kernel
theorem dX0_faultOfPoint_68 : decode cX0_faultOfPoint 68 = .ok (.getfield 13, 3) := by decide +kernel
theorem dX0_faultOfPoint_71 : decode cX0_faultOfPoint 71 = .ok (.iload_n 3, 1) := by decide +kernel
theorem dX0_faultOfPoint_72 : decode cX0_faultOfPoint 72 = .ok (.baload, 1) := by decide +kernel
theorem dX0_faultOfPoint_73 : decode cX0_faultOfPoint 73 = .ok (.ifCond .ne 5, 3) := by decide +kernel
theorem dX0_faultOfPoint_76 : decode cX0_faultOfPoint 76 = .ok (.iconst 0, 1) := by decide +kernel
theorem dX0_faultOfPoint_77 : decode cX0_faultOfPoint 77 = .ok (.ireturn, 1) := by decide +kernel
theorem dX0_faultOfPoint_78 : decode cX0_faultOfPoint 78 = .ok (.aload_n 0, 1) := by decide +kernel
theorem dX0_faultOfPoint_79 : decode cX0_faultOfPoint 79 = .ok (.getfield 26, 3) := by decide +kernel
theorem dX0_faultOfPoint_82 : decode cX0_faultOfPoint 82 = .ok (.iload_n 1, 1) := by decide +kernel
theorem dX0_faultOfPoint_83 : decode cX0_faultOfPoint 83 = .ok (.iaload, 1) := by decide +kernel
theorem dX0_faultOfPoint_84 : decode cX0_faultOfPoint 84 = .ok (.aload_n 0, 1) := by decide +kernel
theorem dX0_faultOfPoint_85 : decode cX0_faultOfPoint 85 = .ok (.iload_n 3, 1) := by decide +kernel
theorem dX0_faultOfPoint_86 : decode cX0_faultOfPoint 86 = .ok (.invokevirtual 110, 3) := by decide +kernel
theorem dX0_faultOfPoint_89 : decode cX0_faultOfPoint 89 = .ok (.if_icmp .eq 5, 3) := by decide +kernel
theorem dX0_faultOfPoint_92 : decode cX0_faultOfPoint 92 = .ok (.iconst 3, 1) := by decide +kernel
theorem dX0_faultOfPoint_93 : decode cX0_faultOfPoint 93 = .ok (.ireturn, 1) := by decide +kernel
theorem dX0_faultOfPoint_94 : decode cX0_faultOfPoint 94 = .ok (.aload_n 0, 1) := by decide +kernel
theorem dX0_faultOfPoint_95 : decode cX0_faultOfPoint 95 = .ok (.iload_n 1, 1) := by decide +kernel
theorem dX0_faultOfPoint_96 : decode cX0_faultOfPoint 96 = .ok (.iload_n 3, 1) := by decide +kernel
theorem dX0_faultOfPoint_97 : decode cX0_faultOfPoint 97 = .ok (.iconst 3, 1) := by decide +kernel
theorem dX0_faultOfPoint_98 : decode cX0_faultOfPoint 98 = .ok (.invokevirtual 116, 3) := by decide +kernel
theorem dX0_faultOfPoint_101 : decode cX0_faultOfPoint 101 = .ok (.ifCond .eq 7, 3) := by decide +kernel
theorem dX0_faultOfPoint_104 : decode cX0_faultOfPoint 104 = .ok (.iconst 2, 1) := by decide +kernel
theorem dX0_faultOfPoint_105 : decode cX0_faultOfPoint 105 = .ok (.goto 4, 3) := by decide +kernel
theorem dX0_faultOfPoint_108 : decode cX0_faultOfPoint 108 = .ok (.iconst 0, 1) := by decide +kernel
theorem dX0_faultOfPoint_109 : decode cX0_faultOfPoint 109 = .ok (.ireturn, 1) := by decide +kernel
set_option maxRecDepth 20000 in
theorem ggX0_countReached_X0_solve : GoodIn wsX0_countReached wsX0_solve := goodIn_r _ [7, 8, 9, 10, 11, 12, 13, 14, 15, 6, 16, 17, 1, 2, 18, 19, 20, 21, 22, 23, 24, 25, 26, 27, 28, 29, 30, 31, 32, 33, 34, 35, 36, 37, 38, 39, 40, 41, 42, 43, 44, 45, 46, 47, 48, 49, 50, 51, 52, 53, 54, 55, 56, 57, 58, 59, 60, 61, 62, 63, 64, 65, 66, 67, 68, 69, 70, 71, 72, 73, 74, 75, 76, 77, 78, 79, 80, 81, 82, 83, 84, 85, 86] (by decide +kernel) (by decide +kernel)
set_option maxRecDepth 20000 in
theorem gX0_countReached_X0_solve : GoodIn wsX0_countReached (wsV RX0 77 RX0 yX0_solve wsX0_solve) := goodIn_app (goodIn_of _ (by decide +kernel)) ggX0_countReached_X0_solve
theorem dX0_countReached_0 : decode cX0_countReached 0 = .ok (.aload_n 0, 1) := by decide +kernel
theorem dX0_countReached_1 : decode cX0_countReached 1 = .ok (.invokevirtual 77, 3) := by decide +kernel
theorem dX0_countReached_4 : decode cX0_countReached 4 = .ok (.iconst 0, 1) := by decide +kernel
theorem dX0_countReached_5 : decode cX0_countReached 5 = .ok (.istore_n 1, 1) := by decide +kernel
theorem dX0_countReached_6 : decode cX0_countReached 6 = .ok (.iconst 0, 1) := by decide +kernel
theorem dX0_countReached_7 : decode cX0_countReached 7 = .ok (.istore_n 2, 1) := by decide +kernel
theorem dX0_countReached_8 : decode cX0_countReached 8 = .ok (.iload_n 2, 1) := by decide +kernel
theorem dX0_countReached_9 : decode cX0_countReached 9 = .ok (.aload_n 0, 1) := by decide +kernel
theorem dX0_countReached_10 : decode cX0_countReached 10 = .ok (.getfield 59, 3) := by decide +kernel
theorem dX0_countReached_13 : decode cX0_countReached 13 = .ok (.if_icmp .ge 21, 3) := by decide +kernel
theorem dX0_countReached_16 : decode cX0_countReached 16 = .ok (.aload_n 0, 1) := by decide +kernel
theorem dX0_countReached_17 : decode cX0_countReached 17 = .ok (.getfield 35, 3) := by decide +kernel
theorem dX0_countReached_20 : decode cX0_countReached 20 = .ok (.iload_n 2, 1) := by decide +kernel
theorem dX0_countReached_21 : decode cX0_countReached 21 = .ok (.baload, 1) := by decide +kernel
theorem dX0_countReached_22 : decode cX0_countReached 22 = .ok (.ifCond .eq 6, 3) := by decide +kernel
theorem dX0_countReached_25 : decode cX0_countReached 25 = .ok (.iinc 1 1, 3) := by decide +kernel
theorem dX0_countReached_28 : decode cX0_countReached 28 = .ok (.iinc 2 1, 3) := by decide +kernel
theorem dX0_countReached_31 : decode cX0_countReached 31 = .ok (.goto (-23), 3) := by decide +kernel
theorem dX0_countReached_34 : decode cX0_countReached 34 = .ok (.iload_n 1, 1) := by decide +kernel
theorem dX0_countReached_35 : decode cX0_countReached 35 = .ok (.ireturn, 1) := by decide +kernel
set_option maxRecDepth 20000 in
theorem ggX0_countFaults_X0_solve : GoodIn wsX0_countFaults wsX0_solve := goodIn_r _ [6, 7, 8, 9, 10, 11, 12, 13, 14, 5, 15, 16, 1, 17, 18, 19, 20, 21, 22, 23, 24, 25, 26, 27, 28, 29, 30, 31, 32, 33, 34, 35, 36, 37, 38, 39, 40, 41, 42, 43, 44, 45, 46, 47, 48, 49, 50, 51, 52, 53, 54, 55, 56, 57, 58, 59, 60, 61, 62, 63, 64, 65, 66, 67, 68, 78, 79, 80, 81, 82, 83, 84, 85, 86, 87, 88, 89, 90, 91, 92, 93, 94, 95] (by decide +kernel) (by decide +kernel)
set_option maxRecDepth 20000 in
theorem gX0_countFaults_X0_solve : GoodIn wsX0_countFaults (wsV RX0 77 RX0 yX0_solve wsX0_solve) := goodIn_app (goodIn_of _ (by decide +kernel)) ggX0_countFaults_X0_solve
set_option maxRecDepth 20000 in
theorem ggX0_countFaults_X0_faultOfPoint : GoodIn wsX0_countFaults wsX0_faultOfPoint := goodIn_r _ [72, 17, 65, 66, 67, 73, 74, 75, 76, 5, 77, 19, 27, 28, 29, 41, 42, 43, 35, 36, 37, 30, 31, 32, 33, 34, 78, 79, 80, 81, 82, 83, 84, 85, 86, 87, 88, 89, 90, 91, 92, 93, 94, 95] (by decide +kernel) (by decide +kernel)
set_option maxRecDepth 20000 in
theorem gX0_countFaults_X0_faultOfPoint : GoodIn wsX0_countFaults (wsV RX0 84 RX0 yX0_faultOfPoint wsX0_faultOfPoint) := goodIn_app (goodIn_of _ (by decide +kernel)) ggX0_countFaults_X0_faultOfPoint
theorem dX0_countFaults_0 : decode cX0_countFaults 0 = .ok (.aload_n 0, 1) := by decide +kernel
theorem dX0_countFaults_1 : decode cX0_countFaults 1 = .ok (.invokevirtual 77, 3) := by decide +kernel
theorem dX0_countFaults_4 : decode cX0_countFaults 4 = .ok (.iconst 0, 1) := by decide +kernel
theorem dX0_countFaults_5 : decode cX0_countFaults 5 = .ok (.istore_n 1, 1) := by decide +kernel
theorem dX0_countFaults_6 : decode cX0_countFaults 6 = .ok (.iconst 0, 1) := by decide +kernel
theorem dX0_countFaults_7 : decode cX0_countFaults 7 = .ok (.istore_n 2, 1) := by decide +kernel
theorem dX0_countFaults_8 : decode cX0_countFaults 8 = .ok (.iload_n 2, 1) := by decide +kernel
theorem dX0_countFaults_9 : decode cX0_countFaults 9 = .ok (.aload_n 0, 1) := by decide +kernel
theorem dX0_countFaults_10 : decode cX0_countFaults 10 = .ok (.getfield 59, 3) := by decide +kernel
theorem dX0_countFaults_13 : decode cX0_countFaults 13 = .ok (.if_icmp .ge 20, 3) := by decide +kernel
theorem dX0_countFaults_16 : decode cX0_countFaults 16 = .ok (.aload_n 0, 1) := by decide +kernel
theorem dX0_countFaults_17 : decode cX0_countFaults 17 = .ok (.iload_n 2, 1) := by decide +kernel
theorem dX0_countFaults_18 : decode cX0_countFaults 18 = .ok (.invokevirtual 84, 3) := by decide +kernel
theorem dX0_countFaults_21 : decode cX0_countFaults 21 = .ok (.ifCond .eq 6, 3) := by decide +kernel
theorem dX0_countFaults_24 : decode cX0_countFaults 24 = .ok (.iinc 1 1, 3) := by decide +kernel
theorem dX0_countFaults_27 : decode cX0_countFaults 27 = .ok (.iinc 2 1, 3) := by decide +kernel
theorem dX0_countFaults_30 : decode cX0_countFaults 30 = .ok (.goto (-22), 3) := by decide +kernel
theorem dX0_countFaults_33 : decode cX0_countFaults 33 = .ok (.iload_n 1, 1) := by decide +kernel
theorem dX0_countFaults_34 : decode cX0_countFaults 34 = .ok (.ireturn, 1) := by decide +kernel
set_option maxRecDepth 20000 in
theorem ggX0_firstFault_X0_solve : GoodIn wsX0_firstFault wsX0_solve := goodIn_r _ [6, 7, 8, 9, 10, 11, 12, 13, 14, 5, 15, 16, 1, 17, 18, 19, 20, 21, 22, 23, 24, 25, 26, 27, 28, 29, 30, 31, 32, 33, 34, 35, 36, 37, 38, 39, 40, 41, 42, 43, 44, 45, 46, 47, 48, 49, 50, 51, 52, 53, 54, 55, 56, 57, 58, 59, 60, 61, 62, 63, 64, 65, 66, 67, 68, 78, 79, 80, 81, 82, 83, 84, 85, 86, 87, 88, 89, 90, 91, 92, 93, 94, 95] (by decide +kernel) (by decide +kernel)
set_option maxRecDepth 20000 in
theorem gX0_firstFault_X0_solve : GoodIn wsX0_firstFault (wsV RX0 77 RX0 yX0_solve wsX0_solve) := goodIn_app (goodIn_of _ (by decide +kernel)) ggX0_firstFault_X0_solve
set_option maxRecDepth 20000 in
theorem ggX0_firstFault_X0_faultOfPoint : GoodIn wsX0_firstFault wsX0_faultOfPoint := goodIn_r _ [72, 17, 65, 66, 67, 73, 74, 75, 76, 5, 77, 19, 27, 28, 29, 41, 42, 43, 35, 36, 37, 30, 31, 32, 33, 34, 78, 79, 80, 81, 82, 83, 84, 85, 86, 87, 88, 89, 90, 91, 92, 93, 94, 95] (by decide +kernel) (by decide +kernel)
set_option maxRecDepth 20000 in
theorem gX0_firstFault_X0_faultOfPoint : GoodIn wsX0_firstFault (wsV RX0 84 RX0 yX0_faultOfPoint wsX0_faultOfPoint) := goodIn_app (goodIn_of _ (by decide +kernel)) ggX0_firstFault_X0_faultOfPoint
theorem dX0_firstFault_0 : decode cX0_firstFault 0 = .ok (.aload_n 0, 1) := by decide +kernel
theorem dX0_firstFault_1 : decode cX0_firstFault 1 = .ok (.invokevirtual 77, 3) := by decide +kernel
theorem dX0_firstFault_4 : decode cX0_firstFault 4 = .ok (.iconst 0, 1) := by decide +kernel
theorem dX0_firstFault_5 : decode cX0_firstFault 5 = .ok (.istore_n 1, 1) := by decide +kernel
theorem dX0_firstFault_6 : decode cX0_firstFault 6 = .ok (.iload_n 1, 1) := by decide +kernel
theorem dX0_firstFault_7 : decode cX0_firstFault 7 = .ok (.aload_n 0, 1) := by decide +kernel
theorem dX0_firstFault_8 : decode cX0_firstFault 8 = .ok (.getfield 59, 3) := by decide +kernel
theorem dX0_firstFault_11 : decode cX0_firstFault 11 = .ok (.if_icmp .ge 19, 3) := by decide +kernel
theorem dX0_firstFault_14 : decode cX0_firstFault 14 = .ok (.aload_n 0, 1) := by decide +kernel
theorem dX0_firstFault_15 : decode cX0_firstFault 15 = .ok (.iload_n 1, 1) := by decide +kernel
theorem dX0_firstFault_16 : decode cX0_firstFault 16 = .ok (.invokevirtual 84, 3) := by decide +kernel
theorem dX0_firstFault_19 : decode cX0_firstFault 19 = .ok (.ifCond .eq 5, 3) := by decide +kernel
theorem dX0_firstFault_22 : decode cX0_firstFault 22 = .ok (.iload_n 1, 1) := by decide +kernel
theorem dX0_firstFault_23 : decode cX0_firstFault 23 = .ok (.ireturn, 1) := by decide +kernel
theorem dX0_firstFault_24 : decode cX0_firstFault 24 = .ok (.iinc 1 1, 3) := by decide +kernel
theorem dX0_firstFault_27 : decode cX0_firstFault 27 = .ok (.goto (-21), 3) := by decide +kernel
theorem dX0_firstFault_30 : decode cX0_firstFault 30 = .ok (.iconst (-1), 1) := by decide +kernel
theorem dX0_firstFault_31 : decode cX0_firstFault 31 = .ok (.ireturn, 1) := by decide +kernel
theorem dX0_countParts_0 : decode cX0_countParts 0 = .ok (.iconst 0, 1) := by decide +kernel
theorem dX0_countParts_1 : decode cX0_countParts 1 = .ok (.istore_n 1, 1) := by decide +kernel
theorem dX0_countParts_2 : decode cX0_countParts 2 = .ok (.iconst 0, 1) := by decide +kernel
theorem dX0_countParts_3 : decode cX0_countParts 3 = .ok (.istore_n 2, 1) := by decide +kernel
theorem dX0_countParts_4 : decode cX0_countParts 4 = .ok (.iload_n 2, 1) := by decide +kernel
theorem dX0_countParts_5 : decode cX0_countParts 5 = .ok (.aload_n 0, 1) := by decide +kernel
theorem dX0_countParts_6 : decode cX0_countParts 6 = .ok (.getfield 51, 3) := by decide +kernel
theorem dX0_countParts_9 : decode cX0_countParts 9 = .ok (.if_icmp .ge 18, 3) := by decide +kernel
theorem dX0_countParts_12 : decode cX0_countParts 12 = .ok (.iload_n 1, 1) := by decide +kernel
theorem dX0_countParts_13 : decode cX0_countParts 13 = .ok (.aload_n 0, 1) := by decide +kernel
theorem dX0_countParts_14 : decode cX0_countParts 14 = .ok (.getfield 9, 3) := by decide +kernel
theorem dX0_countParts_17 : decode cX0_countParts 17 = .ok (.iload_n 2, 1) := by decide +kernel
theorem dX0_countParts_18 : decode cX0_countParts 18 = .ok (.iaload, 1) := by decide +kernel
theorem dX0_countParts_19 : decode cX0_countParts 19 = .ok (.iadd, 1) := by decide +kernel
theorem dX0_countParts_20 : decode cX0_countParts 20 = .ok (.istore_n 1, 1) := by decide +kernel
theorem dX0_countParts_21 : decode cX0_countParts 21 = .ok (.iinc 2 1, 3) := by decide +kernel
theorem dX0_countParts_24 : decode cX0_countParts 24 = .ok (.goto (-20), 3) := by decide +kernel
theorem dX0_countParts_27 : decode cX0_countParts 27 = .ok (.iload_n 1, 1) := by decide +kernel
theorem dX0_countParts_28 : decode cX0_countParts 28 = .ok (.ireturn, 1) := by decide +kernel
set_option maxRecDepth 20000 in
theorem ggX0_solve_X0_forgetFlow : GoodIn wsX0_solve wsX0_forgetFlow := goodIn_r _ [10, 11, 3, 12, 13, 14, 15, 65, 66, 67, 68, 69, 70, 71, 72, 73, 74, 75, 76, 77, 78, 79, 80, 81, 82] (by decide +kernel) (by decide +kernel)
set_option maxRecDepth 20000 in
theorem gX0_solve_X0_forgetFlow : GoodIn wsX0_solve (wsV RX0 122 RX0 yX0_forgetFlow wsX0_forgetFlow) := goodIn_app (goodIn_of _ (by decide +kernel)) ggX0_solve_X0_forgetFlow
set_option maxRecDepth 20000 in
theorem ggX0_solve_X0_beginWays : GoodIn wsX0_solve wsX0_beginWays := goodIn_r _ [19, 20, 21, 22, 23, 24, 9, 25, 26, 27, 28, 29, 30, 31, 32, 33, 34, 35, 36, 37, 38, 39, 40, 41, 42, 43, 13, 15, 44, 45, 46, 47, 12, 48, 49, 50, 51, 14, 3, 52, 11, 65, 66, 67, 68, 69, 70, 71, 72, 73, 74, 75, 76, 77, 78, 79, 80, 81, 82] (by decide +kernel) (by decide +kernel)
set_option maxRecDepth 20000 in
theorem gX0_solve_X0_beginWays : GoodIn wsX0_solve (wsV RX0 125 RX0 yX0_beginWays wsX0_beginWays) := goodIn_app (goodIn_of _ (by decide +kernel)) ggX0_solve_X0_beginWays
set_option maxRecDepth 20000 in
theorem ggX0_solve_X0_takeWaiting : GoodIn wsX0_solve wsX0_takeWaiting := goodIn_r _ [56, 52, 11, 3, 14, 65, 66, 67, 68, 69, 70, 71, 72, 73, 74, 75, 76, 77, 78, 79, 80, 81, 82] (by decide +kernel) (by decide +kernel)
set_option maxRecDepth 20000 in
theorem gX0_solve_X0_takeWaiting : GoodIn wsX0_solve (wsV RX0 132 RX0 yX0_takeWaiting wsX0_takeWaiting) := goodIn_app (goodIn_of _ (by decide +kernel)) ggX0_solve_X0_takeWaiting
set_option maxRecDepth 20000 in
theorem ggX0_solve_X0_passThrough : GoodIn wsX0_solve wsX0_passThrough := goodIn_r _ [60, 20, 15, 61, 62, 63, 64, 34, 35, 9, 36, 37, 38, 39, 23, 24, 25, 65, 66, 67, 68, 69, 70, 71, 72, 73, 74, 75, 76, 77, 78, 79, 80, 81, 82] (by decide +kernel) (by decide +kernel)
set_option maxRecDepth 20000 in
theorem gX0_solve_X0_passThrough : GoodIn wsX0_solve (wsV RX0 135 RX0 yX0_passThrough wsX0_passThrough) := goodIn_app (goodIn_of _ (by decide +kernel)) ggX0_solve_X0_passThrough
set_option maxRecDepth 20000 in
theorem ggX0_solve_X0_goOnTo : GoodIn wsX0_solve wsX0_goOnTo := goodIn_r _ [43, 13, 15, 20, 44, 45, 46, 9, 47, 12, 48, 49, 50, 51, 14, 3, 52, 11, 65, 66, 67, 68, 69, 70, 71, 72, 73, 74, 75, 76, 77, 78, 79, 80, 81, 82] (by decide +kernel) (by decide +kernel)
set_option maxRecDepth 20000 in
theorem gX0_solve_X0_goOnTo : GoodIn wsX0_solve (wsV RX0 139 RX0 yX0_goOnTo wsX0_goOnTo) := goodIn_app (goodIn_of _ (by decide +kernel)) ggX0_solve_X0_goOnTo
theorem dX0_solve_0 : decode cX0_solve 0 = .ok (.aload_n 0, 1) := by decide +kernel
theorem dX0_solve_1 : decode cX0_solve 1 = .ok (.getfield 55, 3) := by decide +kernel
theorem dX0_solve_4 : decode cX0_solve 4 = .ok (.ifCond .eq 4, 3) := by decide +kernel
theorem dX0_solve_7 : decode cX0_solve 7 = .ok (.return_, 1) := by decide +kernel
theorem dX0_solve_8 : decode cX0_solve 8 = .ok (.aload_n 0, 1) := by decide +kernel
theorem dX0_solve_9 : decode cX0_solve 9 = .ok (.invokevirtual 122, 3) := by decide +kernel
theorem dX0_solve_12 : decode cX0_solve 12 = .ok (.aload_n 0, 1) := by decide +kernel
theorem dX0_solve_13 : decode cX0_solve 13 = .ok (.invokevirtual 125, 3) := by decide +kernel
theorem dX0_solve_16 : decode cX0_solve 16 = .ok (.iconst 0, 1) := by decide +kernel
theorem dX0_solve_17 : decode cX0_solve 17 = .ok (.istore_n 1, 1) := by decide +kernel
theorem dX0_solve_18 : decode cX0_solve 18 = .ok (.iload_n 1, 1) := by decide +kernel
theorem dX0_solve_19 : decode cX0_solve 19 = .ok (.ldc 128, 2) := by decide +kernel
theorem dX0_solve_21 : decode cX0_solve 21 = .ok (.if_icmp .ge 46, 3) := by decide +kernel
theorem dX0_solve_24 : decode cX0_solve 24 = .ok (.aload_n 0, 1) := by decide +kernel
theorem dX0_solve_25 : decode cX0_solve 25 = .ok (.getfield 129, 3) := by decide +kernel
theorem dX0_solve_28 : decode cX0_solve 28 = .ok (.ifCond .le 39, 3) := by decide +kernel
theorem dX0_solve_31 : decode cX0_solve 31 = .ok (.aload_n 0, 1) := by decide +kernel
theorem dX0_solve_32 : decode cX0_solve 32 = .ok (.invokevirtual 132, 3) := by decide +kernel
theorem dX0_solve_35 : decode cX0_solve 35 = .ok (.istore_n 2, 1) := by decide +kernel
theorem dX0_solve_36 : decode cX0_solve 36 = .ok (.aload_n 0, 1) := by decide +kernel
theorem dX0_solve_37 : decode cX0_solve 37 = .ok (.iload_n 2, 1) := by decide +kernel
theorem dX0_solve_38 : decode cX0_solve 38 = .ok (.invokevirtual 135, 3) := by decide +kernel
theorem dX0_solve_41 : decode cX0_solve 41 = .ok (.aload_n 0, 1) := by decide +kernel
theorem dX0_solve_42 : decode cX0_solve 42 = .ok (.aload_n 0, 1) := by decide +kernel
theorem dX0_solve_43 : decode cX0_solve 43 = .ok (.getfield 29, 3) := by decide +kernel
theorem dX0_solve_46 : decode cX0_solve 46 = .ok (.iload_n 2, 1) := by decide +kernel
theorem dX0_solve_47 : decode cX0_solve 47 = .ok (.iaload, 1) := by decide +kernel
theorem dX0_solve_48 : decode cX0_solve 48 = .ok (.invokevirtual 139, 3) := by decide +kernel
theorem dX0_solve_51 : decode cX0_solve 51 = .ok (.aload_n 0, 1) := by decide +kernel
theorem dX0_solve_52 : decode cX0_solve 52 = .ok (.aload_n 0, 1) := by decide +kernel
theorem dX0_solve_53 : decode cX0_solve 53 = .ok (.getfield 32, 3) := by decide +kernel
theorem dX0_solve_56 : decode cX0_solve 56 = .ok (.iload_n 2, 1) := by decide +kernel
theorem dX0_solve_57 : decode cX0_solve 57 = .ok (.iaload, 1) := by decide +kernel
theorem dX0_solve_58 : decode cX0_solve 58 = .ok (.invokevirtual 139, 3) := by decide +kernel
theorem dX0_solve_61 : decode cX0_solve 61 = .ok (.iinc 1 1, 3) := by decide +kernel
theorem dX0_solve_64 : decode cX0_solve 64 = .ok (.goto (-46), 3) := by decide +kernel
theorem dX0_solve_67 : decode cX0_solve 67 = .ok (.aload_n 0, 1) := by decide +kernel
theorem dX0_solve_68 : decode cX0_solve 68 = .ok (.iconst 1, 1) := by decide +kernel
theorem dX0_solve_69 : decode cX0_solve 69 = .ok (.putfield 55, 3) := by decide +kernel
theorem dX0_solve_72 : decode cX0_solve 72 = .ok (.return_, 1) := by decide +kernel
theorem dX0_forgetFlow_0 : decode cX0_forgetFlow 0 = .ok (.aload_n 0, 1) := by decide +kernel
theorem dX0_forgetFlow_1 : decode cX0_forgetFlow 1 = .ok (.iconst 0, 1) := by decide +kernel
theorem dX0_forgetFlow_2 : decode cX0_forgetFlow 2 = .ok (.putfield 142, 3) := by decide +kernel
theorem dX0_forgetFlow_5 : decode cX0_forgetFlow 5 = .ok (.aload_n 0, 1) := by decide +kernel
theorem dX0_forgetFlow_6 : decode cX0_forgetFlow 6 = .ok (.iconst 0, 1) := by decide +kernel
theorem dX0_forgetFlow_7 : decode cX0_forgetFlow 7 = .ok (.putfield 129, 3) := by decide +kernel
theorem dX0_forgetFlow_10 : decode cX0_forgetFlow 10 = .ok (.iconst 0, 1) := by decide +kernel
theorem dX0_forgetFlow_11 : decode cX0_forgetFlow 11 = .ok (.istore_n 1, 1) := by decide +kernel
theorem dX0_forgetFlow_12 : decode cX0_forgetFlow 12 = .ok (.iload_n 1, 1) := by decide +kernel
theorem dX0_forgetFlow_13 : decode cX0_forgetFlow 13 = .ok (.aload_n 0, 1) := by decide +kernel
theorem dX0_forgetFlow_14 : decode cX0_forgetFlow 14 = .ok (.getfield 59, 3) := by decide +kernel
theorem dX0_forgetFlow_17 : decode cX0_forgetFlow 17 = .ok (.if_icmp .ge 23, 3) := by decide +kernel
theorem dX0_forgetFlow_20 : decode cX0_forgetFlow 20 = .ok (.aload_n 0, 1) := by decide +kernel
theorem dX0_forgetFlow_21 : decode cX0_forgetFlow 21 = .ok (.getfield 35, 3) := by decide +kernel
theorem dX0_forgetFlow_24 : decode cX0_forgetFlow 24 = .ok (.iload_n 1, 1) := by decide +kernel
theorem dX0_forgetFlow_25 : decode cX0_forgetFlow 25 = .ok (.iconst 0, 1) := by decide +kernel
theorem dX0_forgetFlow_26 : decode cX0_forgetFlow 26 = .ok (.bastore, 1) := by decide +kernel
theorem dX0_forgetFlow_27 : decode cX0_forgetFlow 27 = .ok (.aload_n 0, 1) := by decide +kernel
theorem dX0_forgetFlow_28 : decode cX0_forgetFlow 28 = .ok (.getfield 48, 3) := by decide +kernel
theorem dX0_forgetFlow_31 : decode cX0_forgetFlow 31 = .ok (.iload_n 1, 1) := by decide +kernel
theorem dX0_forgetFlow_32 : decode cX0_forgetFlow 32 = .ok (.iconst 0, 1) := by decide +kernel
theorem dX0_forgetFlow_33 : decode cX0_forgetFlow 33 = .ok (.bastore, 1) := by decide +kernel
theorem dX0_forgetFlow_34 : decode cX0_forgetFlow 34 = .ok (.iinc 1 1, 3) := by decide +kernel
theorem dX0_forgetFlow_37 : decode cX0_forgetFlow 37 = .ok (.goto (-25), 3) := by decide +kernel
theorem dX0_forgetFlow_40 : decode cX0_forgetFlow 40 = .ok (.iconst 0, 1) := by decide +kernel
theorem dX0_forgetFlow_41 : decode cX0_forgetFlow 41 = .ok (.istore_n 1, 1) := by decide +kernel
theorem dX0_forgetFlow_42 : decode cX0_forgetFlow 42 = .ok (.iload_n 1, 1) := by decide +kernel
theorem dX0_forgetFlow_43 : decode cX0_forgetFlow 43 = .ok (.aload_n 0, 1) := by decide +kernel
theorem dX0_forgetFlow_44 : decode cX0_forgetFlow 44 = .ok (.getfield 59, 3) := by decide +kernel
theorem dX0_forgetFlow_47 : decode cX0_forgetFlow 47 = .ok (.bipush 6, 2) := by decide +kernel
theorem dX0_forgetFlow_49 : decode cX0_forgetFlow 49 = .ok (.imul, 1) := by decide +kernel
theorem dX0_forgetFlow_50 : decode cX0_forgetFlow 50 = .ok (.if_icmp .ge 16, 3) := by decide +kernel
theorem dX0_forgetFlow_53 : decode cX0_forgetFlow 53 = .ok (.aload_n 0, 1) := by decide +kernel
theorem dX0_forgetFlow_54 : decode cX0_forgetFlow 54 = .ok (.getfield 38, 3) := by decide +kernel
theorem dX0_forgetFlow_57 : decode cX0_forgetFlow 57 = .ok (.iload_n 1, 1) := by decide +kernel
theorem dX0_forgetFlow_58 : decode cX0_forgetFlow 58 = .ok (.lconst 0, 1) := by decide +kernel
theorem dX0_forgetFlow_59 : decode cX0_forgetFlow 59 = .ok (.lastore, 1) := by decide +kernel
theorem dX0_forgetFlow_60 : decode cX0_forgetFlow 60 = .ok (.iinc 1 1, 3) := by decide +kernel
theorem dX0_forgetFlow_63 : decode cX0_forgetFlow 63 = .ok (.goto (-21), 3) := by decide +kernel
theorem dX0_forgetFlow_66 : decode cX0_forgetFlow 66 = .ok (.return_, 1) := by decide +kernel
set_option maxRecDepth 20000 in
theorem ggX0_beginWays_X0_wordOf : GoodIn wsX0_beginWays wsX0_wordOf := goodIn_r _ [7] (by decide +kernel) (by decide +kernel)
set_option maxRecDepth 20000 in
theorem gX0_beginWays_X0_wordOf : GoodIn wsX0_beginWays (va_wsS RX0 119 yX0_wordOf wsX0_wordOf) := goodIn_app (goodIn_of _ (by decide +kernel)) ggX0_beginWays_X0_wordOf
set_option maxRecDepth 20000 in
theorem ggX0_beginWays_X0_allParts : GoodIn wsX0_beginWays wsX0_allParts := goodIn_r _ [11, 12, 13, 14, 6, 15, 41, 42, 43, 44, 45, 46, 47, 48, 49, 50, 51, 52, 53, 54, 55, 56, 57, 58] (by decide +kernel) (by decide +kernel)
set_option maxRecDepth 20000 in
theorem gX0_beginWays_X0_allParts : GoodIn wsX0_beginWays (wsV RX0 110 RX0 yX0_allParts wsX0_allParts) := goodIn_app (goodIn_of _ (by decide +kernel)) ggX0_beginWays_X0_allParts
set_option maxRecDepth 20000 in
theorem ggX0_beginWays_X0_inWord : GoodIn wsX0_beginWays wsX0_inWord := goodIn_r _ [18, 19, 20, 6, 21] (by decide +kernel) (by decide +kernel)
set_option maxRecDepth 20000 in
theorem gX0_beginWays_X0_inWord : GoodIn wsX0_beginWays (va_wsS RX0 145 yX0_inWord wsX0_inWord) := goodIn_app (goodIn_of _ (by decide +kernel)) ggX0_beginWays_X0_inWord
set_option maxRecDepth 20000 in
theorem ggX0_beginWays_X0_goOnTo : GoodIn wsX0_beginWays wsX0_goOnTo := goodIn_r _ [25, 26, 27, 1, 28, 29, 30, 6, 31, 32, 33, 34, 35, 36, 37, 38, 39, 40, 41, 42, 43, 44, 45, 46, 47, 48, 49, 50, 51, 52, 53, 54, 55, 56, 57, 58] (by decide +kernel) (by decide +kernel)
set_option maxRecDepth 20000 in
theorem gX0_beginWays_X0_goOnTo : GoodIn wsX0_beginWays (wsV RX0 139 RX0 yX0_goOnTo wsX0_goOnTo) := goodIn_app (goodIn_of _ (by decide +kernel)) ggX0_beginWays_X0_goOnTo
theorem dX0_beginWays_0 : decode cX0_beginWays 0 = .ok (.iconst 0, 1) := by decide +kernel
theorem dX0_beginWays_1 : decode cX0_beginWays 1 = .ok (.istore_n 1, 1) := by decide +kernel
theorem dX0_beginWays_2 : decode cX0_beginWays 2 = .ok (.iload_n 1, 1) := by decide +kernel
theorem dX0_beginWays_3 : decode cX0_beginWays 3 = .ok (.bipush 6, 2) := by decide +kernel
theorem dX0_beginWays_5 : decode cX0_beginWays 5 = .ok (.if_icmp .ge 16, 3) := by decide +kernel
theorem dX0_beginWays_8 : decode cX0_beginWays 8 = .ok (.aload_n 0, 1) := by decide +kernel
theorem dX0_beginWays_9 : decode cX0_beginWays 9 = .ok (.getfield 42, 3) := by decide +kernel
theorem dX0_beginWays_12 : decode cX0_beginWays 12 = .ok (.iload_n 1, 1) := by decide +kernel
theorem dX0_beginWays_13 : decode cX0_beginWays 13 = .ok (.lconst 0, 1) := by decide +kernel
theorem dX0_beginWays_14 : decode cX0_beginWays 14 = .ok (.lastore, 1) := by decide +kernel
theorem dX0_beginWays_15 : decode cX0_beginWays 15 = .ok (.iinc 1 1, 3) := by decide +kernel
theorem dX0_beginWays_18 : decode cX0_beginWays 18 = .ok (.goto (-16), 3) := by decide +kernel
theorem dX0_beginWays_21 : decode cX0_beginWays 21 = .ok (.iconst 0, 1) := by decide +kernel
theorem dX0_beginWays_22 : decode cX0_beginWays 22 = .ok (.istore_n 1, 1) := by decide +kernel
theorem dX0_beginWays_23 : decode cX0_beginWays 23 = .ok (.iload_n 1, 1) := by decide +kernel
theorem dX0_beginWays_24 : decode cX0_beginWays 24 = .ok (.aload_n 0, 1) := by decide +kernel
theorem dX0_beginWays_25 : decode cX0_beginWays 25 = .ok (.getfield 51, 3) := by decide +kernel
theorem dX0_beginWays_28 : decode cX0_beginWays 28 = .ok (.if_icmp .ge 47, 3) := by decide +kernel
theorem dX0_beginWays_31 : decode cX0_beginWays 31 = .ok (.aload_n 0, 1) := by decide +kernel
theorem dX0_beginWays_32 : decode cX0_beginWays 32 = .ok (.getfield 17, 3) := by decide +kernel
theorem dX0_beginWays_35 : decode cX0_beginWays 35 = .ok (.iload_n 1, 1) := by decide +kernel
theorem dX0_beginWays_36 : decode cX0_beginWays 36 = .ok (.baload, 1) := by decide +kernel
theorem dX0_beginWays_37 : decode cX0_beginWays 37 = .ok (.ifCond .eq 7, 3) := by decide +kernel
theorem dX0_beginWays_40 : decode cX0_beginWays 40 = .ok (.iconst 3, 1) := by decide +kernel
theorem dX0_beginWays_41 : decode cX0_beginWays 41 = .ok (.goto 4, 3) := by decide +kernel
theorem dX0_beginWays_44 : decode cX0_beginWays 44 = .ok (.iconst 0, 1) := by decide +kernel
theorem dX0_beginWays_45 : decode cX0_beginWays 45 = .ok (.istore_n 2, 1) := by decide +kernel
theorem dX0_beginWays_46 : decode cX0_beginWays 46 = .ok (.aload_n 0, 1) := by decide +kernel
theorem dX0_beginWays_47 : decode cX0_beginWays 47 = .ok (.getfield 42, 3) := by decide +kernel
theorem dX0_beginWays_50 : decode cX0_beginWays 50 = .ok (.iload_n 2, 1) := by decide +kernel
theorem dX0_beginWays_51 : decode cX0_beginWays 51 = .ok (.iload_n 1, 1) := by decide +kernel
theorem dX0_beginWays_52 : decode cX0_beginWays 52 = .ok (.invokestatic 119, 3) := by decide +kernel
theorem dX0_beginWays_55 : decode cX0_beginWays 55 = .ok (.iadd, 1) := by decide +kernel
theorem dX0_beginWays_56 : decode cX0_beginWays 56 = .ok (.dup2, 1) := by decide +kernel
theorem dX0_beginWays_57 : decode cX0_beginWays 57 = .ok (.laload, 1) := by decide +kernel
theorem dX0_beginWays_58 : decode cX0_beginWays 58 = .ok (.iload_n 1, 1) := by decide +kernel
theorem dX0_beginWays_59 : decode cX0_beginWays 59 = .ok (.aload_n 0, 1) := by decide +kernel
theorem dX0_beginWays_60 : decode cX0_beginWays 60 = .ok (.iload_n 1, 1) := by decide +kernel
theorem dX0_beginWays_61 : decode cX0_beginWays 61 = .ok (.invokevirtual 110, 3) := by decide +kernel
theorem dX0_beginWays_64 : decode cX0_beginWays 64 = .ok (.invokestatic 145, 3) := by decide +kernel
theorem dX0_beginWays_67 : decode cX0_beginWays 67 = .ok (.lor, 1) := by decide +kernel
theorem dX0_beginWays_68 : decode cX0_beginWays 68 = .ok (.lastore, 1) := by decide +kernel
theorem dX0_beginWays_69 : decode cX0_beginWays 69 = .ok (.iinc 1 1, 3) := by decide +kernel
theorem dX0_beginWays_72 : decode cX0_beginWays 72 = .ok (.goto (-49), 3) := by decide +kernel
theorem dX0_beginWays_75 : decode cX0_beginWays 75 = .ok (.aload_n 0, 1) := by decide +kernel
theorem dX0_beginWays_76 : decode cX0_beginWays 76 = .ok (.iconst 0, 1) := by decide +kernel
theorem dX0_beginWays_77 : decode cX0_beginWays 77 = .ok (.invokevirtual 139, 3) := by decide +kernel
theorem dX0_beginWays_80 : decode cX0_beginWays 80 = .ok (.return_, 1) := by decide +kernel
set_option maxRecDepth 20000 in
theorem ggX0_passThrough_X0_inWord : GoodIn wsX0_passThrough wsX0_inWord := goodIn_r _ [10, 11, 12, 9, 13] (by decide +kernel) (by decide +kernel)
set_option maxRecDepth 20000 in
theorem gX0_passThrough_X0_inWord : GoodIn wsX0_passThrough (va_wsS RX0 145 yX0_inWord wsX0_inWord) := goodIn_app (goodIn_of _ (by decide +kernel)) ggX0_passThrough_X0_inWord
set_option maxRecDepth 20000 in
theorem ggX0_passThrough_X0_wordOf : GoodIn wsX0_passThrough wsX0_wordOf := goodIn_r _ [16] (by decide +kernel) (by decide +kernel)
set_option maxRecDepth 20000 in
theorem gX0_passThrough_X0_wordOf : GoodIn wsX0_passThrough (va_wsS RX0 119 yX0_wordOf wsX0_wordOf) := goodIn_app (goodIn_of _ (by decide +kernel)) ggX0_passThrough_X0_wordOf
theorem dX0_passThrough_0 : decode cX0_passThrough 0 = .ok (.iload_n 1, 1) := by decide +kernel
theorem dX0_passThrough_1 : decode cX0_passThrough 1 = .ok (.bipush 6, 2) := by decide +kernel
theorem dX0_passThrough_3 : decode cX0_passThrough 3 = .ok (.imul, 1) := by decide +kernel
theorem dX0_passThrough_4 : decode cX0_passThrough 4 = .ok (.istore_n 2, 1) := by decide +kernel
theorem dX0_passThrough_5 : decode cX0_passThrough 5 = .ok (.iconst 0, 1) := by decide +kernel
theorem dX0_passThrough_6 : decode cX0_passThrough 6 = .ok (.istore_n 3, 1) := by decide +kernel
theorem dX0_passThrough_7 : decode cX0_passThrough 7 = .ok (.iload_n 3, 1) := by decide +kernel
theorem dX0_passThrough_8 : decode cX0_passThrough 8 = .ok (.bipush 6, 2) := by decide +kernel
theorem dX0_passThrough_10 : decode cX0_passThrough 10 = .ok (.if_icmp .ge 23, 3) := by decide +kernel
theorem dX0_passThrough_13 : decode cX0_passThrough 13 = .ok (.aload_n 0, 1) := by decide +kernel
theorem dX0_passThrough_14 : decode cX0_passThrough 14 = .ok (.getfield 42, 3) := by decide +kernel
theorem dX0_passThrough_17 : decode cX0_passThrough 17 = .ok (.iload_n 3, 1) := by decide +kernel
theorem dX0_passThrough_18 : decode cX0_passThrough 18 = .ok (.aload_n 0, 1) := by decide +kernel
theorem dX0_passThrough_19 : decode cX0_passThrough 19 = .ok (.getfield 38, 3) := by decide +kernel
theorem dX0_passThrough_22 : decode cX0_passThrough 22 = .ok (.iload_n 2, 1) := by decide +kernel
theorem dX0_passThrough_23 : decode cX0_passThrough 23 = .ok (.iload_n 3, 1) := by decide +kernel
theorem dX0_passThrough_24 : decode cX0_passThrough 24 = .ok (.iadd, 1) := by decide +kernel
theorem dX0_passThrough_25 : decode cX0_passThrough 25 = .ok (.laload, 1) := by decide +kernel
theorem dX0_passThrough_26 : decode cX0_passThrough 26 = .ok (.lastore, 1) := by decide +kernel
theorem dX0_passThrough_27 : decode cX0_passThrough 27 = .ok (.iinc 3 1, 3) := by decide +kernel
theorem dX0_passThrough_30 : decode cX0_passThrough 30 = .ok (.goto (-23), 3) := by decide +kernel
theorem dX0_passThrough_33 : decode cX0_passThrough 33 = .ok (.aload_n 0, 1) := by decide +kernel
theorem dX0_passThrough_34 : decode cX0_passThrough 34 = .ok (.getfield 20, 3) := by decide +kernel
theorem dX0_passThrough_37 : decode cX0_passThrough 37 = .ok (.iload_n 1, 1) := by decide +kernel
theorem dX0_passThrough_38 : decode cX0_passThrough 38 = .ok (.iaload, 1) := by decide +kernel
theorem dX0_passThrough_39 : decode cX0_passThrough 39 = .ok (.istore_n 3, 1) := by decide +kernel
theorem dX0_passThrough_40 : decode cX0_passThrough 40 = .ok (.iload_n 3, 1) := by decide +kernel
theorem dX0_passThrough_41 : decode cX0_passThrough 41 = .ok (.ifCond .eq 8, 3) := by decide +kernel
theorem dX0_passThrough_44 : decode cX0_passThrough 44 = .ok (.iload_n 3, 1) := by decide +kernel
theorem dX0_passThrough_45 : decode cX0_passThrough 45 = .ok (.iconst 3, 1) := by decide +kernel
theorem dX0_passThrough_46 : decode cX0_passThrough 46 = .ok (.if_icmp .ne 4, 3) := by decide +kernel
theorem dX0_passThrough_49 : decode cX0_passThrough 49 = .ok (.return_, 1) := by decide +kernel
theorem dX0_passThrough_50 : decode cX0_passThrough 50 = .ok (.aload_n 0, 1) := by decide +kernel
theorem dX0_passThrough_51 : decode cX0_passThrough 51 = .ok (.getfield 23, 3) := by decide +kernel
theorem dX0_passThrough_54 : decode cX0_passThrough 54 = .ok (.iload_n 1, 1) := by decide +kernel
theorem dX0_passThrough_55 : decode cX0_passThrough 55 = .ok (.iaload, 1) := by decide +kernel
theorem dX0_passThrough_56 : decode cX0_passThrough 56 = .ok (.istore 4, 2) := by decide +kernel
theorem dX0_passThrough_58 : decode cX0_passThrough 58 = .ok (.iload 4, 2) := by decide +kernel
theorem dX0_passThrough_60 : decode cX0_passThrough 60 = .ok (.aload_n 0, 1) := by decide +kernel
theorem dX0_passThrough_61 : decode cX0_passThrough 61 = .ok (.getfield 26, 3) := by decide +kernel
theorem dX0_passThrough_64 : decode cX0_passThrough 64 = .ok (.iload_n 1, 1) := by decide +kernel
theorem dX0_passThrough_65 : decode cX0_passThrough 65 = .ok (.iaload, 1) := by decide +kernel
theorem dX0_passThrough_66 : decode cX0_passThrough 66 = .ok (.invokestatic 145, 3) := by decide +kernel
theorem dX0_passThrough_69 : decode cX0_passThrough 69 = .ok (.lstore 5, 2) := by decide +kernel
theorem dX0_passThrough_71 : decode cX0_passThrough 71 = .ok (.iload 4, 2) := by decide +kernel
theorem dX0_passThrough_73 : decode cX0_passThrough 73 = .ok (.invokestatic 119, 3) := by decide +kernel
theorem dX0_passThrough_76 : decode cX0_passThrough 76 = .ok (.istore 7, 2) := by decide +kernel
theorem dX0_passThrough_78 : decode cX0_passThrough 78 = .ok (.iload_n 3, 1) := by decide +kernel
theorem dX0_passThrough_79 : decode cX0_passThrough 79 = .ok (.iconst 1, 1) := by decide +kernel
theorem dX0_passThrough_80 : decode cX0_passThrough 80 = .ok (.if_icmp .ne 7, 3) := by decide +kernel
theorem dX0_passThrough_83 : decode cX0_passThrough 83 = .ok (.iconst 3, 1) := by decide +kernel
theorem dX0_passThrough_84 : decode cX0_passThrough 84 = .ok (.goto 4, 3) := by decide +kernel
theorem dX0_passThrough_87 : decode cX0_passThrough 87 = .ok (.iconst 0, 1) := by decide +kernel
theorem dX0_passThrough_88 : decode cX0_passThrough 88 = .ok (.istore 8, 2) := by decide +kernel
theorem dX0_passThrough_90 : decode cX0_passThrough 90 = .ok (.iload_n 3, 1) := by decide +kernel
theorem dX0_passThrough_91 : decode cX0_passThrough 91 = .ok (.iconst 1, 1) := by decide +kernel
theorem dX0_passThrough_92 : decode cX0_passThrough 92 = .ok (.if_icmp .ne 7, 3) := by decide +kernel
theorem dX0_passThrough_95 : decode cX0_passThrough 95 = .ok (.iconst 0, 1) := by decide +kernel
theorem dX0_passThrough_96 : decode cX0_passThrough 96 = .ok (.goto 4, 3) := by decide +kernel
theorem dX0_passThrough_99 : decode cX0_passThrough 99 = .ok (.iconst 3, 1) := by decide +kernel
theorem dX0_passThrough_100 : decode cX0_passThrough 100 = .ok (.istore 9, 2) := by decide +kernel
theorem dX0_passThrough_102 : decode cX0_passThrough 102 = .ok (.aload_n 0, 1) := by decide +kernel
theorem dX0_passThrough_103 : decode cX0_passThrough 103 = .ok (.getfield 42, 3) := by decide +kernel
theorem dX0_passThrough_106 : decode cX0_passThrough 106 = .ok (.iload 8, 2) := by decide +kernel
theorem dX0_passThrough_108 : decode cX0_passThrough 108 = .ok (.iload 7, 2) := by decide +kernel
theorem dX0_passThrough_110 : decode cX0_passThrough 110 = .ok (.iadd, 1) := by decide +kernel
theorem dX0_passThrough_111 : decode cX0_passThrough 111 = .ok (.dup2, 1) := by decide +kernel
theorem dX0_passThrough_112 : decode cX0_passThrough 112 = .ok (.laload, 1) := by decide +kernel
theorem dX0_passThrough_113 : decode cX0_passThrough 113 = .ok (.lload 5, 2) := by decide +kernel
theorem dX0_passThrough_115 : decode cX0_passThrough 115 = .ok (.lor, 1) := by decide +kernel
theorem dX0_passThrough_116 : decode cX0_passThrough 116 = .ok (.lastore, 1) := by decide +kernel
theorem dX0_passThrough_117 : decode cX0_passThrough 117 = .ok (.aload_n 0, 1) := by decide +kernel
theorem dX0_passThrough_118 : decode cX0_passThrough 118 = .ok (.getfield 42, 3) := by decide +kernel
theorem dX0_passThrough_121 : decode cX0_passThrough 121 = .ok (.iload 9, 2) := by decide +kernel
theorem dX0_passThrough_123 : decode cX0_passThrough 123 = .ok (.iload 7, 2) := by decide +kernel
theorem dX0_passThrough_125 : decode cX0_passThrough 125 = .ok (.iadd, 1) := by decide +kernel
theorem dX0_passThrough_126 : decode cX0_passThrough 126 = .ok (.dup2, 1) := by decide +kernel
theorem dX0_passThrough_127 : decode cX0_passThrough 127 = .ok (.laload, 1) := by decide +kernel
theorem dX0_passThrough_128 : decode cX0_passThrough 128 = .ok (.lload 5, 2) := by decide +kernel
theorem dX0_passThrough_130 : decode cX0_passThrough 130 = .ok (.ldc2_w 149, 3) := by decide +kernel
theorem dX0_passThrough_133 : decode cX0_passThrough 133 = .ok (.lxor, 1) := by decide +kernel
theorem dX0_passThrough_134 : decode cX0_passThrough 134 = .ok (.land, 1) := by decide +kernel
theorem dX0_passThrough_135 : decode cX0_passThrough 135 = .ok (.lastore, 1) := by decide +kernel
theorem dX0_passThrough_136 : decode cX0_passThrough 136 = .ok (.return_, 1) := by decide +kernel
set_option maxRecDepth 20000 in
theorem ggX0_goOnTo_X0_isPoint : GoodIn wsX0_goOnTo wsX0_isPoint := goodIn_r _ [8, 9, 18, 19, 20, 21, 22, 23, 24, 25, 26, 27, 28, 29, 30, 31, 32, 33, 34, 35] (by decide +kernel) (by decide +kernel)
set_option maxRecDepth 20000 in
theorem gX0_goOnTo_X0_isPoint : GoodIn wsX0_goOnTo (wsV RX0 70 RX0 yX0_isPoint wsX0_isPoint) := goodIn_app (goodIn_of _ (by decide +kernel)) ggX0_goOnTo_X0_isPoint
set_option maxRecDepth 20000 in
theorem ggX0_goOnTo_X0_addWaiting : GoodIn wsX0_goOnTo wsX0_addWaiting := goodIn_r _ [13, 14, 15, 16, 17, 18, 19, 20, 21, 22, 23, 24, 25, 26, 27, 28, 29, 30, 31, 32, 33, 34, 35] (by decide +kernel) (by decide +kernel)
set_option maxRecDepth 20000 in
theorem gX0_goOnTo_X0_addWaiting : GoodIn wsX0_goOnTo (wsV RX0 151 RX0 yX0_addWaiting wsX0_addWaiting) := goodIn_app (goodIn_of _ (by decide +kernel)) ggX0_goOnTo_X0_addWaiting
theorem dX0_goOnTo_0 : decode cX0_goOnTo 0 = .ok (.aload_n 0, 1) := by decide +kernel
theorem dX0_goOnTo_1 : decode cX0_goOnTo 1 = .ok (.iload_n 1, 1) := by decide +kernel
theorem dX0_goOnTo_2 : decode cX0_goOnTo 2 = .ok (.invokevirtual 70, 3) := by decide +kernel
theorem dX0_goOnTo_5 : decode cX0_goOnTo 5 = .ok (.ifCond .ne 4, 3) := by decide +kernel
theorem dX0_goOnTo_8 : decode cX0_goOnTo 8 = .ok (.return_, 1) := by decide +kernel
theorem dX0_goOnTo_9 : decode cX0_goOnTo 9 = .ok (.aload_n 0, 1) := by decide +kernel
theorem dX0_goOnTo_10 : decode cX0_goOnTo 10 = .ok (.getfield 35, 3) := by decide +kernel
theorem dX0_goOnTo_13 : decode cX0_goOnTo 13 = .ok (.iload_n 1, 1) := by decide +kernel
theorem dX0_goOnTo_14 : decode cX0_goOnTo 14 = .ok (.baload, 1) := by decide +kernel
theorem dX0_goOnTo_15 : decode cX0_goOnTo 15 = .ok (.ifCond .ne 7, 3) := by decide +kernel
theorem dX0_goOnTo_18 : decode cX0_goOnTo 18 = .ok (.iconst 1, 1) := by decide +kernel
theorem dX0_goOnTo_19 : decode cX0_goOnTo 19 = .ok (.goto 4, 3) := by decide +kernel
theorem dX0_goOnTo_22 : decode cX0_goOnTo 22 = .ok (.iconst 0, 1) := by decide +kernel
theorem dX0_goOnTo_23 : decode cX0_goOnTo 23 = .ok (.istore_n 2, 1) := by decide +kernel
theorem dX0_goOnTo_24 : decode cX0_goOnTo 24 = .ok (.aload_n 0, 1) := by decide +kernel
theorem dX0_goOnTo_25 : decode cX0_goOnTo 25 = .ok (.getfield 35, 3) := by decide +kernel
theorem dX0_goOnTo_28 : decode cX0_goOnTo 28 = .ok (.iload_n 1, 1) := by decide +kernel
theorem dX0_goOnTo_29 : decode cX0_goOnTo 29 = .ok (.iconst 1, 1) := by decide +kernel
theorem dX0_goOnTo_30 : decode cX0_goOnTo 30 = .ok (.bastore, 1) := by decide +kernel
theorem dX0_goOnTo_31 : decode cX0_goOnTo 31 = .ok (.iload_n 1, 1) := by decide +kernel
theorem dX0_goOnTo_32 : decode cX0_goOnTo 32 = .ok (.bipush 6, 2) := by decide +kernel
theorem dX0_goOnTo_34 : decode cX0_goOnTo 34 = .ok (.imul, 1) := by decide +kernel
theorem dX0_goOnTo_35 : decode cX0_goOnTo 35 = .ok (.istore_n 3, 1) := by decide +kernel
theorem dX0_goOnTo_36 : decode cX0_goOnTo 36 = .ok (.iconst 0, 1) := by decide +kernel
theorem dX0_goOnTo_37 : decode cX0_goOnTo 37 = .ok (.istore 4, 2) := by decide +kernel
theorem dX0_goOnTo_39 : decode cX0_goOnTo 39 = .ok (.iload 4, 2) := by decide +kernel
theorem dX0_goOnTo_41 : decode cX0_goOnTo 41 = .ok (.bipush 6, 2) := by decide +kernel
theorem dX0_goOnTo_43 : decode cX0_goOnTo 43 = .ok (.if_icmp .ge 64, 3) := by decide +kernel
theorem dX0_goOnTo_46 : decode cX0_goOnTo 46 = .ok (.aload_n 0, 1) := by decide +kernel
theorem dX0_goOnTo_47 : decode cX0_goOnTo 47 = .ok (.getfield 38, 3) := by decide +kernel
theorem dX0_goOnTo_50 : decode cX0_goOnTo 50 = .ok (.iload_n 3, 1) := by decide +kernel
theorem dX0_goOnTo_51 : decode cX0_goOnTo 51 = .ok (.iload 4, 2) := by decide +kernel
theorem dX0_goOnTo_53 : decode cX0_goOnTo 53 = .ok (.iadd, 1) := by decide +kernel
theorem dX0_goOnTo_54 : decode cX0_goOnTo 54 = .ok (.laload, 1) := by decide +kernel
theorem dX0_goOnTo_55 : decode cX0_goOnTo 55 = .ok (.aload_n 0, 1) := by decide +kernel
theorem dX0_goOnTo_56 : decode cX0_goOnTo 56 = .ok (.getfield 42, 3) := by decide +kernel
theorem dX0_goOnTo_59 : decode cX0_goOnTo 59 = .ok (.iload 4, 2) := by decide +kernel
theorem dX0_goOnTo_61 : decode cX0_goOnTo 61 = .ok (.laload, 1) := by decide +kernel
theorem dX0_goOnTo_62 : decode cX0_goOnTo 62 = .ok (.lor, 1) := by decide +kernel
theorem dX0_goOnTo_63 : decode cX0_goOnTo 63 = .ok (.lstore 5, 2) := by decide +kernel
theorem dX0_goOnTo_65 : decode cX0_goOnTo 65 = .ok (.iload_n 2, 1) := by decide +kernel
theorem dX0_goOnTo_66 : decode cX0_goOnTo 66 = .ok (.ifCond .ne 18, 3) := by decide +kernel
theorem dX0_goOnTo_69 : decode cX0_goOnTo 69 = .ok (.lload 5, 2) := by decide +kernel
theorem dX0_goOnTo_71 : decode cX0_goOnTo 71 = .ok (.aload_n 0, 1) := by decide +kernel
theorem dX0_goOnTo_72 : decode cX0_goOnTo 72 = .ok (.getfield 38, 3) := by decide +kernel
theorem dX0_goOnTo_75 : decode cX0_goOnTo 75 = .ok (.iload_n 3, 1) := by decide +kernel
theorem dX0_goOnTo_76 : decode cX0_goOnTo 76 = .ok (.iload 4, 2) := by decide +kernel
theorem dX0_goOnTo_78 : decode cX0_goOnTo 78 = .ok (.iadd, 1) := by decide +kernel
theorem dX0_goOnTo_79 : decode cX0_goOnTo 79 = .ok (.laload, 1) := by decide +kernel
theorem dX0_goOnTo_80 : decode cX0_goOnTo 80 = .ok (.lcmp, 1) := by decide +kernel
theorem dX0_goOnTo_81 : decode cX0_goOnTo 81 = .ok (.ifCond .eq 7, 3) := by decide +kernel
theorem dX0_goOnTo_84 : decode cX0_goOnTo 84 = .ok (.iconst 1, 1) := by decide +kernel
theorem dX0_goOnTo_85 : decode cX0_goOnTo 85 = .ok (.goto 4, 3) := by decide +kernel
theorem dX0_goOnTo_88 : decode cX0_goOnTo 88 = .ok (.iconst 0, 1) := by decide +kernel
theorem dX0_goOnTo_89 : decode cX0_goOnTo 89 = .ok (.istore_n 2, 1) := by decide +kernel
theorem dX0_goOnTo_90 : decode cX0_goOnTo 90 = .ok (.aload_n 0, 1) := by decide +kernel
theorem dX0_goOnTo_91 : decode cX0_goOnTo 91 = .ok (.getfield 38, 3) := by decide +kernel
theorem dX0_goOnTo_94 : decode cX0_goOnTo 94 = .ok (.iload_n 3, 1) := by decide +kernel
theorem dX0_goOnTo_95 : decode cX0_goOnTo 95 = .ok (.iload 4, 2) := by decide +kernel
theorem dX0_goOnTo_97 : decode cX0_goOnTo 97 = .ok (.iadd, 1) := by decide +kernel
theorem dX0_goOnTo_98 : decode cX0_goOnTo 98 = .ok (.lload 5, 2) := by decide +kernel
theorem dX0_goOnTo_100 : decode cX0_goOnTo 100 = .ok (.lastore, 1) := by decide +kernel
theorem dX0_goOnTo_101 : decode cX0_goOnTo 101 = .ok (.iinc 4 1, 3) := by decide +kernel
theorem dX0_goOnTo_104 : decode cX0_goOnTo 104 = .ok (.goto (-65), 3) := by decide +kernel
theorem dX0_goOnTo_107 : decode cX0_goOnTo 107 = .ok (.iload_n 2, 1) := by decide +kernel
theorem dX0_goOnTo_108 : decode cX0_goOnTo 108 = .ok (.ifCond .eq 8, 3) := by decide +kernel
theorem dX0_goOnTo_111 : decode cX0_goOnTo 111 = .ok (.aload_n 0, 1) := by decide +kernel
theorem dX0_goOnTo_112 : decode cX0_goOnTo 112 = .ok (.iload_n 1, 1) := by decide +kernel
theorem dX0_goOnTo_113 : decode cX0_goOnTo 113 = .ok (.invokevirtual 151, 3) := by decide +kernel
theorem dX0_goOnTo_116 : decode cX0_goOnTo 116 = .ok (.return_, 1) := by decide +kernel
theorem dX0_addWaiting_0 : decode cX0_addWaiting 0 = .ok (.aload_n 0, 1) := by decide +kernel
theorem dX0_addWaiting_1 : decode cX0_addWaiting 1 = .ok (.getfield 48, 3) := by decide +kernel
theorem dX0_addWaiting_4 : decode cX0_addWaiting 4 = .ok (.iload_n 1, 1) := by decide +kernel
theorem dX0_addWaiting_5 : decode cX0_addWaiting 5 = .ok (.baload, 1) := by decide +kernel
theorem dX0_addWaiting_6 : decode cX0_addWaiting 6 = .ok (.ifCond .ne 12, 3) := by decide +kernel
theorem dX0_addWaiting_9 : decode cX0_addWaiting 9 = .ok (.aload_n 0, 1) := by decide +kernel
theorem dX0_addWaiting_10 : decode cX0_addWaiting 10 = .ok (.getfield 129, 3) := by decide +kernel
theorem dX0_addWaiting_13 : decode cX0_addWaiting 13 = .ok (.bipush 120, 2) := by decide +kernel
theorem dX0_addWaiting_15 : decode cX0_addWaiting 15 = .ok (.if_icmp .lt 4, 3) := by decide +kernel
theorem dX0_addWaiting_18 : decode cX0_addWaiting 18 = .ok (.return_, 1) := by decide +kernel
theorem dX0_addWaiting_19 : decode cX0_addWaiting 19 = .ok (.aload_n 0, 1) := by decide +kernel
theorem dX0_addWaiting_20 : decode cX0_addWaiting 20 = .ok (.getfield 48, 3) := by decide +kernel
theorem dX0_addWaiting_23 : decode cX0_addWaiting 23 = .ok (.iload_n 1, 1) := by decide +kernel
theorem dX0_addWaiting_24 : decode cX0_addWaiting 24 = .ok (.iconst 1, 1) := by decide +kernel
theorem dX0_addWaiting_25 : decode cX0_addWaiting 25 = .ok (.bastore, 1) := by decide +kernel
theorem dX0_addWaiting_26 : decode cX0_addWaiting 26 = .ok (.aload_n 0, 1) := by decide +kernel
theorem dX0_addWaiting_27 : decode cX0_addWaiting 27 = .ok (.getfield 45, 3) := by decide +kernel
theorem dX0_addWaiting_30 : decode cX0_addWaiting 30 = .ok (.aload_n 0, 1) := by decide +kernel
theorem dX0_addWaiting_31 : decode cX0_addWaiting 31 = .ok (.getfield 142, 3) := by decide +kernel
theorem dX0_addWaiting_34 : decode cX0_addWaiting 34 = .ok (.aload_n 0, 1) := by decide +kernel
theorem dX0_addWaiting_35 : decode cX0_addWaiting 35 = .ok (.getfield 129, 3) := by decide +kernel
theorem dX0_addWaiting_38 : decode cX0_addWaiting 38 = .ok (.iadd, 1) := by decide +kernel
theorem dX0_addWaiting_39 : decode cX0_addWaiting 39 = .ok (.bipush 120, 2) := by decide +kernel
theorem dX0_addWaiting_41 : decode cX0_addWaiting 41 = .ok (.irem, 1) := by decide +kernel
theorem dX0_addWaiting_42 : decode cX0_addWaiting 42 = .ok (.iload_n 1, 1) := by decide +kernel
theorem dX0_addWaiting_43 : decode cX0_addWaiting 43 = .ok (.iastore, 1) := by decide +kernel
theorem dX0_addWaiting_44 : decode cX0_addWaiting 44 = .ok (.aload_n 0, 1) := by decide +kernel
theorem dX0_addWaiting_45 : decode cX0_addWaiting 45 = .ok (.dup, 1) := by decide +kernel
theorem dX0_addWaiting_46 : decode cX0_addWaiting 46 = .ok (.getfield 129, 3) := by decide +kernel
theorem dX0_addWaiting_49 : decode cX0_addWaiting 49 = .ok (.iconst 1, 1) := by decide +kernel
theorem dX0_addWaiting_50 : decode cX0_addWaiting 50 = .ok (.iadd, 1) := by decide +kernel
theorem dX0_addWaiting_51 : decode cX0_addWaiting 51 = .ok (.putfield 129, 3) := by decide +kernel
theorem dX0_addWaiting_54 : decode cX0_addWaiting 54 = .ok (.return_, 1) := by decide +kernel
theorem dX0_takeWaiting_0 : decode cX0_takeWaiting 0 = .ok (.aload_n 0, 1) := by decide +kernel
theorem dX0_takeWaiting_1 : decode cX0_takeWaiting 1 = .ok (.getfield 45, 3) := by decide +kernel
theorem dX0_takeWaiting_4 : decode cX0_takeWaiting 4 = .ok (.aload_n 0, 1) := by decide +kernel
theorem dX0_takeWaiting_5 : decode cX0_takeWaiting 5 = .ok (.getfield 142, 3) := by decide +kernel
theorem dX0_takeWaiting_8 : decode cX0_takeWaiting 8 = .ok (.iaload, 1) := by decide +kernel
theorem dX0_takeWaiting_9 : decode cX0_takeWaiting 9 = .ok (.istore_n 1, 1) := by decide +kernel
theorem dX0_takeWaiting_10 : decode cX0_takeWaiting 10 = .ok (.aload_n 0, 1) := by decide +kernel
theorem dX0_takeWaiting_11 : decode cX0_takeWaiting 11 = .ok (.aload_n 0, 1) := by decide +kernel
theorem dX0_takeWaiting_12 : decode cX0_takeWaiting 12 = .ok (.getfield 142, 3) := by decide +kernel
theorem dX0_takeWaiting_15 : decode cX0_takeWaiting 15 = .ok (.iconst 1, 1) := by decide +kernel
theorem dX0_takeWaiting_16 : decode cX0_takeWaiting 16 = .ok (.iadd, 1) := by decide +kernel
theorem dX0_takeWaiting_17 : decode cX0_takeWaiting 17 = .ok (.bipush 120, 2) := by decide +kernel
theorem dX0_takeWaiting_19 : decode cX0_takeWaiting 19 = .ok (.irem, 1) := by decide +kernel
theorem dX0_takeWaiting_20 : decode cX0_takeWaiting 20 = .ok (.putfield 142, 3) := by decide +kernel
theorem dX0_takeWaiting_23 : decode cX0_takeWaiting 23 = .ok (.aload_n 0, 1) := by decide +kernel
theorem dX0_takeWaiting_24 : decode cX0_takeWaiting 24 = .ok (.dup, 1) := by decide +kernel
theorem dX0_takeWaiting_25 : decode cX0_takeWaiting 25 = .ok (.getfield 129, 3) := by decide +kernel
theorem dX0_takeWaiting_28 : decode cX0_takeWaiting 28 = .ok (.iconst 1, 1) := by decide +kernel
theorem dX0_takeWaiting_29 : decode cX0_takeWaiting 29 = .ok (.isub, 1) := by decide +kernel
theorem dX0_takeWaiting_30 : decode cX0_takeWaiting 30 = .ok (.putfield 129, 3) := by decide +kernel
theorem dX0_takeWaiting_33 : decode cX0_takeWaiting 33 = .ok (.aload_n 0, 1) := by decide +kernel
theorem dX0_takeWaiting_34 : decode cX0_takeWaiting 34 = .ok (.getfield 48, 3) := by decide +kernel
theorem dX0_takeWaiting_37 : decode cX0_takeWaiting 37 = .ok (.iload_n 1, 1) := by decide +kernel
theorem dX0_takeWaiting_38 : decode cX0_takeWaiting 38 = .ok (.iconst 0, 1) := by decide +kernel
theorem dX0_takeWaiting_39 : decode cX0_takeWaiting 39 = .ok (.bastore, 1) := by decide +kernel
theorem dX0_takeWaiting_40 : decode cX0_takeWaiting 40 = .ok (.iload_n 1, 1) := by decide +kernel
theorem dX0_takeWaiting_41 : decode cX0_takeWaiting 41 = .ok (.ireturn, 1) := by decide +kernel
end
section
def RX1 : String := "PartsFlowModel"
def TX1 : u_T := fun k => match k with
  | 0 => ("PartsFlowModel", "variables", "I", false)
  | 1 => ("PartsFlowModel", "parts", "[I", true)
  | 2 => ("PartsFlowModel", "once", "[Z", true)
  | 3 => ("PartsFlowModel", "given", "[Z", true)
  | 4 => ("PartsFlowModel", "points", "I", false)
  | 5 => ("PartsFlowModel", "doings", "[I", true)
  | 6 => ("PartsFlowModel", "of", "[I", true)
  | 7 => ("PartsFlowModel", "from", "[I", true)
  | 8 => ("PartsFlowModel", "many", "[I", true)
  | 9 => ("PartsFlowModel", "xs", "[I", true)
  | 10 => ("PartsFlowModel", "ys", "[I", true)
  | 11 => ("PartsFlowModel", "seen", "[Z", true)
  | 12 => ("PartsFlowModel", "pile", "[I", true)
  | _ => ("PartsFlowModel", "high", "I", false)
def tyX1 : Nat → FieldType := fun k => match k with
  | 0 => .int
  | 1 => .array .int
  | 2 => .array .boolean
  | 3 => .array .boolean
  | 4 => .int
  | 5 => .array .int
  | 6 => .array .int
  | 7 => .array .int
  | 8 => .array .int
  | 9 => .array .int
  | 10 => .array .int
  | 11 => .array .boolean
  | 12 => .array .int
  | _ => .int
abbrev wsX10 : List Cond := u_ws RX1 TX1 14
theorem nmX1 : ∀ a, a < 14 → ∀ b, b < 14 → a ≠ b → (TX1 a).2.1 ≠ (TX1 b).2.1 := by decide +kernel
theorem tyX1_ok : ∀ k, k < 14 → parseFieldDescriptor (TX1 k).2.2.1 = some (tyX1 k) := by decide +kernel
abbrev cX1_init : ByteArray := prog_3_method_1_code
def yX1_init : MethodName := ⟨RX1, "<init>", "()V"⟩
abbrev cX1_variable : ByteArray := prog_3_method_4_code
def yX1_variable : MethodName := ⟨RX1, "variable", "(IZZ)I"⟩
abbrev cX1_point : ByteArray := prog_3_method_5_code
def yX1_point : MethodName := ⟨RX1, "point", "(IIII)I"⟩
abbrev cX1_isVariable : ByteArray := prog_3_method_2_code
def yX1_isVariable : MethodName := ⟨RX1, "isVariable", "(I)Z"⟩
abbrev cX1_next : ByteArray := prog_3_method_6_code
def yX1_next : MethodName := ⟨RX1, "next", "(III)Z"⟩
abbrev cX1_isPoint : ByteArray := prog_3_method_3_code
def yX1_isPoint : MethodName := ⟨RX1, "isPoint", "(I)Z"⟩
abbrev cX1_isReached : ByteArray := prog_3_method_9_code
def yX1_isReached : MethodName := ⟨RX1, "isReached", "(I)Z"⟩
abbrev cX1_go : ByteArray := prog_3_method_8_code
def yX1_go : MethodName := ⟨RX1, "go", "(II)V"⟩
abbrev cX1_come : ByteArray := prog_3_method_7_code
def yX1_come : MethodName := ⟨RX1, "come", "(II)V"⟩
abbrev cX1_without : ByteArray := prog_3_method_11_code
def yX1_without : MethodName := ⟨RX1, "without", "(II)I"⟩
abbrev cX1_bits : ByteArray := prog_3_method_10_code
def yX1_bits : MethodName := ⟨RX1, "bits", "(III)I"⟩
abbrev cX1_having : ByteArray := prog_3_method_12_code
def yX1_having : MethodName := ⟨RX1, "having", "(II)I"⟩
abbrev cX1_fault : ByteArray := prog_3_method_13_code
def yX1_fault : MethodName := ⟨RX1, "fault", "(I)I"⟩
abbrev cX1_count : ByteArray := prog_3_method_14_code
def yX1_count : MethodName := ⟨RX1, "count", "(I)I"⟩
abbrev cX1_clear : ByteArray := prog_3_method_15_code
def yX1_clear : MethodName := ⟨RX1, "clear", "()I"⟩
def RL : String := "PartsFlowLaw"
abbrev cL_law : ByteArray := code
def yL_law : MethodName := ⟨RL, "law", "([I)Z"⟩
def wsX1_init : List Cond := .code yX1_init cX1_init 1 none :: ([.methodLink RX1 1 objectInit, .instanceMethod objectInit, .code objectInit ⟨#[0xb1]⟩ 1 none, .arrayClass .int, .fieldLink RX1 7 "PartsFlowModel" "parts" "[I", .arrayClass .boolean, .fieldLink RX1 13 "PartsFlowModel" "once" "[Z", .fieldLink RX1 17 "PartsFlowModel" "given" "[Z", .fieldLink RX1 20 "PartsFlowModel" "doings" "[I", .fieldLink RX1 23 "PartsFlowModel" "of" "[I", .fieldLink RX1 26 "PartsFlowModel" "from" "[I", .fieldLink RX1 29 "PartsFlowModel" "many" "[I", .fieldLink RX1 32 "PartsFlowModel" "xs" "[I", .fieldLink RX1 35 "PartsFlowModel" "ys" "[I", .fieldLink RX1 38 "PartsFlowModel" "seen" "[Z", .fieldLink RX1 41 "PartsFlowModel" "pile" "[I"] ++ wsX10)
def wsX1_variable : List Cond := .code yX1_variable cX1_variable 4 (some .int) :: ([.fieldLink RX1 44 "PartsFlowModel" "variables" "I", .fieldLink RX1 7 "PartsFlowModel" "parts" "[I", .fieldLink RX1 13 "PartsFlowModel" "once" "[Z", .fieldLink RX1 17 "PartsFlowModel" "given" "[Z"] ++ wsX10)
def wsX1_isVariable : List Cond := .code yX1_isVariable cX1_isVariable 2 (some .boolean) :: ([.fieldLink RX1 44 "PartsFlowModel" "variables" "I"] ++ wsX10)
def wsX1_point : List Cond := .code yX1_point cX1_point 6 (some .int) :: ([.fieldLink RX1 48 "PartsFlowModel" "points" "I", .methodLink RX1 51 yX1_isVariable, .instanceMethod yX1_isVariable, .selects RX1 yX1_isVariable yX1_isVariable, .initialized RX1, .code yX1_isVariable cX1_isVariable 2 (some .boolean), .fieldLink RX1 44 "PartsFlowModel" "variables" "I", .fieldLink RX1 7 "PartsFlowModel" "parts" "[I", .fieldLink RX1 20 "PartsFlowModel" "doings" "[I", .fieldLink RX1 23 "PartsFlowModel" "of" "[I", .fieldLink RX1 26 "PartsFlowModel" "from" "[I", .fieldLink RX1 29 "PartsFlowModel" "many" "[I", .fieldLink RX1 32 "PartsFlowModel" "xs" "[I", .fieldLink RX1 35 "PartsFlowModel" "ys" "[I"] ++ wsX10)
def wsX1_isPoint : List Cond := .code yX1_isPoint cX1_isPoint 2 (some .boolean) :: ([.fieldLink RX1 48 "PartsFlowModel" "points" "I"] ++ wsX10)
def wsX1_next : List Cond := .code yX1_next cX1_next 4 (some .boolean) :: ([.methodLink RX1 55 yX1_isPoint, .instanceMethod yX1_isPoint, .selects RX1 yX1_isPoint yX1_isPoint, .initialized RX1, .code yX1_isPoint cX1_isPoint 2 (some .boolean), .fieldLink RX1 48 "PartsFlowModel" "points" "I", .fieldLink RX1 32 "PartsFlowModel" "xs" "[I", .fieldLink RX1 35 "PartsFlowModel" "ys" "[I"] ++ wsX10)
def wsX1_come : List Cond := .code yX1_come cX1_come 3 none :: ([.methodLink RX1 55 yX1_isPoint, .instanceMethod yX1_isPoint, .selects RX1 yX1_isPoint yX1_isPoint, .initialized RX1, .code yX1_isPoint cX1_isPoint 2 (some .boolean), .fieldLink RX1 48 "PartsFlowModel" "points" "I", .fieldLink RX1 38 "PartsFlowModel" "seen" "[Z", .fieldLink RX1 41 "PartsFlowModel" "pile" "[I", .fieldLink RX1 58 "PartsFlowModel" "high" "I"] ++ wsX10)
def wsX1_go : List Cond := .code yX1_go cX1_go 7 none :: ([.fieldLink RX1 38 "PartsFlowModel" "seen" "[Z", .fieldLink RX1 58 "PartsFlowModel" "high" "I", .methodLink RX1 51 yX1_isVariable, .instanceMethod yX1_isVariable, .selects RX1 yX1_isVariable yX1_isVariable, .initialized RX1, .code yX1_isVariable cX1_isVariable 2 (some .boolean), .fieldLink RX1 44 "PartsFlowModel" "variables" "I", .fieldLink RX1 17 "PartsFlowModel" "given" "[Z", .methodLink RX1 61 yX1_come, .instanceMethod yX1_come, .selects RX1 yX1_come yX1_come, .code yX1_come cX1_come 3 none, .methodLink RX1 55 yX1_isPoint, .instanceMethod yX1_isPoint, .selects RX1 yX1_isPoint yX1_isPoint, .code yX1_isPoint cX1_isPoint 2 (some .boolean), .fieldLink RX1 48 "PartsFlowModel" "points" "I", .fieldLink RX1 41 "PartsFlowModel" "pile" "[I", .fieldLink RX1 23 "PartsFlowModel" "of" "[I", .fieldLink RX1 26 "PartsFlowModel" "from" "[I", .fieldLink RX1 29 "PartsFlowModel" "many" "[I", .fieldLink RX1 20 "PartsFlowModel" "doings" "[I", .fieldLink RX1 32 "PartsFlowModel" "xs" "[I", .fieldLink RX1 35 "PartsFlowModel" "ys" "[I"] ++ wsX10)
def wsX1_isReached : List Cond := .code yX1_isReached cX1_isReached 2 (some .boolean) :: ([.methodLink RX1 65 yX1_go, .instanceMethod yX1_go, .selects RX1 yX1_go yX1_go, .initialized RX1, .code yX1_go cX1_go 7 none, .fieldLink RX1 38 "PartsFlowModel" "seen" "[Z", .fieldLink RX1 58 "PartsFlowModel" "high" "I", .methodLink RX1 51 yX1_isVariable, .instanceMethod yX1_isVariable, .selects RX1 yX1_isVariable yX1_isVariable, .code yX1_isVariable cX1_isVariable 2 (some .boolean), .fieldLink RX1 44 "PartsFlowModel" "variables" "I", .fieldLink RX1 17 "PartsFlowModel" "given" "[Z", .methodLink RX1 61 yX1_come, .instanceMethod yX1_come, .selects RX1 yX1_come yX1_come, .code yX1_come cX1_come 3 none, .methodLink RX1 55 yX1_isPoint, .instanceMethod yX1_isPoint, .selects RX1 yX1_isPoint yX1_isPoint, .code yX1_isPoint cX1_isPoint 2 (some .boolean), .fieldLink RX1 48 "PartsFlowModel" "points" "I", .fieldLink RX1 41 "PartsFlowModel" "pile" "[I", .fieldLink RX1 23 "PartsFlowModel" "of" "[I", .fieldLink RX1 26 "PartsFlowModel" "from" "[I", .fieldLink RX1 29 "PartsFlowModel" "many" "[I", .fieldLink RX1 20 "PartsFlowModel" "doings" "[I", .fieldLink RX1 32 "PartsFlowModel" "xs" "[I", .fieldLink RX1 35 "PartsFlowModel" "ys" "[I"] ++ wsX10)
def wsX1_bits : List Cond := .code yX1_bits cX1_bits 6 (some .int) :: ([.methodLink RX1 55 yX1_isPoint, .instanceMethod yX1_isPoint, .selects RX1 yX1_isPoint yX1_isPoint, .initialized RX1, .code yX1_isPoint cX1_isPoint 2 (some .boolean), .fieldLink RX1 48 "PartsFlowModel" "points" "I", .methodLink RX1 51 yX1_isVariable, .instanceMethod yX1_isVariable, .selects RX1 yX1_isVariable yX1_isVariable, .code yX1_isVariable cX1_isVariable 2 (some .boolean), .fieldLink RX1 44 "PartsFlowModel" "variables" "I", .fieldLink RX1 7 "PartsFlowModel" "parts" "[I", .methodLink RX1 65 yX1_go, .instanceMethod yX1_go, .selects RX1 yX1_go yX1_go, .code yX1_go cX1_go 7 none, .fieldLink RX1 38 "PartsFlowModel" "seen" "[Z", .fieldLink RX1 58 "PartsFlowModel" "high" "I", .fieldLink RX1 17 "PartsFlowModel" "given" "[Z", .methodLink RX1 61 yX1_come, .instanceMethod yX1_come, .selects RX1 yX1_come yX1_come, .code yX1_come cX1_come 3 none, .fieldLink RX1 41 "PartsFlowModel" "pile" "[I", .fieldLink RX1 23 "PartsFlowModel" "of" "[I", .fieldLink RX1 26 "PartsFlowModel" "from" "[I", .fieldLink RX1 29 "PartsFlowModel" "many" "[I", .fieldLink RX1 20 "PartsFlowModel" "doings" "[I", .fieldLink RX1 32 "PartsFlowModel" "xs" "[I", .fieldLink RX1 35 "PartsFlowModel" "ys" "[I"] ++ wsX10)
def wsX1_without : List Cond := .code yX1_without cX1_without 3 (some .int) :: ([.methodLink RX1 68 yX1_bits, .instanceMethod yX1_bits, .selects RX1 yX1_bits yX1_bits, .initialized RX1, .code yX1_bits cX1_bits 6 (some .int), .methodLink RX1 55 yX1_isPoint, .instanceMethod yX1_isPoint, .selects RX1 yX1_isPoint yX1_isPoint, .code yX1_isPoint cX1_isPoint 2 (some .boolean), .fieldLink RX1 48 "PartsFlowModel" "points" "I", .methodLink RX1 51 yX1_isVariable, .instanceMethod yX1_isVariable, .selects RX1 yX1_isVariable yX1_isVariable, .code yX1_isVariable cX1_isVariable 2 (some .boolean), .fieldLink RX1 44 "PartsFlowModel" "variables" "I", .fieldLink RX1 7 "PartsFlowModel" "parts" "[I", .methodLink RX1 65 yX1_go, .instanceMethod yX1_go, .selects RX1 yX1_go yX1_go, .code yX1_go cX1_go 7 none, .fieldLink RX1 38 "PartsFlowModel" "seen" "[Z", .fieldLink RX1 58 "PartsFlowModel" "high" "I", .fieldLink RX1 17 "PartsFlowModel" "given" "[Z", .methodLink RX1 61 yX1_come, .instanceMethod yX1_come, .selects RX1 yX1_come yX1_come, .code yX1_come cX1_come 3 none, .fieldLink RX1 41 "PartsFlowModel" "pile" "[I", .fieldLink RX1 23 "PartsFlowModel" "of" "[I", .fieldLink RX1 26 "PartsFlowModel" "from" "[I", .fieldLink RX1 29 "PartsFlowModel" "many" "[I", .fieldLink RX1 20 "PartsFlowModel" "doings" "[I", .fieldLink RX1 32 "PartsFlowModel" "xs" "[I", .fieldLink RX1 35 "PartsFlowModel" "ys" "[I"] ++ wsX10)
def wsX1_having : List Cond := .code yX1_having cX1_having 3 (some .int) :: ([.methodLink RX1 68 yX1_bits, .instanceMethod yX1_bits, .selects RX1 yX1_bits yX1_bits, .initialized RX1, .code yX1_bits cX1_bits 6 (some .int), .methodLink RX1 55 yX1_isPoint, .instanceMethod yX1_isPoint, .selects RX1 yX1_isPoint yX1_isPoint, .code yX1_isPoint cX1_isPoint 2 (some .boolean), .fieldLink RX1 48 "PartsFlowModel" "points" "I", .methodLink RX1 51 yX1_isVariable, .instanceMethod yX1_isVariable, .selects RX1 yX1_isVariable yX1_isVariable, .code yX1_isVariable cX1_isVariable 2 (some .boolean), .fieldLink RX1 44 "PartsFlowModel" "variables" "I", .fieldLink RX1 7 "PartsFlowModel" "parts" "[I", .methodLink RX1 65 yX1_go, .instanceMethod yX1_go, .selects RX1 yX1_go yX1_go, .code yX1_go cX1_go 7 none, .fieldLink RX1 38 "PartsFlowModel" "seen" "[Z", .fieldLink RX1 58 "PartsFlowModel" "high" "I", .fieldLink RX1 17 "PartsFlowModel" "given" "[Z", .methodLink RX1 61 yX1_come, .instanceMethod yX1_come, .selects RX1 yX1_come yX1_come, .code yX1_come cX1_come 3 none, .fieldLink RX1 41 "PartsFlowModel" "pile" "[I", .fieldLink RX1 23 "PartsFlowModel" "of" "[I", .fieldLink RX1 26 "PartsFlowModel" "from" "[I", .fieldLink RX1 29 "PartsFlowModel" "many" "[I", .fieldLink RX1 20 "PartsFlowModel" "doings" "[I", .fieldLink RX1 32 "PartsFlowModel" "xs" "[I", .fieldLink RX1 35 "PartsFlowModel" "ys" "[I"] ++ wsX10)
def wsX1_fault : List Cond := .code yX1_fault cX1_fault 5 (some .int) :: ([.methodLink RX1 55 yX1_isPoint, .instanceMethod yX1_isPoint, .selects RX1 yX1_isPoint yX1_isPoint, .initialized RX1, .code yX1_isPoint cX1_isPoint 2 (some .boolean), .fieldLink RX1 48 "PartsFlowModel" "points" "I", .fieldLink RX1 20 "PartsFlowModel" "doings" "[I", .methodLink RX1 72 yX1_isReached, .instanceMethod yX1_isReached, .selects RX1 yX1_isReached yX1_isReached, .code yX1_isReached cX1_isReached 2 (some .boolean), .methodLink RX1 65 yX1_go, .instanceMethod yX1_go, .selects RX1 yX1_go yX1_go, .code yX1_go cX1_go 7 none, .fieldLink RX1 38 "PartsFlowModel" "seen" "[Z", .fieldLink RX1 58 "PartsFlowModel" "high" "I", .methodLink RX1 51 yX1_isVariable, .instanceMethod yX1_isVariable, .selects RX1 yX1_isVariable yX1_isVariable, .code yX1_isVariable cX1_isVariable 2 (some .boolean), .fieldLink RX1 44 "PartsFlowModel" "variables" "I", .fieldLink RX1 17 "PartsFlowModel" "given" "[Z", .methodLink RX1 61 yX1_come, .instanceMethod yX1_come, .selects RX1 yX1_come yX1_come, .code yX1_come cX1_come 3 none, .fieldLink RX1 41 "PartsFlowModel" "pile" "[I", .fieldLink RX1 23 "PartsFlowModel" "of" "[I", .fieldLink RX1 26 "PartsFlowModel" "from" "[I", .fieldLink RX1 29 "PartsFlowModel" "many" "[I", .fieldLink RX1 32 "PartsFlowModel" "xs" "[I", .fieldLink RX1 35 "PartsFlowModel" "ys" "[I", .methodLink RX1 75 yX1_without, .instanceMethod yX1_without, .selects RX1 yX1_without yX1_without, .code yX1_without cX1_without 3 (some .int), .methodLink RX1 68 yX1_bits, .instanceMethod yX1_bits, .selects RX1 yX1_bits yX1_bits, .code yX1_bits cX1_bits 6 (some .int), .fieldLink RX1 7 "PartsFlowModel" "parts" "[I", .fieldLink RX1 13 "PartsFlowModel" "once" "[Z", .methodLink RX1 79 yX1_having, .instanceMethod yX1_having, .selects RX1 yX1_having yX1_having, .code yX1_having cX1_having 3 (some .int)] ++ wsX10)
def wsX1_count : List Cond := .code yX1_count cX1_count 8 (some .int) :: ([.fieldLink RX1 48 "PartsFlowModel" "points" "I", .methodLink RX1 72 yX1_isReached, .instanceMethod yX1_isReached, .selects RX1 yX1_isReached yX1_isReached, .initialized RX1, .code yX1_isReached cX1_isReached 2 (some .boolean), .methodLink RX1 65 yX1_go, .instanceMethod yX1_go, .selects RX1 yX1_go yX1_go, .code yX1_go cX1_go 7 none, .fieldLink RX1 38 "PartsFlowModel" "seen" "[Z", .fieldLink RX1 58 "PartsFlowModel" "high" "I", .methodLink RX1 51 yX1_isVariable, .instanceMethod yX1_isVariable, .selects RX1 yX1_isVariable yX1_isVariable, .code yX1_isVariable cX1_isVariable 2 (some .boolean), .fieldLink RX1 44 "PartsFlowModel" "variables" "I", .fieldLink RX1 17 "PartsFlowModel" "given" "[Z", .methodLink RX1 61 yX1_come, .instanceMethod yX1_come, .selects RX1 yX1_come yX1_come, .code yX1_come cX1_come 3 none, .methodLink RX1 55 yX1_isPoint, .instanceMethod yX1_isPoint, .selects RX1 yX1_isPoint yX1_isPoint, .code yX1_isPoint cX1_isPoint 2 (some .boolean), .fieldLink RX1 41 "PartsFlowModel" "pile" "[I", .fieldLink RX1 23 "PartsFlowModel" "of" "[I", .fieldLink RX1 26 "PartsFlowModel" "from" "[I", .fieldLink RX1 29 "PartsFlowModel" "many" "[I", .fieldLink RX1 20 "PartsFlowModel" "doings" "[I", .fieldLink RX1 32 "PartsFlowModel" "xs" "[I", .fieldLink RX1 35 "PartsFlowModel" "ys" "[I", .methodLink RX1 82 yX1_fault, .instanceMethod yX1_fault, .selects RX1 yX1_fault yX1_fault, .code yX1_fault cX1_fault 5 (some .int), .methodLink RX1 75 yX1_without, .instanceMethod yX1_without, .selects RX1 yX1_without yX1_without, .code yX1_without cX1_without 3 (some .int), .methodLink RX1 68 yX1_bits, .instanceMethod yX1_bits, .selects RX1 yX1_bits yX1_bits, .code yX1_bits cX1_bits 6 (some .int), .fieldLink RX1 7 "PartsFlowModel" "parts" "[I", .fieldLink RX1 13 "PartsFlowModel" "once" "[Z", .methodLink RX1 79 yX1_having, .instanceMethod yX1_having, .selects RX1 yX1_having yX1_having, .code yX1_having cX1_having 3 (some .int)] ++ wsX10)
def wsX1_clear : List Cond := .code yX1_clear cX1_clear 2 (some .int) :: ([.fieldLink RX1 48 "PartsFlowModel" "points" "I"] ++ wsX10)
set_option maxRecDepth 20000 in
theorem ggX1_point_X1_isVariable : GoodIn wsX1_point wsX1_isVariable := goodIn_r _ [6, 7, 15, 16, 17, 18, 19, 20, 21, 22, 23, 24, 25, 26, 27, 28] (by decide +kernel) (by decide +kernel)
set_option maxRecDepth 20000 in
theorem gX1_point_X1_isVariable : GoodIn wsX1_point (wsV RX1 51 RX1 yX1_isVariable wsX1_isVariable) := goodIn_app (goodIn_of _ (by decide +kernel)) ggX1_point_X1_isVariable
set_option maxRecDepth 20000 in
theorem ggX1_next_X1_isPoint : GoodIn wsX1_next wsX1_isPoint := goodIn_r _ [5, 6, 9, 10, 11, 12, 13, 14, 15, 16, 17, 18, 19, 20, 21, 22] (by decide +kernel) (by decide +kernel)
set_option maxRecDepth 20000 in
theorem gX1_next_X1_isPoint : GoodIn wsX1_next (wsV RX1 55 RX1 yX1_isPoint wsX1_isPoint) := goodIn_app (goodIn_of _ (by decide +kernel)) ggX1_next_X1_isPoint
set_option maxRecDepth 20000 in
theorem ggX1_come_X1_isPoint : GoodIn wsX1_come wsX1_isPoint := goodIn_r _ [5, 6, 10, 11, 12, 13, 14, 15, 16, 17, 18, 19, 20, 21, 22, 23] (by decide +kernel) (by decide +kernel)
set_option maxRecDepth 20000 in
theorem gX1_come_X1_isPoint : GoodIn wsX1_come (wsV RX1 55 RX1 yX1_isPoint wsX1_isPoint) := goodIn_app (goodIn_of _ (by decide +kernel)) ggX1_come_X1_isPoint
set_option maxRecDepth 20000 in
theorem ggX1_go_X1_isVariable : GoodIn wsX1_go wsX1_isVariable := goodIn_r _ [7, 8, 26, 27, 28, 29, 30, 31, 32, 33, 34, 35, 36, 37, 38, 39] (by decide +kernel) (by decide +kernel)
set_option maxRecDepth 20000 in
theorem gX1_go_X1_isVariable : GoodIn wsX1_go (wsV RX1 51 RX1 yX1_isVariable wsX1_isVariable) := goodIn_app (goodIn_of _ (by decide +kernel)) ggX1_go_X1_isVariable
set_option maxRecDepth 20000 in
theorem ggX1_go_X1_come : GoodIn wsX1_go wsX1_come := goodIn_r _ [13, 14, 15, 16, 6, 17, 18, 1, 19, 2, 26, 27, 28, 29, 30, 31, 32, 33, 34, 35, 36, 37, 38, 39] (by decide +kernel) (by decide +kernel)
set_option maxRecDepth 20000 in
theorem gX1_go_X1_come : GoodIn wsX1_go (wsV RX1 61 RX1 yX1_come wsX1_come) := goodIn_app (goodIn_of _ (by decide +kernel)) ggX1_go_X1_come
set_option maxRecDepth 20000 in
theorem ggX1_isReached_X1_go : GoodIn wsX1_isReached wsX1_go := goodIn_r _ [5, 6, 7, 8, 9, 10, 4, 11, 12, 13, 14, 15, 16, 17, 18, 19, 20, 21, 22, 23, 24, 25, 26, 27, 28, 29, 30, 31, 32, 33, 34, 35, 36, 37, 38, 39, 40, 41, 42, 43] (by decide +kernel) (by decide +kernel)
set_option maxRecDepth 20000 in
theorem gX1_isReached_X1_go : GoodIn wsX1_isReached (wsV RX1 65 RX1 yX1_go wsX1_go) := goodIn_app (goodIn_of _ (by decide +kernel)) ggX1_isReached_X1_go
set_option maxRecDepth 20000 in
theorem ggX1_isReached_X1_isPoint : GoodIn wsX1_isReached wsX1_isPoint := goodIn_r _ [21, 22, 30, 31, 32, 33, 34, 35, 36, 37, 38, 39, 40, 41, 42, 43] (by decide +kernel) (by decide +kernel)
set_option maxRecDepth 20000 in
theorem gX1_isReached_X1_isPoint : GoodIn wsX1_isReached (wsV RX1 55 RX1 yX1_isPoint wsX1_isPoint) := goodIn_app (goodIn_of _ (by decide +kernel)) ggX1_isReached_X1_isPoint
set_option maxRecDepth 20000 in
theorem ggX1_bits_X1_isPoint : GoodIn wsX1_bits wsX1_isPoint := goodIn_r _ [5, 6, 31, 32, 33, 34, 35, 36, 37, 38, 39, 40, 41, 42, 43, 44] (by decide +kernel) (by decide +kernel)
set_option maxRecDepth 20000 in
theorem gX1_bits_X1_isPoint : GoodIn wsX1_bits (wsV RX1 55 RX1 yX1_isPoint wsX1_isPoint) := goodIn_app (goodIn_of _ (by decide +kernel)) ggX1_bits_X1_isPoint
set_option maxRecDepth 20000 in
theorem ggX1_bits_X1_isVariable : GoodIn wsX1_bits wsX1_isVariable := goodIn_r _ [10, 11, 31, 32, 33, 34, 35, 36, 37, 38, 39, 40, 41, 42, 43, 44] (by decide +kernel) (by decide +kernel)
set_option maxRecDepth 20000 in
theorem gX1_bits_X1_isVariable : GoodIn wsX1_bits (wsV RX1 51 RX1 yX1_isVariable wsX1_isVariable) := goodIn_app (goodIn_of _ (by decide +kernel)) ggX1_bits_X1_isVariable
set_option maxRecDepth 20000 in
theorem ggX1_bits_X1_go : GoodIn wsX1_bits wsX1_go := goodIn_r _ [16, 17, 18, 7, 8, 9, 4, 10, 11, 19, 20, 21, 22, 23, 1, 2, 3, 5, 6, 24, 25, 26, 27, 28, 29, 30, 31, 32, 33, 34, 35, 36, 37, 38, 39, 40, 41, 42, 43, 44] (by decide +kernel) (by decide +kernel)
set_option maxRecDepth 20000 in
theorem gX1_bits_X1_go : GoodIn wsX1_bits (wsV RX1 65 RX1 yX1_go wsX1_go) := goodIn_app (goodIn_of _ (by decide +kernel)) ggX1_bits_X1_go
set_option maxRecDepth 20000 in
theorem ggX1_without_X1_bits : GoodIn wsX1_without wsX1_bits := goodIn_r _ [5, 6, 7, 8, 4, 9, 10, 11, 12, 13, 14, 15, 16, 17, 18, 19, 20, 21, 22, 23, 24, 25, 26, 27, 28, 29, 30, 31, 32, 33, 34, 35, 36, 37, 38, 39, 40, 41, 42, 43, 44, 45, 46, 47, 48] (by decide +kernel) (by decide +kernel)
set_option maxRecDepth 20000 in
theorem gX1_without_X1_bits : GoodIn wsX1_without (wsV RX1 68 RX1 yX1_bits wsX1_bits) := goodIn_app (goodIn_of _ (by decide +kernel)) ggX1_without_X1_bits
set_option maxRecDepth 20000 in
theorem ggX1_having_X1_bits : GoodIn wsX1_having wsX1_bits := goodIn_r _ [5, 6, 7, 8, 4, 9, 10, 11, 12, 13, 14, 15, 16, 17, 18, 19, 20, 21, 22, 23, 24, 25, 26, 27, 28, 29, 30, 31, 32, 33, 34, 35, 36, 37, 38, 39, 40, 41, 42, 43, 44, 45, 46, 47, 48] (by decide +kernel) (by decide +kernel)
set_option maxRecDepth 20000 in
theorem gX1_having_X1_bits : GoodIn wsX1_having (wsV RX1 68 RX1 yX1_bits wsX1_bits) := goodIn_app (goodIn_of _ (by decide +kernel)) ggX1_having_X1_bits
set_option maxRecDepth 20000 in
theorem ggX1_fault_X1_isPoint : GoodIn wsX1_fault wsX1_isPoint := goodIn_r _ [5, 6, 48, 49, 50, 51, 52, 53, 54, 55, 56, 57, 58, 59, 60, 61] (by decide +kernel) (by decide +kernel)
set_option maxRecDepth 20000 in
theorem gX1_fault_X1_isPoint : GoodIn wsX1_fault (wsV RX1 55 RX1 yX1_isPoint wsX1_isPoint) := goodIn_app (goodIn_of _ (by decide +kernel)) ggX1_fault_X1_isPoint
set_option maxRecDepth 20000 in
theorem ggX1_fault_X1_isReached : GoodIn wsX1_fault wsX1_isReached := goodIn_r _ [11, 12, 13, 14, 4, 15, 16, 17, 18, 19, 20, 21, 22, 23, 24, 25, 26, 27, 1, 2, 3, 5, 6, 28, 29, 30, 31, 7, 32, 33, 48, 49, 50, 51, 52, 53, 54, 55, 56, 57, 58, 59, 60, 61] (by decide +kernel) (by decide +kernel)
set_option maxRecDepth 20000 in
theorem gX1_fault_X1_isReached : GoodIn wsX1_fault (wsV RX1 72 RX1 yX1_isReached wsX1_isReached) := goodIn_app (goodIn_of _ (by decide +kernel)) ggX1_fault_X1_isReached
set_option maxRecDepth 20000 in
theorem ggX1_fault_X1_without : GoodIn wsX1_fault wsX1_without := goodIn_r _ [37, 38, 39, 40, 4, 41, 1, 2, 3, 5, 6, 18, 19, 20, 21, 22, 42, 12, 13, 14, 15, 16, 17, 23, 24, 25, 26, 27, 28, 29, 30, 31, 7, 32, 33, 48, 49, 50, 51, 52, 53, 54, 55, 56, 57, 58, 59, 60, 61] (by decide +kernel) (by decide +kernel)
set_option maxRecDepth 20000 in
theorem gX1_fault_X1_without : GoodIn wsX1_fault (wsV RX1 75 RX1 yX1_without wsX1_without) := goodIn_app (goodIn_of _ (by decide +kernel)) ggX1_fault_X1_without
set_option maxRecDepth 20000 in
theorem ggX1_fault_X1_having : GoodIn wsX1_fault wsX1_having := goodIn_r _ [47, 38, 39, 40, 4, 41, 1, 2, 3, 5, 6, 18, 19, 20, 21, 22, 42, 12, 13, 14, 15, 16, 17, 23, 24, 25, 26, 27, 28, 29, 30, 31, 7, 32, 33, 48, 49, 50, 51, 52, 53, 54, 55, 56, 57, 58, 59, 60, 61] (by decide +kernel) (by decide +kernel)
set_option maxRecDepth 20000 in
theorem gX1_fault_X1_having : GoodIn wsX1_fault (wsV RX1 79 RX1 yX1_having wsX1_having) := goodIn_app (goodIn_of _ (by decide +kernel)) ggX1_fault_X1_having
set_option maxRecDepth 20000 in
theorem ggX1_count_X1_isReached : GoodIn wsX1_count wsX1_isReached := goodIn_r _ [6, 7, 8, 9, 5, 10, 11, 12, 13, 14, 15, 16, 17, 18, 19, 20, 21, 22, 23, 24, 25, 26, 1, 27, 28, 29, 30, 31, 32, 33, 52, 53, 54, 55, 56, 57, 58, 59, 60, 61, 62, 63, 64, 65] (by decide +kernel) (by decide +kernel)
set_option maxRecDepth 20000 in
theorem gX1_count_X1_isReached : GoodIn wsX1_count (wsV RX1 72 RX1 yX1_isReached wsX1_isReached) := goodIn_app (goodIn_of _ (by decide +kernel)) ggX1_count_X1_isReached
set_option maxRecDepth 20000 in
theorem ggX1_count_X1_fault : GoodIn wsX1_count wsX1_fault := goodIn_r _ [37, 23, 24, 25, 5, 26, 1, 31, 2, 3, 4, 6, 7, 8, 9, 10, 11, 12, 13, 14, 15, 16, 17, 18, 19, 20, 21, 22, 27, 28, 29, 30, 32, 33, 38, 39, 40, 41, 42, 43, 44, 45, 46, 47, 48, 49, 50, 51, 52, 53, 54, 55, 56, 57, 58, 59, 60, 61, 62, 63, 64, 65] (by decide +kernel) (by decide +kernel)
set_option maxRecDepth 20000 in
theorem gX1_count_X1_fault : GoodIn wsX1_count (wsV RX1 82 RX1 yX1_fault wsX1_fault) := goodIn_app (goodIn_of _ (by decide +kernel)) ggX1_count_X1_fault
theorem dX1_init_0 : decode cX1_init 0 = .ok (.aload_n 0, 1) := by decide +kernel
theorem dX1_init_1 : decode cX1_init 1 = .ok (.invokespecial 1, 3) := by decide +kernel
theorem dX1_init_4 : decode cX1_init 4 = .ok (.aload_n 0, 1) := by decide +kernel
theorem dX1_init_5 : decode cX1_init 5 = .ok (.bipush 20, 2) := by decide +kernel
theorem dX1_init_7 : decode cX1_init 7 = .ok (.newarray .int, 2) := by decide +kernel
theorem dX1_init_9 : decode cX1_init 9 = .ok (.putfield 7, 3) := by decide +kernel
theorem dX1_init_12 : decode cX1_init 12 = .ok (.aload_n 0, 1) := by decide +kernel
theorem dX1_init_13 : decode cX1_init 13 = .ok (.bipush 20, 2) := by decide +kernel
theorem dX1_init_15 : decode cX1_init 15 = .ok (.newarray .boolean, 2) := by decide +kernel
theorem dX1_init_17 : decode cX1_init 17 = .ok (.putfield 13, 3) := by decide +kernel
theorem dX1_init_20 : decode cX1_init 20 = .ok (.aload_n 0, 1) := by decide +kernel
theorem dX1_init_21 : decode cX1_init 21 = .ok (.bipush 20, 2) := by decide +kernel
theorem dX1_init_23 : decode cX1_init 23 = .ok (.newarray .boolean, 2) := by decide +kernel
theorem dX1_init_25 : decode cX1_init 25 = .ok (.putfield 17, 3) := by decide +kernel
theorem dX1_init_28 : decode cX1_init 28 = .ok (.aload_n 0, 1) := by decide +kernel
theorem dX1_init_29 : decode cX1_init 29 = .ok (.bipush 120, 2) := by decide +kernel
theorem dX1_init_31 : decode cX1_init 31 = .ok (.newarray .int, 2) := by decide +kernel
theorem dX1_init_33 : decode cX1_init 33 = .ok (.putfield 20, 3) := by decide +kernel
theorem dX1_init_36 : decode cX1_init 36 = .ok (.aload_n 0, 1) := by decide +kernel
theorem dX1_init_37 : decode cX1_init 37 = .ok (.bipush 120, 2) := by decide +kernel
theorem dX1_init_39 : decode cX1_init 39 = .ok (.newarray .int, 2) := by decide +kernel
theorem dX1_init_41 : decode cX1_init 41 = .ok (.putfield 23, 3) := by decide +kernel
theorem dX1_init_44 : decode cX1_init 44 = .ok (.aload_n 0, 1) := by decide +kernel
theorem dX1_init_45 : decode cX1_init 45 = .ok (.bipush 120, 2) := by decide +kernel
theorem dX1_init_47 : decode cX1_init 47 = .ok (.newarray .int, 2) := by decide +kernel
theorem dX1_init_49 : decode cX1_init 49 = .ok (.putfield 26, 3) := by decide +kernel
theorem dX1_init_52 : decode cX1_init 52 = .ok (.aload_n 0, 1) := by decide +kernel
theorem dX1_init_53 : decode cX1_init 53 = .ok (.bipush 120, 2) := by decide +kernel
theorem dX1_init_55 : decode cX1_init 55 = .ok (.newarray .int, 2) := by decide +kernel
theorem dX1_init_57 : decode cX1_init 57 = .ok (.putfield 29, 3) := by decide +kernel
theorem dX1_init_60 : decode cX1_init 60 = .ok (.aload_n 0, 1) := by decide +kernel
theorem dX1_init_61 : decode cX1_init 61 = .ok (.bipush 120, 2) := by decide +kernel
theorem dX1_init_63 : decode cX1_init 63 = .ok (.newarray .int, 2) := by decide +kernel
theorem dX1_init_65 : decode cX1_init 65 = .ok (.putfield 32, 3) := by decide +kernel
theorem dX1_init_68 : decode cX1_init 68 = .ok (.aload_n 0, 1) := by decide +kernel
theorem dX1_init_69 : decode cX1_init 69 = .ok (.bipush 120, 2) := by decide +kernel
theorem dX1_init_71 : decode cX1_init 71 = .ok (.newarray .int, 2) := by decide +kernel
theorem dX1_init_73 : decode cX1_init 73 = .ok (.putfield 35, 3) := by decide +kernel
theorem dX1_init_76 : decode cX1_init 76 = .ok (.aload_n 0, 1) := by decide +kernel
theorem dX1_init_77 : decode cX1_init 77 = .ok (.sipush 240, 3) := by decide +kernel
theorem dX1_init_80 : decode cX1_init 80 = .ok (.newarray .boolean, 2) := by decide +kernel
theorem dX1_init_82 : decode cX1_init 82 = .ok (.putfield 38, 3) := by decide +kernel
theorem dX1_init_85 : decode cX1_init 85 = .ok (.aload_n 0, 1) := by decide +kernel
theorem dX1_init_86 : decode cX1_init 86 = .ok (.sipush 240, 3) := by decide +kernel
theorem dX1_init_89 : decode cX1_init 89 = .ok (.newarray .int, 2) := by decide +kernel
theorem dX1_init_91 : decode cX1_init 91 = .ok (.putfield 41, 3) := by decide +kernel
theorem dX1_init_94 : decode cX1_init 94 = .ok (.return_, 1) := by decide +kernel
theorem dX1_variable_0 : decode cX1_variable 0 = .ok (.iload_n 1, 1) := by decide +kernel
theorem dX1_variable_1 : decode cX1_variable 1 = .ok (.iconst 1, 1) := by decide +kernel
theorem dX1_variable_2 : decode cX1_variable 2 = .ok (.if_icmp .lt 18, 3) := by decide +kernel
theorem dX1_variable_5 : decode cX1_variable 5 = .ok (.iload_n 1, 1) := by decide +kernel
theorem dX1_variable_6 : decode cX1_variable 6 = .ok (.bipush 8, 2) := by decide +kernel
theorem dX1_variable_8 : decode cX1_variable 8 = .ok (.if_icmp .gt 12, 3) := by decide +kernel
theorem dX1_variable_11 : decode cX1_variable 11 = .ok (.aload_n 0, 1) := by decide +kernel
theorem dX1_variable_12 : decode cX1_variable 12 = .ok (.getfield 44, 3) := by decide +kernel
theorem dX1_variable_15 : decode cX1_variable 15 = .ok (.bipush 20, 2) := by decide +kernel
theorem dX1_variable_17 : decode cX1_variable 17 = .ok (.if_icmp .ne 5, 3) := by decide +kernel
theorem dX1_variable_20 : decode cX1_variable 20 = .ok (.iconst (-1), 1) := by decide +kernel
theorem dX1_variable_21 : decode cX1_variable 21 = .ok (.ireturn, 1) := by decide +kernel
theorem dX1_variable_22 : decode cX1_variable 22 = .ok (.aload_n 0, 1) := by decide +kernel
theorem dX1_variable_23 : decode cX1_variable 23 = .ok (.getfield 7, 3) := by decide +kernel
theorem dX1_variable_26 : decode cX1_variable 26 = .ok (.aload_n 0, 1) := by decide +kernel
theorem dX1_variable_27 : decode cX1_variable 27 = .ok (.getfield 44, 3) := by decide +kernel
theorem dX1_variable_30 : decode cX1_variable 30 = .ok (.iload_n 1, 1) := by decide +kernel
theorem dX1_variable_31 : decode cX1_variable 31 = .ok (.iastore, 1) := by decide +kernel
theorem dX1_variable_32 : decode cX1_variable 32 = .ok (.aload_n 0, 1) := by decide +kernel
theorem dX1_variable_33 : decode cX1_variable 33 = .ok (.getfield 13, 3) := by decide +kernel
theorem dX1_variable_36 : decode cX1_variable 36 = .ok (.aload_n 0, 1) := by decide +kernel
theorem dX1_variable_37 : decode cX1_variable 37 = .ok (.getfield 44, 3) := by decide +kernel
theorem dX1_variable_40 : decode cX1_variable 40 = .ok (.iload_n 2, 1) := by decide +kernel
theorem dX1_variable_41 : decode cX1_variable 41 = .ok (.bastore, 1) := by decide +kernel
theorem dX1_variable_42 : decode cX1_variable 42 = .ok (.aload_n 0, 1) := by decide +kernel
theorem dX1_variable_43 : decode cX1_variable 43 = .ok (.getfield 17, 3) := by decide +kernel
theorem dX1_variable_46 : decode cX1_variable 46 = .ok (.aload_n 0, 1) := by decide +kernel
theorem dX1_variable_47 : decode cX1_variable 47 = .ok (.getfield 44, 3) := by decide +kernel
theorem dX1_variable_50 : decode cX1_variable 50 = .ok (.iload_n 3, 1) := by decide +kernel
theorem dX1_variable_51 : decode cX1_variable 51 = .ok (.bastore, 1) := by decide +kernel
theorem dX1_variable_52 : decode cX1_variable 52 = .ok (.aload_n 0, 1) := by decide +kernel
theorem dX1_variable_53 : decode cX1_variable 53 = .ok (.dup, 1) := by decide +kernel
theorem dX1_variable_54 : decode cX1_variable 54 = .ok (.getfield 44, 3) := by decide +kernel
theorem dX1_variable_57 : decode cX1_variable 57 = .ok (.iconst 1, 1) := by decide +kernel
theorem dX1_variable_58 : decode cX1_variable 58 = .ok (.iadd, 1) := by decide +kernel
theorem dX1_variable_59 : decode cX1_variable 59 = .ok (.putfield 44, 3) := by decide +kernel
theorem dX1_variable_62 : decode cX1_variable 62 = .ok (.aload_n 0, 1) := by decide +kernel
theorem dX1_variable_63 : decode cX1_variable 63 = .ok (.getfield 44, 3) := by decide +kernel
theorem dX1_variable_66 : decode cX1_variable 66 = .ok (.iconst 1, 1) := by decide +kernel
theorem dX1_variable_67 : decode cX1_variable 67 = .ok (.isub, 1) := by decide +kernel
theorem dX1_variable_68 : decode cX1_variable 68 = .ok (.ireturn, 1) := by decide +kernel
theorem dX1_point_0 : decode cX1_point 0 = .ok (.iload_n 1, 1) := by decide +kernel
theorem dX1_point_1 : decode cX1_point 1 = .ok (.ifCond .lt 33, 3) := by decide +kernel
theorem dX1_point_4 : decode cX1_point 4 = .ok (.iload_n 1, 1) := by decide +kernel
theorem dX1_point_5 : decode cX1_point 5 = .ok (.iconst 5, 1) := by decide +kernel
theorem dX1_point_6 : decode cX1_point 6 = .ok (.if_icmp .gt 28, 3) := by decide +kernel
theorem dX1_point_9 : decode cX1_point 9 = .ok (.aload_n 0, 1) := by decide +kernel
theorem dX1_point_10 : decode cX1_point 10 = .ok (.getfield 48, 3) := by decide +kernel
theorem dX1_point_13 : decode cX1_point 13 = .ok (.bipush 120, 2) := by decide +kernel
theorem dX1_point_15 : decode cX1_point 15 = .ok (.if_icmp .ge 19, 3) := by decide +kernel
theorem dX1_point_18 : decode cX1_point 18 = .ok (.iload_n 1, 1) := by decide +kernel
theorem dX1_point_19 : decode cX1_point 19 = .ok (.ifCond .eq 11, 3) := by decide +kernel
theorem dX1_point_22 : decode cX1_point 22 = .ok (.aload_n 0, 1) := by decide +kernel
theorem dX1_point_23 : decode cX1_point 23 = .ok (.iload_n 2, 1) := by decide +kernel
theorem dX1_point_24 : decode cX1_point 24 = .ok (.invokevirtual 51, 3) := by decide +kernel
theorem dX1_point_27 : decode cX1_point 27 = .ok (.ifCond .eq 7, 3) := by decide +kernel
theorem dX1_point_30 : decode cX1_point 30 = .ok (.iconst 1, 1) := by decide +kernel
theorem dX1_point_31 : decode cX1_point 31 = .ok (.goto 4, 3) := by decide +kernel
theorem dX1_point_34 : decode cX1_point 34 = .ok (.iconst 0, 1) := by decide +kernel
theorem dX1_point_35 : decode cX1_point 35 = .ok (.istore 5, 2) := by decide +kernel
theorem dX1_point_37 : decode cX1_point 37 = .ok (.iload 5, 2) := by decide +kernel
theorem dX1_point_39 : decode cX1_point 39 = .ok (.ifCond .eq 53, 3) := by decide +kernel
theorem dX1_point_42 : decode cX1_point 42 = .ok (.iload_n 1, 1) := by decide +kernel
theorem dX1_point_43 : decode cX1_point 43 = .ok (.iconst 1, 1) := by decide +kernel
theorem dX1_point_44 : decode cX1_point 44 = .ok (.if_icmp .lt 44, 3) := by decide +kernel
theorem dX1_point_47 : decode cX1_point 47 = .ok (.iload_n 1, 1) := by decide +kernel
theorem dX1_point_48 : decode cX1_point 48 = .ok (.iconst 3, 1) := by decide +kernel
theorem dX1_point_49 : decode cX1_point 49 = .ok (.if_icmp .gt 39, 3) := by decide +kernel
theorem dX1_point_52 : decode cX1_point 52 = .ok (.iload_n 3, 1) := by decide +kernel
theorem dX1_point_53 : decode cX1_point 53 = .ok (.ifCond .lt 39, 3) := by decide +kernel
theorem dX1_point_56 : decode cX1_point 56 = .ok (.iload 4, 2) := by decide +kernel
theorem dX1_point_58 : decode cX1_point 58 = .ok (.iconst 1, 1) := by decide +kernel
theorem dX1_point_59 : decode cX1_point 59 = .ok (.if_icmp .lt 33, 3) := by decide +kernel
theorem dX1_point_62 : decode cX1_point 62 = .ok (.iload_n 3, 1) := by decide +kernel
theorem dX1_point_63 : decode cX1_point 63 = .ok (.bipush 8, 2) := by decide +kernel
theorem dX1_point_65 : decode cX1_point 65 = .ok (.if_icmp .ge 27, 3) := by decide +kernel
theorem dX1_point_68 : decode cX1_point 68 = .ok (.iload 4, 2) := by decide +kernel
theorem dX1_point_70 : decode cX1_point 70 = .ok (.bipush 8, 2) := by decide +kernel
theorem dX1_point_72 : decode cX1_point 72 = .ok (.if_icmp .gt 20, 3) := by decide +kernel
theorem dX1_point_75 : decode cX1_point 75 = .ok (.iload_n 3, 1) := by decide +kernel
theorem dX1_point_76 : decode cX1_point 76 = .ok (.iload 4, 2) := by decide +kernel
theorem dX1_point_78 : decode cX1_point 78 = .ok (.iadd, 1) := by decide +kernel
theorem dX1_point_79 : decode cX1_point 79 = .ok (.aload_n 0, 1) := by decide +kernel
theorem dX1_point_80 : decode cX1_point 80 = .ok (.getfield 7, 3) := by decide +kernel
theorem dX1_point_83 : decode cX1_point 83 = .ok (.iload_n 2, 1) := by decide +kernel
theorem dX1_point_84 : decode cX1_point 84 = .ok (.iaload, 1) := by decide +kernel
theorem dX1_point_85 : decode cX1_point 85 = .ok (.if_icmp .gt 7, 3) := by decide +kernel
theorem dX1_point_88 : decode cX1_point 88 = .ok (.iconst 1, 1) := by decide +kernel
theorem dX1_point_89 : decode cX1_point 89 = .ok (.goto 4, 3) := by decide +kernel
theorem dX1_point_92 : decode cX1_point 92 = .ok (.iconst 0, 1) := by decide +kernel
theorem dX1_point_93 : decode cX1_point 93 = .ok (.istore 5, 2) := by decide +kernel
theorem dX1_point_95 : decode cX1_point 95 = .ok (.iload 5, 2) := by decide +kernel
theorem dX1_point_97 : decode cX1_point 97 = .ok (.ifCond .ne 5, 3) := by decide +kernel
theorem dX1_point_100 : decode cX1_point 100 = .ok (.iconst (-1), 1) := by decide +kernel
theorem dX1_point_101 : decode cX1_point 101 = .ok (.ireturn, 1) := by decide +kernel
theorem dX1_point_102 : decode cX1_point 102 = .ok (.aload_n 0, 1) := by decide +kernel
theorem dX1_point_103 : decode cX1_point 103 = .ok (.getfield 20, 3) := by decide +kernel
theorem dX1_point_106 : decode cX1_point 106 = .ok (.aload_n 0, 1) := by decide +kernel
theorem dX1_point_107 : decode cX1_point 107 = .ok (.getfield 48, 3) := by decide +kernel
theorem dX1_point_110 : decode cX1_point 110 = .ok (.iload_n 1, 1) := by decide +kernel
theorem dX1_point_111 : decode cX1_point 111 = .ok (.iastore, 1) := by decide +kernel
theorem dX1_point_112 : decode cX1_point 112 = .ok (.aload_n 0, 1) := by decide +kernel
theorem dX1_point_113 : decode cX1_point 113 = .ok (.getfield 23, 3) := by decide +kernel
theorem dX1_point_116 : decode cX1_point 116 = .ok (.aload_n 0, 1) := by decide +kernel
theorem dX1_point_117 : decode cX1_point 117 = .ok (.getfield 48, 3) := by decide +kernel
theorem dX1_point_120 : decode cX1_point 120 = .ok (.iload_n 1, 1) := by decide +kernel
theorem dX1_point_121 : decode cX1_point 121 = .ok (.ifCond .ne 7, 3) := by decide +kernel
theorem dX1_point_124 : decode cX1_point 124 = .ok (.iconst (-1), 1) := by decide +kernel
theorem dX1_point_125 : decode cX1_point 125 = .ok (.goto 4, 3) := by decide +kernel
theorem dX1_point_128 : decode cX1_point 128 = .ok (.iload_n 2, 1) := by decide +kernel
theorem dX1_point_129 : decode cX1_point 129 = .ok (.iastore, 1) := by decide +kernel
theorem dX1_point_130 : decode cX1_point 130 = .ok (.aload_n 0, 1) := by decide +kernel
theorem dX1_point_131 : decode cX1_point 131 = .ok (.getfield 26, 3) := by decide +kernel
theorem dX1_point_134 : decode cX1_point 134 = .ok (.aload_n 0, 1) := by decide +kernel
theorem dX1_point_135 : decode cX1_point 135 = .ok (.getfield 48, 3) := by decide +kernel
theorem dX1_point_138 : decode cX1_point 138 = .ok (.iload_n 1, 1) := by decide +kernel
theorem dX1_point_139 : decode cX1_point 139 = .ok (.iconst 4, 1) := by decide +kernel
theorem dX1_point_140 : decode cX1_point 140 = .ok (.if_icmp .ge 7, 3) := by decide +kernel
theorem dX1_point_143 : decode cX1_point 143 = .ok (.iload_n 3, 1) := by decide +kernel
theorem dX1_point_144 : decode cX1_point 144 = .ok (.goto 4, 3) := by decide +kernel
theorem dX1_point_147 : decode cX1_point 147 = .ok (.iconst 0, 1) := by decide +kernel
theorem dX1_point_148 : decode cX1_point 148 = .ok (.iastore, 1) := by decide +kernel
theorem dX1_point_149 : decode cX1_point 149 = .ok (.aload_n 0, 1) := by decide +kernel
theorem dX1_point_150 : decode cX1_point 150 = .ok (.getfield 29, 3) := by decide +kernel
theorem dX1_point_153 : decode cX1_point 153 = .ok (.aload_n 0, 1) := by decide +kernel
theorem dX1_point_154 : decode cX1_point 154 = .ok (.getfield 48, 3) := by decide +kernel
theorem dX1_point_157 : decode cX1_point 157 = .ok (.iload_n 1, 1) := by decide +kernel
theorem dX1_point_158 : decode cX1_point 158 = .ok (.ifCond .ne 7, 3) := by decide +kernel
theorem dX1_point_161 : decode cX1_point 161 = .ok (.iconst 0, 1) := by decide +kernel
theorem dX1_point_162 : decode cX1_point 162 = .ok (.goto 19, 3) := by decide +kernel
theorem dX1_point_165 : decode cX1_point 165 = .ok (.iload_n 1, 1) := by decide +kernel
theorem dX1_point_166 : decode cX1_point 166 = .ok (.iconst 4, 1) := by decide +kernel
theorem dX1_point_167 : decode cX1_point 167 = .ok (.if_icmp .ge 8, 3) := by decide +kernel
theorem dX1_point_170 : decode cX1_point 170 = .ok (.iload 4, 2) := by decide +kernel
theorem dX1_point_172 : decode cX1_point 172 = .ok (.goto 9, 3) := by decide +kernel
theorem dX1_point_175 : decode cX1_point 175 = .ok (.aload_n 0, 1) := by decide +kernel
theorem dX1_point_176 : decode cX1_point 176 = .ok (.getfield 7, 3) := by decide +kernel
theorem dX1_point_179 : decode cX1_point 179 = .ok (.iload_n 2, 1) := by decide +kernel
theorem dX1_point_180 : decode cX1_point 180 = .ok (.iaload, 1) := by decide +kernel
theorem dX1_point_181 : decode cX1_point 181 = .ok (.iastore, 1) := by decide +kernel
theorem dX1_point_182 : decode cX1_point 182 = .ok (.aload_n 0, 1) := by decide +kernel
theorem dX1_point_183 : decode cX1_point 183 = .ok (.getfield 32, 3) := by decide +kernel
theorem dX1_point_186 : decode cX1_point 186 = .ok (.aload_n 0, 1) := by decide +kernel
theorem dX1_point_187 : decode cX1_point 187 = .ok (.getfield 48, 3) := by decide +kernel
theorem dX1_point_190 : decode cX1_point 190 = .ok (.aload_n 0, 1) := by decide +kernel
theorem dX1_point_191 : decode cX1_point 191 = .ok (.getfield 48, 3) := by decide +kernel
theorem dX1_point_194 : decode cX1_point 194 = .ok (.iconst 1, 1) := by decide +kernel
theorem dX1_point_195 : decode cX1_point 195 = .ok (.iadd, 1) := by decide +kernel
theorem dX1_point_196 : decode cX1_point 196 = .ok (.iastore, 1) := by decide +kernel
theorem dX1_point_197 : decode cX1_point 197 = .ok (.aload_n 0, 1) := by decide +kernel
theorem dX1_point_198 : decode cX1_point 198 = .ok (.getfield 35, 3) := by decide +kernel
theorem dX1_point_201 : decode cX1_point 201 = .ok (.aload_n 0, 1) := by decide +kernel
theorem dX1_point_202 : decode cX1_point 202 = .ok (.getfield 48, 3) := by decide +kernel
theorem dX1_point_205 : decode cX1_point 205 = .ok (.iconst (-1), 1) := by decide +kernel
theorem dX1_point_206 : decode cX1_point 206 = .ok (.iastore, 1) := by decide +kernel
theorem dX1_point_207 : decode cX1_point 207 = .ok (.aload_n 0, 1) := by decide +kernel
theorem dX1_point_208 : decode cX1_point 208 = .ok (.dup, 1) := by decide +kernel
theorem dX1_point_209 : decode cX1_point 209 = .ok (.getfield 48, 3) := by decide +kernel
theorem dX1_point_212 : decode cX1_point 212 = .ok (.iconst 1, 1) := by decide +kernel
theorem dX1_point_213 : decode cX1_point 213 = .ok (.iadd, 1) := by decide +kernel
theorem dX1_point_214 : decode cX1_point 214 = .ok (.putfield 48, 3) := by decide +kernel
theorem dX1_point_217 : decode cX1_point 217 = .ok (.aload_n 0, 1) := by decide +kernel
theorem dX1_point_218 : decode cX1_point 218 = .ok (.getfield 48, 3) := by decide +kernel
theorem dX1_point_221 : decode cX1_point 221 = .ok (.iconst 1, 1) := by decide +kernel
theorem dX1_point_222 : decode cX1_point 222 = .ok (.isub, 1) := by decide +kernel
theorem dX1_point_223 : decode cX1_point 223 = .ok (.ireturn, 1) := by decide +kernel
theorem dX1_isVariable_0 : decode cX1_isVariable 0 = .ok (.iload_n 1, 1) := by decide +kernel
theorem dX1_isVariable_1 : decode cX1_isVariable 1 = .ok (.ifCond .lt 15, 3) := by decide +kernel
theorem dX1_isVariable_4 : decode cX1_isVariable 4 = .ok (.iload_n 1, 1) := by decide +kernel
theorem dX1_isVariable_5 : decode cX1_isVariable 5 = .ok (.aload_n 0, 1) := by decide +kernel
theorem dX1_isVariable_6 : decode cX1_isVariable 6 = .ok (.getfield 44, 3) := by decide +kernel
theorem dX1_isVariable_9 : decode cX1_isVariable 9 = .ok (.if_icmp .ge 7, 3) := by decide +kernel
theorem dX1_isVariable_12 : decode cX1_isVariable 12 = .ok (.iconst 1, 1) := by decide +kernel
theorem dX1_isVariable_13 : decode cX1_isVariable 13 = .ok (.goto 4, 3) := by decide +kernel
theorem dX1_isVariable_16 : decode cX1_isVariable 16 = .ok (.iconst 0, 1) := by decide +kernel
theorem dX1_isVariable_17 : decode cX1_isVariable 17 = .ok (.ireturn, 1) := by decide +kernel
theorem dX1_next_0 : decode cX1_next 0 = .ok (.aload_n 0, 1) := by decide +kernel
theorem dX1_next_1 : decode cX1_next 1 = .ok (.iload_n 1, 1) := by decide +kernel
theorem dX1_next_2 : decode cX1_next 2 = .ok (.invokevirtual 55, 3) := by decide +kernel
theorem dX1_next_5 : decode cX1_next 5 = .ok (.ifCond .eq 25, 3) := by decide +kernel
theorem dX1_next_8 : decode cX1_next 8 = .ok (.iload_n 2, 1) := by decide +kernel
theorem dX1_next_9 : decode cX1_next 9 = .ok (.iconst (-1), 1) := by decide +kernel
theorem dX1_next_10 : decode cX1_next 10 = .ok (.if_icmp .lt 20, 3) := by decide +kernel
theorem dX1_next_13 : decode cX1_next 13 = .ok (.iload_n 2, 1) := by decide +kernel
theorem dX1_next_14 : decode cX1_next 14 = .ok (.bipush 120, 2) := by decide +kernel
theorem dX1_next_16 : decode cX1_next 16 = .ok (.if_icmp .ge 14, 3) := by decide +kernel
theorem dX1_next_19 : decode cX1_next 19 = .ok (.iload_n 3, 1) := by decide +kernel
theorem dX1_next_20 : decode cX1_next 20 = .ok (.iconst (-1), 1) := by decide +kernel
theorem dX1_next_21 : decode cX1_next 21 = .ok (.if_icmp .lt 9, 3) := by decide +kernel
theorem dX1_next_24 : decode cX1_next 24 = .ok (.iload_n 3, 1) := by decide +kernel
theorem dX1_next_25 : decode cX1_next 25 = .ok (.bipush 120, 2) := by decide +kernel
theorem dX1_next_27 : decode cX1_next 27 = .ok (.if_icmp .lt 5, 3) := by decide +kernel
theorem dX1_next_30 : decode cX1_next 30 = .ok (.iconst 0, 1) := by decide +kernel
theorem dX1_next_31 : decode cX1_next 31 = .ok (.ireturn, 1) := by decide +kernel
theorem dX1_next_32 : decode cX1_next 32 = .ok (.aload_n 0, 1) := by decide +kernel
theorem dX1_next_33 : decode cX1_next 33 = .ok (.getfield 32, 3) := by decide +kernel
theorem dX1_next_36 : decode cX1_next 36 = .ok (.iload_n 1, 1) := by decide +kernel
theorem dX1_next_37 : decode cX1_next 37 = .ok (.iload_n 2, 1) := by decide +kernel
theorem dX1_next_38 : decode cX1_next 38 = .ok (.iastore, 1) := by decide +kernel
theorem dX1_next_39 : decode cX1_next 39 = .ok (.aload_n 0, 1) := by decide +kernel
theorem dX1_next_40 : decode cX1_next 40 = .ok (.getfield 35, 3) := by decide +kernel
theorem dX1_next_43 : decode cX1_next 43 = .ok (.iload_n 1, 1) := by decide +kernel
theorem dX1_next_44 : decode cX1_next 44 = .ok (.iload_n 3, 1) := by decide +kernel
theorem dX1_next_45 : decode cX1_next 45 = .ok (.iastore, 1) := by decide +kernel
theorem dX1_next_46 : decode cX1_next 46 = .ok (.iconst 1, 1) := by decide +kernel
theorem dX1_next_47 : decode cX1_next 47 = .ok (.ireturn, 1) := by decide +kernel
theorem dX1_isPoint_0 : decode cX1_isPoint 0 = .ok (.iload_n 1, 1) := by decide +kernel
theorem dX1_isPoint_1 : decode cX1_isPoint 1 = .ok (.ifCond .lt 15, 3) := by decide +kernel
theorem dX1_isPoint_4 : decode cX1_isPoint 4 = .ok (.iload_n 1, 1) := by decide +kernel
theorem dX1_isPoint_5 : decode cX1_isPoint 5 = .ok (.aload_n 0, 1) := by decide +kernel
theorem dX1_isPoint_6 : decode cX1_isPoint 6 = .ok (.getfield 48, 3) := by decide +kernel
theorem dX1_isPoint_9 : decode cX1_isPoint 9 = .ok (.if_icmp .ge 7, 3) := by decide +kernel
theorem dX1_isPoint_12 : decode cX1_isPoint 12 = .ok (.iconst 1, 1) := by decide +kernel
theorem dX1_isPoint_13 : decode cX1_isPoint 13 = .ok (.goto 4, 3) := by decide +kernel
theorem dX1_isPoint_16 : decode cX1_isPoint 16 = .ok (.iconst 0, 1) := by decide +kernel
theorem dX1_isPoint_17 : decode cX1_isPoint 17 = .ok (.ireturn, 1) := by decide +kernel
theorem dX1_isReached_0 : decode cX1_isReached 0 = .ok (.aload_n 0, 1) := by decide +kernel
theorem dX1_isReached_1 : decode cX1_isReached 1 = .ok (.bipush (-2), 2) := by decide +kernel
theorem dX1_isReached_3 : decode cX1_isReached 3 = .ok (.iconst 0, 1) := by decide +kernel
theorem dX1_isReached_4 : decode cX1_isReached 4 = .ok (.invokevirtual 65, 3) := by decide +kernel
theorem dX1_isReached_7 : decode cX1_isReached 7 = .ok (.aload_n 0, 1) := by decide +kernel
theorem dX1_isReached_8 : decode cX1_isReached 8 = .ok (.iload_n 1, 1) := by decide +kernel
theorem dX1_isReached_9 : decode cX1_isReached 9 = .ok (.invokevirtual 55, 3) := by decide +kernel
theorem dX1_isReached_12 : decode cX1_isReached 12 = .ok (.ifCond .eq 31, 3) := by decide +kernel
theorem dX1_isReached_15 : decode cX1_isReached 15 = .ok (.aload_n 0, 1) := by decide +kernel
theorem dX1_isReached_16 : decode cX1_isReached 16 = .ok (.getfield 38, 3) := by decide +kernel
theorem dX1_isReached_19 : decode cX1_isReached 19 = .ok (.iconst 2, 1) := by decide +kernel
theorem dX1_isReached_20 : decode cX1_isReached 20 = .ok (.iload_n 1, 1) := by decide +kernel
theorem dX1_isReached_21 : decode cX1_isReached 21 = .ok (.imul, 1) := by decide +kernel
theorem dX1_isReached_22 : decode cX1_isReached 22 = .ok (.baload, 1) := by decide +kernel
theorem dX1_isReached_23 : decode cX1_isReached 23 = .ok (.ifCond .ne 16, 3) := by decide +kernel
theorem dX1_isReached_26 : decode cX1_isReached 26 = .ok (.aload_n 0, 1) := by decide +kernel
theorem dX1_isReached_27 : decode cX1_isReached 27 = .ok (.getfield 38, 3) := by decide +kernel
theorem dX1_isReached_30 : decode cX1_isReached 30 = .ok (.iconst 2, 1) := by decide +kernel
theorem dX1_isReached_31 : decode cX1_isReached 31 = .ok (.iload_n 1, 1) := by decide +kernel
theorem dX1_isReached_32 : decode cX1_isReached 32 = .ok (.imul, 1) := by decide +kernel
theorem dX1_isReached_33 : decode cX1_isReached 33 = .ok (.iconst 1, 1) := by decide +kernel
theorem dX1_isReached_34 : decode cX1_isReached 34 = .ok (.iadd, 1) := by decide +kernel
theorem dX1_isReached_35 : decode cX1_isReached 35 = .ok (.baload, 1) := by decide +kernel
theorem dX1_isReached_36 : decode cX1_isReached 36 = .ok (.ifCond .eq 7, 3) := by decide +kernel
theorem dX1_isReached_39 : decode cX1_isReached 39 = .ok (.iconst 1, 1) := by decide +kernel
theorem dX1_isReached_40 : decode cX1_isReached 40 = .ok (.goto 4, 3) := by decide +kernel
theorem dX1_isReached_43 : decode cX1_isReached 43 = .ok (.iconst 0, 1) := by decide +kernel
theorem dX1_isReached_44 : decode cX1_isReached 44 = .ok (.ireturn, 1) := by decide +kernel
theorem dX1_go_0 : decode cX1_go 0 = .ok (.iconst 0, 1) := by decide +kernel
theorem dX1_go_1 : decode cX1_go 1 = .ok (.istore_n 3, 1) := by decide +kernel
theorem dX1_go_2 : decode cX1_go 2 = .ok (.iload_n 3, 1) := by decide +kernel
theorem dX1_go_3 : decode cX1_go 3 = .ok (.sipush 240, 3) := by decide +kernel
theorem dX1_go_6 : decode cX1_go 6 = .ok (.if_icmp .ge 16, 3) := by decide +kernel
theorem dX1_go_9 : decode cX1_go 9 = .ok (.aload_n 0, 1) := by decide +kernel
theorem dX1_go_10 : decode cX1_go 10 = .ok (.getfield 38, 3) := by decide +kernel
theorem dX1_go_13 : decode cX1_go 13 = .ok (.iload_n 3, 1) := by decide +kernel
theorem dX1_go_14 : decode cX1_go 14 = .ok (.iconst 0, 1) := by decide +kernel
theorem dX1_go_15 : decode cX1_go 15 = .ok (.bastore, 1) := by decide +kernel
theorem dX1_go_16 : decode cX1_go 16 = .ok (.iinc 3 1, 3) := by decide +kernel
theorem dX1_go_19 : decode cX1_go 19 = .ok (.goto (-17), 3) := by decide +kernel
theorem dX1_go_22 : decode cX1_go 22 = .ok (.aload_n 0, 1) := by decide +kernel
theorem dX1_go_23 : decode cX1_go 23 = .ok (.iconst 0, 1) := by decide +kernel
theorem dX1_go_24 : decode cX1_go 24 = .ok (.putfield 58, 3) := by decide +kernel
theorem dX1_go_27 : decode cX1_go 27 = .ok (.aload_n 0, 1) := by decide +kernel
theorem dX1_go_28 : decode cX1_go 28 = .ok (.iconst 0, 1) := by decide +kernel
theorem dX1_go_29 : decode cX1_go 29 = .ok (.aload_n 0, 1) := by decide +kernel
theorem dX1_go_30 : decode cX1_go 30 = .ok (.iload_n 1, 1) := by decide +kernel
theorem dX1_go_31 : decode cX1_go 31 = .ok (.invokevirtual 51, 3) := by decide +kernel
theorem dX1_go_34 : decode cX1_go 34 = .ok (.ifCond .eq 16, 3) := by decide +kernel
theorem dX1_go_37 : decode cX1_go 37 = .ok (.aload_n 0, 1) := by decide +kernel
theorem dX1_go_38 : decode cX1_go 38 = .ok (.getfield 17, 3) := by decide +kernel
theorem dX1_go_41 : decode cX1_go 41 = .ok (.iload_n 1, 1) := by decide +kernel
theorem dX1_go_42 : decode cX1_go 42 = .ok (.baload, 1) := by decide +kernel
theorem dX1_go_43 : decode cX1_go 43 = .ok (.ifCond .eq 7, 3) := by decide +kernel
theorem dX1_go_46 : decode cX1_go 46 = .ok (.iconst 1, 1) := by decide +kernel
theorem dX1_go_47 : decode cX1_go 47 = .ok (.goto 4, 3) := by decide +kernel
theorem dX1_go_50 : decode cX1_go 50 = .ok (.iconst 0, 1) := by decide +kernel
theorem dX1_go_51 : decode cX1_go 51 = .ok (.invokevirtual 61, 3) := by decide +kernel
theorem dX1_go_54 : decode cX1_go 54 = .ok (.aload_n 0, 1) := by decide +kernel
theorem dX1_go_55 : decode cX1_go 55 = .ok (.getfield 58, 3) := by decide +kernel
theorem dX1_go_58 : decode cX1_go 58 = .ok (.ifCond .le 146, 3) := by decide +kernel
theorem dX1_go_61 : decode cX1_go 61 = .ok (.aload_n 0, 1) := by decide +kernel
theorem dX1_go_62 : decode cX1_go 62 = .ok (.dup, 1) := by decide +kernel
theorem dX1_go_63 : decode cX1_go 63 = .ok (.getfield 58, 3) := by decide +kernel
theorem dX1_go_66 : decode cX1_go 66 = .ok (.iconst 1, 1) := by decide +kernel
theorem dX1_go_67 : decode cX1_go 67 = .ok (.isub, 1) := by decide +kernel
theorem dX1_go_68 : decode cX1_go 68 = .ok (.putfield 58, 3) := by decide +kernel
theorem dX1_go_71 : decode cX1_go 71 = .ok (.aload_n 0, 1) := by decide +kernel
theorem dX1_go_72 : decode cX1_go 72 = .ok (.getfield 41, 3) := by decide +kernel
theorem dX1_go_75 : decode cX1_go 75 = .ok (.aload_n 0, 1) := by decide +kernel
theorem dX1_go_76 : decode cX1_go 76 = .ok (.getfield 58, 3) := by decide +kernel
theorem dX1_go_79 : decode cX1_go 79 = .ok (.iaload, 1) := by decide +kernel
theorem dX1_go_80 : decode cX1_go 80 = .ok (.iconst 2, 1) := by decide +kernel
theorem dX1_go_81 : decode cX1_go 81 = .ok (.idiv, 1) := by decide +kernel
theorem dX1_go_82 : decode cX1_go 82 = .ok (.istore_n 3, 1) := by decide +kernel
theorem dX1_go_83 : decode cX1_go 83 = .ok (.aload_n 0, 1) := by decide +kernel
theorem dX1_go_84 : decode cX1_go 84 = .ok (.getfield 41, 3) := by decide +kernel
theorem dX1_go_87 : decode cX1_go 87 = .ok (.aload_n 0, 1) := by decide +kernel
theorem dX1_go_88 : decode cX1_go 88 = .ok (.getfield 58, 3) := by decide +kernel
theorem dX1_go_91 : decode cX1_go 91 = .ok (.iaload, 1) := by decide +kernel
theorem dX1_go_92 : decode cX1_go 92 = .ok (.iconst 2, 1) := by decide +kernel
theorem dX1_go_93 : decode cX1_go 93 = .ok (.irem, 1) := by decide +kernel
theorem dX1_go_94 : decode cX1_go 94 = .ok (.istore 4, 2) := by decide +kernel
theorem dX1_go_96 : decode cX1_go 96 = .ok (.aload_n 0, 1) := by decide +kernel
theorem dX1_go_97 : decode cX1_go 97 = .ok (.getfield 23, 3) := by decide +kernel
theorem dX1_go_100 : decode cX1_go 100 = .ok (.iload_n 3, 1) := by decide +kernel
theorem dX1_go_101 : decode cX1_go 101 = .ok (.iaload, 1) := by decide +kernel
theorem dX1_go_102 : decode cX1_go 102 = .ok (.iload_n 1, 1) := by decide +kernel
theorem dX1_go_103 : decode cX1_go 103 = .ok (.if_icmp .ne 44, 3) := by decide +kernel
theorem dX1_go_106 : decode cX1_go 106 = .ok (.iload_n 2, 1) := by decide +kernel
theorem dX1_go_107 : decode cX1_go 107 = .ok (.aload_n 0, 1) := by decide +kernel
theorem dX1_go_108 : decode cX1_go 108 = .ok (.getfield 26, 3) := by decide +kernel
theorem dX1_go_111 : decode cX1_go 111 = .ok (.iload_n 3, 1) := by decide +kernel
theorem dX1_go_112 : decode cX1_go 112 = .ok (.iaload, 1) := by decide +kernel
theorem dX1_go_113 : decode cX1_go 113 = .ok (.if_icmp .lt 34, 3) := by decide +kernel
theorem dX1_go_116 : decode cX1_go 116 = .ok (.iload_n 2, 1) := by decide +kernel
theorem dX1_go_117 : decode cX1_go 117 = .ok (.aload_n 0, 1) := by decide +kernel
theorem dX1_go_118 : decode cX1_go 118 = .ok (.getfield 26, 3) := by decide +kernel
theorem dX1_go_121 : decode cX1_go 121 = .ok (.iload_n 3, 1) := by decide +kernel
theorem dX1_go_122 : decode cX1_go 122 = .ok (.iaload, 1) := by decide +kernel
theorem dX1_go_123 : decode cX1_go 123 = .ok (.aload_n 0, 1) := by decide +kernel
theorem dX1_go_124 : decode cX1_go 124 = .ok (.getfield 29, 3) := by decide +kernel
theorem dX1_go_127 : decode cX1_go 127 = .ok (.iload_n 3, 1) := by decide +kernel
theorem dX1_go_128 : decode cX1_go 128 = .ok (.iaload, 1) := by decide +kernel
theorem dX1_go_129 : decode cX1_go 129 = .ok (.iadd, 1) := by decide +kernel
theorem dX1_go_130 : decode cX1_go 130 = .ok (.if_icmp .ge 17, 3) := by decide +kernel
theorem dX1_go_133 : decode cX1_go 133 = .ok (.aload_n 0, 1) := by decide +kernel
theorem dX1_go_134 : decode cX1_go 134 = .ok (.getfield 20, 3) := by decide +kernel
theorem dX1_go_137 : decode cX1_go 137 = .ok (.iload_n 3, 1) := by decide +kernel
theorem dX1_go_138 : decode cX1_go 138 = .ok (.iaload, 1) := by decide +kernel
theorem dX1_go_139 : decode cX1_go 139 = .ok (.iconst 3, 1) := by decide +kernel
theorem dX1_go_140 : decode cX1_go 140 = .ok (.if_icmp .eq 7, 3) := by decide +kernel
theorem dX1_go_143 : decode cX1_go 143 = .ok (.iconst 1, 1) := by decide +kernel
theorem dX1_go_144 : decode cX1_go 144 = .ok (.goto 4, 3) := by decide +kernel
theorem dX1_go_147 : decode cX1_go 147 = .ok (.iconst 0, 1) := by decide +kernel
theorem dX1_go_148 : decode cX1_go 148 = .ok (.istore 5, 2) := by decide +kernel
theorem dX1_go_150 : decode cX1_go 150 = .ok (.iload 5, 2) := by decide +kernel
theorem dX1_go_152 : decode cX1_go 152 = .ok (.ifCond .ne 8, 3) := by decide +kernel
theorem dX1_go_155 : decode cX1_go 155 = .ok (.iload 4, 2) := by decide +kernel
theorem dX1_go_157 : decode cX1_go 157 = .ok (.goto 18, 3) := by decide +kernel
theorem dX1_go_160 : decode cX1_go 160 = .ok (.aload_n 0, 1) := by decide +kernel
theorem dX1_go_161 : decode cX1_go 161 = .ok (.getfield 20, 3) := by decide +kernel
theorem dX1_go_164 : decode cX1_go 164 = .ok (.iload_n 3, 1) := by decide +kernel
theorem dX1_go_165 : decode cX1_go 165 = .ok (.iaload, 1) := by decide +kernel
theorem dX1_go_166 : decode cX1_go 166 = .ok (.iconst 1, 1) := by decide +kernel
theorem dX1_go_167 : decode cX1_go 167 = .ok (.if_icmp .ne 7, 3) := by decide +kernel
theorem dX1_go_170 : decode cX1_go 170 = .ok (.iconst 1, 1) := by decide +kernel
theorem dX1_go_171 : decode cX1_go 171 = .ok (.goto 4, 3) := by decide +kernel
theorem dX1_go_174 : decode cX1_go 174 = .ok (.iconst 0, 1) := by decide +kernel
theorem dX1_go_175 : decode cX1_go 175 = .ok (.istore 6, 2) := by decide +kernel
theorem dX1_go_177 : decode cX1_go 177 = .ok (.aload_n 0, 1) := by decide +kernel
theorem dX1_go_178 : decode cX1_go 178 = .ok (.aload_n 0, 1) := by decide +kernel
theorem dX1_go_179 : decode cX1_go 179 = .ok (.getfield 32, 3) := by decide +kernel
theorem dX1_go_182 : decode cX1_go 182 = .ok (.iload_n 3, 1) := by decide +kernel
theorem dX1_go_183 : decode cX1_go 183 = .ok (.iaload, 1) := by decide +kernel
theorem dX1_go_184 : decode cX1_go 184 = .ok (.iload 6, 2) := by decide +kernel
theorem dX1_go_186 : decode cX1_go 186 = .ok (.invokevirtual 61, 3) := by decide +kernel
theorem dX1_go_189 : decode cX1_go 189 = .ok (.aload_n 0, 1) := by decide +kernel
theorem dX1_go_190 : decode cX1_go 190 = .ok (.aload_n 0, 1) := by decide +kernel
theorem dX1_go_191 : decode cX1_go 191 = .ok (.getfield 35, 3) := by decide +kernel
theorem dX1_go_194 : decode cX1_go 194 = .ok (.iload_n 3, 1) := by decide +kernel
theorem dX1_go_195 : decode cX1_go 195 = .ok (.iaload, 1) := by decide +kernel
theorem dX1_go_196 : decode cX1_go 196 = .ok (.iload 6, 2) := by decide +kernel
theorem dX1_go_198 : decode cX1_go 198 = .ok (.invokevirtual 61, 3) := by decide +kernel
theorem dX1_go_201 : decode cX1_go 201 = .ok (.goto (-147), 3) := by decide +kernel
theorem dX1_go_204 : decode cX1_go 204 = .ok (.return_, 1) := by decide +kernel
theorem dX1_come_0 : decode cX1_come 0 = .ok (.aload_n 0, 1) := by decide +kernel
theorem dX1_come_1 : decode cX1_come 1 = .ok (.iload_n 1, 1) := by decide +kernel
theorem dX1_come_2 : decode cX1_come 2 = .ok (.invokevirtual 55, 3) := by decide +kernel
theorem dX1_come_5 : decode cX1_come 5 = .ok (.ifCond .eq 16, 3) := by decide +kernel
theorem dX1_come_8 : decode cX1_come 8 = .ok (.aload_n 0, 1) := by decide +kernel
theorem dX1_come_9 : decode cX1_come 9 = .ok (.getfield 38, 3) := by decide +kernel
theorem dX1_come_12 : decode cX1_come 12 = .ok (.iconst 2, 1) := by decide +kernel
theorem dX1_come_13 : decode cX1_come 13 = .ok (.iload_n 1, 1) := by decide +kernel
theorem dX1_come_14 : decode cX1_come 14 = .ok (.imul, 1) := by decide +kernel
theorem dX1_come_15 : decode cX1_come 15 = .ok (.iload_n 2, 1) := by decide +kernel
theorem dX1_come_16 : decode cX1_come 16 = .ok (.iadd, 1) := by decide +kernel
theorem dX1_come_17 : decode cX1_come 17 = .ok (.baload, 1) := by decide +kernel
theorem dX1_come_18 : decode cX1_come 18 = .ok (.ifCond .eq 4, 3) := by decide +kernel
theorem dX1_come_21 : decode cX1_come 21 = .ok (.return_, 1) := by decide +kernel
theorem dX1_come_22 : decode cX1_come 22 = .ok (.aload_n 0, 1) := by decide +kernel
theorem dX1_come_23 : decode cX1_come 23 = .ok (.getfield 38, 3) := by decide +kernel
theorem dX1_come_26 : decode cX1_come 26 = .ok (.iconst 2, 1) := by decide +kernel
theorem dX1_come_27 : decode cX1_come 27 = .ok (.iload_n 1, 1) := by decide +kernel
theorem dX1_come_28 : decode cX1_come 28 = .ok (.imul, 1) := by decide +kernel
theorem dX1_come_29 : decode cX1_come 29 = .ok (.iload_n 2, 1) := by decide +kernel
theorem dX1_come_30 : decode cX1_come 30 = .ok (.iadd, 1) := by decide +kernel
theorem dX1_come_31 : decode cX1_come 31 = .ok (.iconst 1, 1) := by decide +kernel
theorem dX1_come_32 : decode cX1_come 32 = .ok (.bastore, 1) := by decide +kernel
theorem dX1_come_33 : decode cX1_come 33 = .ok (.aload_n 0, 1) := by decide +kernel
theorem dX1_come_34 : decode cX1_come 34 = .ok (.getfield 41, 3) := by decide +kernel
theorem dX1_come_37 : decode cX1_come 37 = .ok (.aload_n 0, 1) := by decide +kernel
theorem dX1_come_38 : decode cX1_come 38 = .ok (.getfield 58, 3) := by decide +kernel
theorem dX1_come_41 : decode cX1_come 41 = .ok (.iconst 2, 1) := by decide +kernel
theorem dX1_come_42 : decode cX1_come 42 = .ok (.iload_n 1, 1) := by decide +kernel
theorem dX1_come_43 : decode cX1_come 43 = .ok (.imul, 1) := by decide +kernel
theorem dX1_come_44 : decode cX1_come 44 = .ok (.iload_n 2, 1) := by decide +kernel
theorem dX1_come_45 : decode cX1_come 45 = .ok (.iadd, 1) := by decide +kernel
theorem dX1_come_46 : decode cX1_come 46 = .ok (.iastore, 1) := by decide +kernel
theorem dX1_come_47 : decode cX1_come 47 = .ok (.aload_n 0, 1) := by decide +kernel
theorem dX1_come_48 : decode cX1_come 48 = .ok (.dup, 1) := by decide +kernel
theorem dX1_come_49 : decode cX1_come 49 = .ok (.getfield 58, 3) := by decide +kernel
theorem dX1_come_52 : decode cX1_come 52 = .ok (.iconst 1, 1) := by decide +kernel
theorem dX1_come_53 : decode cX1_come 53 = .ok (.iadd, 1) := by decide +kernel
theorem dX1_come_54 : decode cX1_come 54 = .ok (.putfield 58, 3) := by decide +kernel
theorem dX1_come_57 : decode cX1_come 57 = .ok (.return_, 1) := by decide +kernel
theorem dX1_without_0 : decode cX1_without 0 = .ok (.aload_n 0, 1) := by decide +kernel
theorem dX1_without_1 : decode cX1_without 1 = .ok (.iload_n 1, 1) := by decide +kernel
theorem dX1_without_2 : decode cX1_without 2 = .ok (.iload_n 2, 1) := by decide +kernel
theorem dX1_without_3 : decode cX1_without 3 = .ok (.iconst 0, 1) := by decide +kernel
theorem dX1_without_4 : decode cX1_without 4 = .ok (.invokevirtual 68, 3) := by decide +kernel
theorem dX1_without_7 : decode cX1_without 7 = .ok (.ireturn, 1) := by decide +kernel
theorem dX1_bits_0 : decode cX1_bits 0 = .ok (.iconst 0, 1) := by decide +kernel
theorem dX1_bits_1 : decode cX1_bits 1 = .ok (.istore 4, 2) := by decide +kernel
theorem dX1_bits_3 : decode cX1_bits 3 = .ok (.iconst 0, 1) := by decide +kernel
theorem dX1_bits_4 : decode cX1_bits 4 = .ok (.istore 5, 2) := by decide +kernel
theorem dX1_bits_6 : decode cX1_bits 6 = .ok (.aload_n 0, 1) := by decide +kernel
theorem dX1_bits_7 : decode cX1_bits 7 = .ok (.iload_n 1, 1) := by decide +kernel
theorem dX1_bits_8 : decode cX1_bits 8 = .ok (.invokevirtual 55, 3) := by decide +kernel
theorem dX1_bits_11 : decode cX1_bits 11 = .ok (.ifCond .eq 62, 3) := by decide +kernel
theorem dX1_bits_14 : decode cX1_bits 14 = .ok (.aload_n 0, 1) := by decide +kernel
theorem dX1_bits_15 : decode cX1_bits 15 = .ok (.iload_n 2, 1) := by decide +kernel
theorem dX1_bits_16 : decode cX1_bits 16 = .ok (.invokevirtual 51, 3) := by decide +kernel
theorem dX1_bits_19 : decode cX1_bits 19 = .ok (.ifCond .eq 54, 3) := by decide +kernel
theorem dX1_bits_22 : decode cX1_bits 22 = .ok (.iload 5, 2) := by decide +kernel
theorem dX1_bits_24 : decode cX1_bits 24 = .ok (.aload_n 0, 1) := by decide +kernel
theorem dX1_bits_25 : decode cX1_bits 25 = .ok (.getfield 7, 3) := by decide +kernel
theorem dX1_bits_28 : decode cX1_bits 28 = .ok (.iload_n 2, 1) := by decide +kernel
theorem dX1_bits_29 : decode cX1_bits 29 = .ok (.iaload, 1) := by decide +kernel
theorem dX1_bits_30 : decode cX1_bits 30 = .ok (.if_icmp .ge 43, 3) := by decide +kernel
theorem dX1_bits_33 : decode cX1_bits 33 = .ok (.aload_n 0, 1) := by decide +kernel
theorem dX1_bits_34 : decode cX1_bits 34 = .ok (.iload_n 2, 1) := by decide +kernel
theorem dX1_bits_35 : decode cX1_bits 35 = .ok (.iload 5, 2) := by decide +kernel
theorem dX1_bits_37 : decode cX1_bits 37 = .ok (.invokevirtual 65, 3) := by decide +kernel
theorem dX1_bits_40 : decode cX1_bits 40 = .ok (.aload_n 0, 1) := by decide +kernel
theorem dX1_bits_41 : decode cX1_bits 41 = .ok (.getfield 38, 3) := by decide +kernel
theorem dX1_bits_44 : decode cX1_bits 44 = .ok (.iconst 2, 1) := by decide +kernel
theorem dX1_bits_45 : decode cX1_bits 45 = .ok (.iload_n 1, 1) := by decide +kernel
theorem dX1_bits_46 : decode cX1_bits 46 = .ok (.imul, 1) := by decide +kernel
theorem dX1_bits_47 : decode cX1_bits 47 = .ok (.iload_n 3, 1) := by decide +kernel
theorem dX1_bits_48 : decode cX1_bits 48 = .ok (.iadd, 1) := by decide +kernel
theorem dX1_bits_49 : decode cX1_bits 49 = .ok (.baload, 1) := by decide +kernel
theorem dX1_bits_50 : decode cX1_bits 50 = .ok (.ifCond .eq 13, 3) := by decide +kernel
theorem dX1_bits_53 : decode cX1_bits 53 = .ok (.iload 4, 2) := by decide +kernel
theorem dX1_bits_55 : decode cX1_bits 55 = .ok (.iconst 1, 1) := by decide +kernel
theorem dX1_bits_56 : decode cX1_bits 56 = .ok (.iload 5, 2) := by decide +kernel
theorem dX1_bits_58 : decode cX1_bits 58 = .ok (.ishl, 1) := by decide +kernel
theorem dX1_bits_59 : decode cX1_bits 59 = .ok (.ior, 1) := by decide +kernel
theorem dX1_bits_60 : decode cX1_bits 60 = .ok (.goto 5, 3) := by decide +kernel
theorem dX1_bits_63 : decode cX1_bits 63 = .ok (.iload 4, 2) := by decide +kernel
theorem dX1_bits_65 : decode cX1_bits 65 = .ok (.istore 4, 2) := by decide +kernel
theorem dX1_bits_67 : decode cX1_bits 67 = .ok (.iinc 5 1, 3) := by decide +kernel
theorem dX1_bits_70 : decode cX1_bits 70 = .ok (.goto (-64), 3) := by decide +kernel
theorem dX1_bits_73 : decode cX1_bits 73 = .ok (.iload 4, 2) := by decide +kernel
theorem dX1_bits_75 : decode cX1_bits 75 = .ok (.ireturn, 1) := by decide +kernel
theorem dX1_having_0 : decode cX1_having 0 = .ok (.aload_n 0, 1) := by decide +kernel
theorem dX1_having_1 : decode cX1_having 1 = .ok (.iload_n 1, 1) := by decide +kernel
theorem dX1_having_2 : decode cX1_having 2 = .ok (.iload_n 2, 1) := by decide +kernel
theorem dX1_having_3 : decode cX1_having 3 = .ok (.iconst 1, 1) := by decide +kernel
theorem dX1_having_4 : decode cX1_having 4 = .ok (.invokevirtual 68, 3) := by decide +kernel
theorem dX1_having_7 : decode cX1_having 7 = .ok (.ireturn, 1) := by decide +kernel
theorem dX1_fault_0 : decode cX1_fault 0 = .ok (.aload_n 0, 1) := by decide +kernel
theorem dX1_fault_1 : decode cX1_fault 1 = .ok (.iload_n 1, 1) := by decide +kernel
theorem dX1_fault_2 : decode cX1_fault 2 = .ok (.invokevirtual 55, 3) := by decide +kernel
theorem dX1_fault_5 : decode cX1_fault 5 = .ok (.ifCond .ne 5, 3) := by decide +kernel
theorem dX1_fault_8 : decode cX1_fault 8 = .ok (.iconst (-1), 1) := by decide +kernel
theorem dX1_fault_9 : decode cX1_fault 9 = .ok (.ireturn, 1) := by decide +kernel
theorem dX1_fault_10 : decode cX1_fault 10 = .ok (.aload_n 0, 1) := by decide +kernel
theorem dX1_fault_11 : decode cX1_fault 11 = .ok (.getfield 20, 3) := by decide +kernel
theorem dX1_fault_14 : decode cX1_fault 14 = .ok (.iload_n 1, 1) := by decide +kernel
theorem dX1_fault_15 : decode cX1_fault 15 = .ok (.iaload, 1) := by decide +kernel
theorem dX1_fault_16 : decode cX1_fault 16 = .ok (.istore_n 2, 1) := by decide +kernel
theorem dX1_fault_17 : decode cX1_fault 17 = .ok (.iload_n 2, 1) := by decide +kernel
theorem dX1_fault_18 : decode cX1_fault 18 = .ok (.iconst 1, 1) := by decide +kernel
theorem dX1_fault_19 : decode cX1_fault 19 = .ok (.if_icmp .lt 16, 3) := by decide +kernel
theorem dX1_fault_22 : decode cX1_fault 22 = .ok (.iload_n 2, 1) := by decide +kernel
theorem dX1_fault_23 : decode cX1_fault 23 = .ok (.iconst 3, 1) := by decide +kernel
theorem dX1_fault_24 : decode cX1_fault 24 = .ok (.if_icmp .gt 11, 3) := by decide +kernel
theorem dX1_fault_27 : decode cX1_fault 27 = .ok (.aload_n 0, 1) := by decide +kernel
theorem dX1_fault_28 : decode cX1_fault 28 = .ok (.iload_n 1, 1) := by decide +kernel
theorem dX1_fault_29 : decode cX1_fault 29 = .ok (.invokevirtual 72, 3) := by decide +kernel
theorem dX1_fault_32 : decode cX1_fault 32 = .ok (.ifCond .ne 5, 3) := by decide +kernel
theorem dX1_fault_35 : decode cX1_fault 35 = .ok (.iconst 0, 1) := by decide +kernel
theorem dX1_fault_36 : decode cX1_fault 36 = .ok (.ireturn, 1) := by decide +kernel
theorem dX1_fault_37 : decode cX1_fault 37 = .ok (.aload_n 0, 1) := by decide +kernel
theorem dX1_fault_38 : decode cX1_fault 38 = .ok (.getfield 23, 3) := by decide +kernel
theorem dX1_fault_41 : decode cX1_fault 41 = .ok (.iload_n 1, 1) := by decide +kernel
theorem dX1_fault_42 : decode cX1_fault 42 = .ok (.iaload, 1) := by decide +kernel
theorem dX1_fault_43 : decode cX1_fault 43 = .ok (.istore_n 3, 1) := by decide +kernel
theorem dX1_fault_44 : decode cX1_fault 44 = .ok (.iload_n 2, 1) := by decide +kernel
theorem dX1_fault_45 : decode cX1_fault 45 = .ok (.iconst 1, 1) := by decide +kernel
theorem dX1_fault_46 : decode cX1_fault 46 = .ok (.if_icmp .eq 40, 3) := by decide +kernel
theorem dX1_fault_49 : decode cX1_fault 49 = .ok (.iconst 1, 1) := by decide +kernel
theorem dX1_fault_50 : decode cX1_fault 50 = .ok (.aload_n 0, 1) := by decide +kernel
theorem dX1_fault_51 : decode cX1_fault 51 = .ok (.getfield 29, 3) := by decide +kernel
theorem dX1_fault_54 : decode cX1_fault 54 = .ok (.iload_n 1, 1) := by decide +kernel
theorem dX1_fault_55 : decode cX1_fault 55 = .ok (.iaload, 1) := by decide +kernel
theorem dX1_fault_56 : decode cX1_fault 56 = .ok (.ishl, 1) := by decide +kernel
theorem dX1_fault_57 : decode cX1_fault 57 = .ok (.iconst 1, 1) := by decide +kernel
theorem dX1_fault_58 : decode cX1_fault 58 = .ok (.isub, 1) := by decide +kernel
theorem dX1_fault_59 : decode cX1_fault 59 = .ok (.aload_n 0, 1) := by decide +kernel
theorem dX1_fault_60 : decode cX1_fault 60 = .ok (.getfield 26, 3) := by decide +kernel
theorem dX1_fault_63 : decode cX1_fault 63 = .ok (.iload_n 1, 1) := by decide +kernel
theorem dX1_fault_64 : decode cX1_fault 64 = .ok (.iaload, 1) := by decide +kernel
theorem dX1_fault_65 : decode cX1_fault 65 = .ok (.ishl, 1) := by decide +kernel
theorem dX1_fault_66 : decode cX1_fault 66 = .ok (.istore 4, 2) := by decide +kernel
theorem dX1_fault_68 : decode cX1_fault 68 = .ok (.aload_n 0, 1) := by decide +kernel
theorem dX1_fault_69 : decode cX1_fault 69 = .ok (.iload_n 1, 1) := by decide +kernel
theorem dX1_fault_70 : decode cX1_fault 70 = .ok (.iload_n 3, 1) := by decide +kernel
theorem dX1_fault_71 : decode cX1_fault 71 = .ok (.invokevirtual 75, 3) := by decide +kernel
theorem dX1_fault_74 : decode cX1_fault 74 = .ok (.iload 4, 2) := by decide +kernel
theorem dX1_fault_76 : decode cX1_fault 76 = .ok (.iand, 1) := by decide +kernel
theorem dX1_fault_77 : decode cX1_fault 77 = .ok (.ifCond .eq 7, 3) := by decide +kernel
theorem dX1_fault_80 : decode cX1_fault 80 = .ok (.iconst 1, 1) := by decide +kernel
theorem dX1_fault_81 : decode cX1_fault 81 = .ok (.goto 4, 3) := by decide +kernel
theorem dX1_fault_84 : decode cX1_fault 84 = .ok (.iconst 0, 1) := by decide +kernel
theorem dX1_fault_85 : decode cX1_fault 85 = .ok (.ireturn, 1) := by decide +kernel
theorem dX1_fault_86 : decode cX1_fault 86 = .ok (.aload_n 0, 1) := by decide +kernel
theorem dX1_fault_87 : decode cX1_fault 87 = .ok (.getfield 13, 3) := by decide +kernel
theorem dX1_fault_90 : decode cX1_fault 90 = .ok (.iload_n 3, 1) := by decide +kernel
theorem dX1_fault_91 : decode cX1_fault 91 = .ok (.baload, 1) := by decide +kernel
theorem dX1_fault_92 : decode cX1_fault 92 = .ok (.ifCond .ne 5, 3) := by decide +kernel
theorem dX1_fault_95 : decode cX1_fault 95 = .ok (.iconst 0, 1) := by decide +kernel
theorem dX1_fault_96 : decode cX1_fault 96 = .ok (.ireturn, 1) := by decide +kernel
theorem dX1_fault_97 : decode cX1_fault 97 = .ok (.aload_n 0, 1) := by decide +kernel
theorem dX1_fault_98 : decode cX1_fault 98 = .ok (.getfield 29, 3) := by decide +kernel
theorem dX1_fault_101 : decode cX1_fault 101 = .ok (.iload_n 1, 1) := by decide +kernel
theorem dX1_fault_102 : decode cX1_fault 102 = .ok (.iaload, 1) := by decide +kernel
theorem dX1_fault_103 : decode cX1_fault 103 = .ok (.aload_n 0, 1) := by decide +kernel
theorem dX1_fault_104 : decode cX1_fault 104 = .ok (.getfield 7, 3) := by decide +kernel
theorem dX1_fault_107 : decode cX1_fault 107 = .ok (.iload_n 3, 1) := by decide +kernel
theorem dX1_fault_108 : decode cX1_fault 108 = .ok (.iaload, 1) := by decide +kernel
theorem dX1_fault_109 : decode cX1_fault 109 = .ok (.if_icmp .ge 7, 3) := by decide +kernel
theorem dX1_fault_112 : decode cX1_fault 112 = .ok (.iconst 3, 1) := by decide +kernel
theorem dX1_fault_113 : decode cX1_fault 113 = .ok (.goto 17, 3) := by decide +kernel
theorem dX1_fault_116 : decode cX1_fault 116 = .ok (.aload_n 0, 1) := by decide +kernel
theorem dX1_fault_117 : decode cX1_fault 117 = .ok (.iload_n 1, 1) := by decide +kernel
theorem dX1_fault_118 : decode cX1_fault 118 = .ok (.iload_n 3, 1) := by decide +kernel
theorem dX1_fault_119 : decode cX1_fault 119 = .ok (.invokevirtual 79, 3) := by decide +kernel
theorem dX1_fault_122 : decode cX1_fault 122 = .ok (.ifCond .eq 7, 3) := by decide +kernel
theorem dX1_fault_125 : decode cX1_fault 125 = .ok (.iconst 2, 1) := by decide +kernel
theorem dX1_fault_126 : decode cX1_fault 126 = .ok (.goto 4, 3) := by decide +kernel
theorem dX1_fault_129 : decode cX1_fault 129 = .ok (.iconst 0, 1) := by decide +kernel
theorem dX1_fault_130 : decode cX1_fault 130 = .ok (.ireturn, 1) := by decide +kernel
theorem dX1_count_0 : decode cX1_count 0 = .ok (.iconst 0, 1) := by decide +kernel
theorem dX1_count_1 : decode cX1_count 1 = .ok (.istore_n 2, 1) := by decide +kernel
theorem dX1_count_2 : decode cX1_count 2 = .ok (.iconst 0, 1) := by decide +kernel
theorem dX1_count_3 : decode cX1_count 3 = .ok (.istore_n 3, 1) := by decide +kernel
theorem dX1_count_4 : decode cX1_count 4 = .ok (.iconst (-1), 1) := by decide +kernel
theorem dX1_count_5 : decode cX1_count 5 = .ok (.istore 4, 2) := by decide +kernel
theorem dX1_count_7 : decode cX1_count 7 = .ok (.iconst 0, 1) := by decide +kernel
theorem dX1_count_8 : decode cX1_count 8 = .ok (.istore 5, 2) := by decide +kernel
theorem dX1_count_10 : decode cX1_count 10 = .ok (.aload_n 0, 1) := by decide +kernel
theorem dX1_count_11 : decode cX1_count 11 = .ok (.getfield 48, 3) := by decide +kernel
theorem dX1_count_14 : decode cX1_count 14 = .ok (.iconst 1, 1) := by decide +kernel
theorem dX1_count_15 : decode cX1_count 15 = .ok (.isub, 1) := by decide +kernel
theorem dX1_count_16 : decode cX1_count 16 = .ok (.istore 6, 2) := by decide +kernel
theorem dX1_count_18 : decode cX1_count 18 = .ok (.iload 6, 2) := by decide +kernel
theorem dX1_count_20 : decode cX1_count 20 = .ok (.ifCond .lt 83, 3) := by decide +kernel
theorem dX1_count_23 : decode cX1_count 23 = .ok (.iload_n 1, 1) := by decide +kernel
theorem dX1_count_24 : decode cX1_count 24 = .ok (.ifCond .le 79, 3) := by decide +kernel
theorem dX1_count_27 : decode cX1_count 27 = .ok (.iload_n 1, 1) := by decide +kernel
theorem dX1_count_28 : decode cX1_count 28 = .ok (.iconst 4, 1) := by decide +kernel
theorem dX1_count_29 : decode cX1_count 29 = .ok (.if_icmp .ge 74, 3) := by decide +kernel
theorem dX1_count_32 : decode cX1_count 32 = .ok (.aload_n 0, 1) := by decide +kernel
theorem dX1_count_33 : decode cX1_count 33 = .ok (.iload 6, 2) := by decide +kernel
theorem dX1_count_35 : decode cX1_count 35 = .ok (.invokevirtual 72, 3) := by decide +kernel
theorem dX1_count_38 : decode cX1_count 38 = .ok (.ifCond .eq 9, 3) := by decide +kernel
theorem dX1_count_41 : decode cX1_count 41 = .ok (.iload_n 2, 1) := by decide +kernel
theorem dX1_count_42 : decode cX1_count 42 = .ok (.iconst 1, 1) := by decide +kernel
theorem dX1_count_43 : decode cX1_count 43 = .ok (.iadd, 1) := by decide +kernel
theorem dX1_count_44 : decode cX1_count 44 = .ok (.goto 4, 3) := by decide +kernel
theorem dX1_count_47 : decode cX1_count 47 = .ok (.iload_n 2, 1) := by decide +kernel
theorem dX1_count_48 : decode cX1_count 48 = .ok (.istore_n 2, 1) := by decide +kernel
theorem dX1_count_49 : decode cX1_count 49 = .ok (.iload_n 1, 1) := by decide +kernel
theorem dX1_count_50 : decode cX1_count 50 = .ok (.iconst 1, 1) := by decide +kernel
theorem dX1_count_51 : decode cX1_count 51 = .ok (.if_icmp .le 16, 3) := by decide +kernel
theorem dX1_count_54 : decode cX1_count 54 = .ok (.aload_n 0, 1) := by decide +kernel
theorem dX1_count_55 : decode cX1_count 55 = .ok (.iload 6, 2) := by decide +kernel
theorem dX1_count_57 : decode cX1_count 57 = .ok (.invokevirtual 82, 3) := by decide +kernel
theorem dX1_count_60 : decode cX1_count 60 = .ok (.ifCond .le 7, 3) := by decide +kernel
theorem dX1_count_63 : decode cX1_count 63 = .ok (.iconst 1, 1) := by decide +kernel
theorem dX1_count_64 : decode cX1_count 64 = .ok (.goto 4, 3) := by decide +kernel
theorem dX1_count_67 : decode cX1_count 67 = .ok (.iconst 0, 1) := by decide +kernel
theorem dX1_count_68 : decode cX1_count 68 = .ok (.istore 7, 2) := by decide +kernel
theorem dX1_count_70 : decode cX1_count 70 = .ok (.iload 7, 2) := by decide +kernel
theorem dX1_count_72 : decode cX1_count 72 = .ok (.ifCond .eq 9, 3) := by decide +kernel
theorem dX1_count_75 : decode cX1_count 75 = .ok (.iload_n 3, 1) := by decide +kernel
theorem dX1_count_76 : decode cX1_count 76 = .ok (.iconst 1, 1) := by decide +kernel
theorem dX1_count_77 : decode cX1_count 77 = .ok (.iadd, 1) := by decide +kernel
theorem dX1_count_78 : decode cX1_count 78 = .ok (.goto 4, 3) := by decide +kernel
theorem dX1_count_81 : decode cX1_count 81 = .ok (.iload_n 3, 1) := by decide +kernel
theorem dX1_count_82 : decode cX1_count 82 = .ok (.istore_n 3, 1) := by decide +kernel
theorem dX1_count_83 : decode cX1_count 83 = .ok (.iload 7, 2) := by decide +kernel
theorem dX1_count_85 : decode cX1_count 85 = .ok (.ifCond .eq 8, 3) := by decide +kernel
theorem dX1_count_88 : decode cX1_count 88 = .ok (.iload 6, 2) := by decide +kernel
theorem dX1_count_90 : decode cX1_count 90 = .ok (.goto 5, 3) := by decide +kernel
theorem dX1_count_93 : decode cX1_count 93 = .ok (.iload 4, 2) := by decide +kernel
theorem dX1_count_95 : decode cX1_count 95 = .ok (.istore 4, 2) := by decide +kernel
theorem dX1_count_97 : decode cX1_count 97 = .ok (.iinc 6 (-1), 3) := by decide +kernel
theorem dX1_count_100 : decode cX1_count 100 = .ok (.goto (-82), 3) := by decide +kernel
theorem dX1_count_103 : decode cX1_count 103 = .ok (.iconst 0, 1) := by decide +kernel
theorem dX1_count_104 : decode cX1_count 104 = .ok (.istore 6, 2) := by decide +kernel
theorem dX1_count_106 : decode cX1_count 106 = .ok (.iload 6, 2) := by decide +kernel
theorem dX1_count_108 : decode cX1_count 108 = .ok (.aload_n 0, 1) := by decide +kernel
theorem dX1_count_109 : decode cX1_count 109 = .ok (.getfield 44, 3) := by decide +kernel
theorem dX1_count_112 : decode cX1_count 112 = .ok (.if_icmp .ge 21, 3) := by decide +kernel
theorem dX1_count_115 : decode cX1_count 115 = .ok (.iload 5, 2) := by decide +kernel
theorem dX1_count_117 : decode cX1_count 117 = .ok (.aload_n 0, 1) := by decide +kernel
theorem dX1_count_118 : decode cX1_count 118 = .ok (.getfield 7, 3) := by decide +kernel
theorem dX1_count_121 : decode cX1_count 121 = .ok (.iload 6, 2) := by decide +kernel
theorem dX1_count_123 : decode cX1_count 123 = .ok (.iaload, 1) := by decide +kernel
theorem dX1_count_124 : decode cX1_count 124 = .ok (.iadd, 1) := by decide +kernel
theorem dX1_count_125 : decode cX1_count 125 = .ok (.istore 5, 2) := by decide +kernel
theorem dX1_count_127 : decode cX1_count 127 = .ok (.iinc 6 1, 3) := by decide +kernel
theorem dX1_count_130 : decode cX1_count 130 = .ok (.goto (-24), 3) := by decide +kernel
theorem dX1_count_133 : decode cX1_count 133 = .ok (.iload_n 1, 1) := by decide +kernel
theorem dX1_count_134 : decode cX1_count 134 = .ok (.ifCond .ne 10, 3) := by decide +kernel
theorem dX1_count_137 : decode cX1_count 137 = .ok (.aload_n 0, 1) := by decide +kernel
theorem dX1_count_138 : decode cX1_count 138 = .ok (.getfield 48, 3) := by decide +kernel
theorem dX1_count_141 : decode cX1_count 141 = .ok (.goto 54, 3) := by decide +kernel
theorem dX1_count_144 : decode cX1_count 144 = .ok (.iload_n 1, 1) := by decide +kernel
theorem dX1_count_145 : decode cX1_count 145 = .ok (.iconst 1, 1) := by decide +kernel
theorem dX1_count_146 : decode cX1_count 146 = .ok (.if_icmp .ne 7, 3) := by decide +kernel
theorem dX1_count_149 : decode cX1_count 149 = .ok (.iload_n 2, 1) := by decide +kernel
theorem dX1_count_150 : decode cX1_count 150 = .ok (.goto 45, 3) := by decide +kernel
theorem dX1_count_153 : decode cX1_count 153 = .ok (.iload_n 1, 1) := by decide +kernel
theorem dX1_count_154 : decode cX1_count 154 = .ok (.iconst 2, 1) := by decide +kernel
theorem dX1_count_155 : decode cX1_count 155 = .ok (.if_icmp .ne 7, 3) := by decide +kernel
theorem dX1_count_158 : decode cX1_count 158 = .ok (.iload_n 3, 1) := by decide +kernel
theorem dX1_count_159 : decode cX1_count 159 = .ok (.goto 36, 3) := by decide +kernel
theorem dX1_count_162 : decode cX1_count 162 = .ok (.iload_n 1, 1) := by decide +kernel
theorem dX1_count_163 : decode cX1_count 163 = .ok (.iconst 3, 1) := by decide +kernel
theorem dX1_count_164 : decode cX1_count 164 = .ok (.if_icmp .ne 8, 3) := by decide +kernel
theorem dX1_count_167 : decode cX1_count 167 = .ok (.iload 4, 2) := by decide +kernel
theorem dX1_count_169 : decode cX1_count 169 = .ok (.goto 26, 3) := by decide +kernel
theorem dX1_count_172 : decode cX1_count 172 = .ok (.iload_n 1, 1) := by decide +kernel
theorem dX1_count_173 : decode cX1_count 173 = .ok (.iconst 4, 1) := by decide +kernel
theorem dX1_count_174 : decode cX1_count 174 = .ok (.if_icmp .ne 10, 3) := by decide +kernel
theorem dX1_count_177 : decode cX1_count 177 = .ok (.aload_n 0, 1) := by decide +kernel
theorem dX1_count_178 : decode cX1_count 178 = .ok (.getfield 44, 3) := by decide +kernel
theorem dX1_count_181 : decode cX1_count 181 = .ok (.goto 14, 3) := by decide +kernel
theorem dX1_count_184 : decode cX1_count 184 = .ok (.iload_n 1, 1) := by decide +kernel
theorem dX1_count_185 : decode cX1_count 185 = .ok (.iconst 5, 1) := by decide +kernel
theorem dX1_count_186 : decode cX1_count 186 = .ok (.if_icmp .ne 8, 3) := by decide +kernel
theorem dX1_count_189 : decode cX1_count 189 = .ok (.iload 5, 2) := by decide +kernel
theorem dX1_count_191 : decode cX1_count 191 = .ok (.goto 4, 3) := by decide +kernel
theorem dX1_count_194 : decode cX1_count 194 = .ok (.iconst (-1), 1) := by decide +kernel
theorem dX1_count_195 : decode cX1_count 195 = .ok (.ireturn, 1) := by decide +kernel
theorem dX1_clear_0 : decode cX1_clear 0 = .ok (.aload_n 0, 1) := by decide +kernel
theorem dX1_clear_1 : decode cX1_clear 1 = .ok (.getfield 48, 3) := by decide +kernel
theorem dX1_clear_4 : decode cX1_clear 4 = .ok (.istore_n 1, 1) := by decide +kernel
theorem dX1_clear_5 : decode cX1_clear 5 = .ok (.aload_n 0, 1) := by decide +kernel
theorem dX1_clear_6 : decode cX1_clear 6 = .ok (.iconst 0, 1) := by decide +kernel
theorem dX1_clear_7 : decode cX1_clear 7 = .ok (.putfield 48, 3) := by decide +kernel
theorem dX1_clear_10 : decode cX1_clear 10 = .ok (.iload_n 1, 1) := by decide +kernel
theorem dX1_clear_11 : decode cX1_clear 11 = .ok (.ireturn, 1) := by decide +kernel
abbrev vwCl : List vw_C := [(RX0, TX0, 18), (RX1, TX1, 14)]
end
section
theorem dL_law_0 : decode cL_law 0 = .ok (.new 7, 3) := by decide +kernel
theorem dL_law_3 : decode cL_law 3 = .ok (.dup, 1) := by decide +kernel
theorem dL_law_4 : decode cL_law 4 = .ok (.invokespecial 9, 3) := by decide +kernel
theorem dL_law_7 : decode cL_law 7 = .ok (.astore_n 1, 1) := by decide +kernel
theorem dL_law_8 : decode cL_law 8 = .ok (.new 10, 3) := by decide +kernel
theorem dL_law_11 : decode cL_law 11 = .ok (.dup, 1) := by decide +kernel
theorem dL_law_12 : decode cL_law 12 = .ok (.invokespecial 12, 3) := by decide +kernel
theorem dL_law_15 : decode cL_law 15 = .ok (.astore_n 2, 1) := by decide +kernel
theorem dL_law_16 : decode cL_law 16 = .ok (.iconst 0, 1) := by decide +kernel
theorem dL_law_17 : decode cL_law 17 = .ok (.istore_n 3, 1) := by decide +kernel
theorem dL_law_18 : decode cL_law 18 = .ok (.iload_n 3, 1) := by decide +kernel
theorem dL_law_19 : decode cL_law 19 = .ok (.aload_n 0, 1) := by decide +kernel
theorem dL_law_20 : decode cL_law 20 = .ok (.arraylength, 1) := by decide +kernel
theorem dL_law_21 : decode cL_law 21 = .ok (.iconst 5, 1) := by decide +kernel
theorem dL_law_22 : decode cL_law 22 = .ok (.isub, 1) := by decide +kernel
theorem dL_law_23 : decode cL_law 23 = .ok (.if_icmp .gt 386, 3) := by decide +kernel
theorem dL_law_26 : decode cL_law 26 = .ok (.aload_n 0, 1) := by decide +kernel
theorem dL_law_27 : decode cL_law 27 = .ok (.iload_n 3, 1) := by decide +kernel
theorem dL_law_28 : decode cL_law 28 = .ok (.iaload, 1) := by decide +kernel
theorem dL_law_29 : decode cL_law 29 = .ok (.bipush 15, 2) := by decide +kernel
theorem dL_law_31 : decode cL_law 31 = .ok (.iand, 1) := by decide +kernel
theorem dL_law_32 : decode cL_law 32 = .ok (.tableswitch 371 0 8 #[52, 127, 180, 223, 246, 279, 312, 335, 358], 52) := by decide +kernel
theorem dL_law_84 : decode cL_law 84 = .ok (.aload_n 1, 1) := by decide +kernel
theorem dL_law_85 : decode cL_law 85 = .ok (.aload_n 0, 1) := by decide +kernel
theorem dL_law_86 : decode cL_law 86 = .ok (.iload_n 3, 1) := by decide +kernel
theorem dL_law_87 : decode cL_law 87 = .ok (.iconst 1, 1) := by decide +kernel
theorem dL_law_88 : decode cL_law 88 = .ok (.iadd, 1) := by decide +kernel
theorem dL_law_89 : decode cL_law 89 = .ok (.iaload, 1) := by decide +kernel
theorem dL_law_90 : decode cL_law 90 = .ok (.aload_n 0, 1) := by decide +kernel
theorem dL_law_91 : decode cL_law 91 = .ok (.iload_n 3, 1) := by decide +kernel
theorem dL_law_92 : decode cL_law 92 = .ok (.iconst 2, 1) := by decide +kernel
theorem dL_law_93 : decode cL_law 93 = .ok (.iadd, 1) := by decide +kernel
theorem dL_law_94 : decode cL_law 94 = .ok (.iaload, 1) := by decide +kernel
theorem dL_law_95 : decode cL_law 95 = .ok (.ifCond .eq 7, 3) := by decide +kernel
theorem dL_law_98 : decode cL_law 98 = .ok (.iconst 1, 1) := by decide +kernel
theorem dL_law_99 : decode cL_law 99 = .ok (.goto 4, 3) := by decide +kernel
theorem dL_law_102 : decode cL_law 102 = .ok (.iconst 0, 1) := by decide +kernel
theorem dL_law_103 : decode cL_law 103 = .ok (.aload_n 0, 1) := by decide +kernel
theorem dL_law_104 : decode cL_law 104 = .ok (.iload_n 3, 1) := by decide +kernel
theorem dL_law_105 : decode cL_law 105 = .ok (.iconst 3, 1) := by decide +kernel
theorem dL_law_106 : decode cL_law 106 = .ok (.iadd, 1) := by decide +kernel
theorem dL_law_107 : decode cL_law 107 = .ok (.iaload, 1) := by decide +kernel
theorem dL_law_108 : decode cL_law 108 = .ok (.ifCond .eq 7, 3) := by decide +kernel
theorem dL_law_111 : decode cL_law 111 = .ok (.iconst 1, 1) := by decide +kernel
theorem dL_law_112 : decode cL_law 112 = .ok (.goto 4, 3) := by decide +kernel
theorem dL_law_115 : decode cL_law 115 = .ok (.iconst 0, 1) := by decide +kernel
theorem dL_law_116 : decode cL_law 116 = .ok (.invokevirtual 13, 3) := by decide +kernel
theorem dL_law_119 : decode cL_law 119 = .ok (.aload_n 2, 1) := by decide +kernel
theorem dL_law_120 : decode cL_law 120 = .ok (.aload_n 0, 1) := by decide +kernel
theorem dL_law_121 : decode cL_law 121 = .ok (.iload_n 3, 1) := by decide +kernel
theorem dL_law_122 : decode cL_law 122 = .ok (.iconst 1, 1) := by decide +kernel
theorem dL_law_123 : decode cL_law 123 = .ok (.iadd, 1) := by decide +kernel
theorem dL_law_124 : decode cL_law 124 = .ok (.iaload, 1) := by decide +kernel
theorem dL_law_125 : decode cL_law 125 = .ok (.aload_n 0, 1) := by decide +kernel
theorem dL_law_126 : decode cL_law 126 = .ok (.iload_n 3, 1) := by decide +kernel
theorem dL_law_127 : decode cL_law 127 = .ok (.iconst 2, 1) := by decide +kernel
theorem dL_law_128 : decode cL_law 128 = .ok (.iadd, 1) := by decide +kernel
theorem dL_law_129 : decode cL_law 129 = .ok (.iaload, 1) := by decide +kernel
theorem dL_law_130 : decode cL_law 130 = .ok (.ifCond .eq 7, 3) := by decide +kernel
theorem dL_law_133 : decode cL_law 133 = .ok (.iconst 1, 1) := by decide +kernel
theorem dL_law_134 : decode cL_law 134 = .ok (.goto 4, 3) := by decide +kernel
theorem dL_law_137 : decode cL_law 137 = .ok (.iconst 0, 1) := by decide +kernel
theorem dL_law_138 : decode cL_law 138 = .ok (.aload_n 0, 1) := by decide +kernel
theorem dL_law_139 : decode cL_law 139 = .ok (.iload_n 3, 1) := by decide +kernel
theorem dL_law_140 : decode cL_law 140 = .ok (.iconst 3, 1) := by decide +kernel
theorem dL_law_141 : decode cL_law 141 = .ok (.iadd, 1) := by decide +kernel
theorem dL_law_142 : decode cL_law 142 = .ok (.iaload, 1) := by decide +kernel
theorem dL_law_143 : decode cL_law 143 = .ok (.ifCond .eq 7, 3) := by decide +kernel
theorem dL_law_146 : decode cL_law 146 = .ok (.iconst 1, 1) := by decide +kernel
theorem dL_law_147 : decode cL_law 147 = .ok (.goto 4, 3) := by decide +kernel
theorem dL_law_150 : decode cL_law 150 = .ok (.iconst 0, 1) := by decide +kernel
theorem dL_law_151 : decode cL_law 151 = .ok (.invokevirtual 17, 3) := by decide +kernel
theorem dL_law_154 : decode cL_law 154 = .ok (.if_icmp .eq 249, 3) := by decide +kernel
theorem dL_law_157 : decode cL_law 157 = .ok (.iconst 0, 1) := by decide +kernel
theorem dL_law_158 : decode cL_law 158 = .ok (.ireturn, 1) := by decide +kernel
theorem dL_law_159 : decode cL_law 159 = .ok (.aload_n 1, 1) := by decide +kernel
theorem dL_law_160 : decode cL_law 160 = .ok (.aload_n 0, 1) := by decide +kernel
theorem dL_law_161 : decode cL_law 161 = .ok (.iload_n 3, 1) := by decide +kernel
theorem dL_law_162 : decode cL_law 162 = .ok (.iconst 1, 1) := by decide +kernel
theorem dL_law_163 : decode cL_law 163 = .ok (.iadd, 1) := by decide +kernel
theorem dL_law_164 : decode cL_law 164 = .ok (.iaload, 1) := by decide +kernel
theorem dL_law_165 : decode cL_law 165 = .ok (.aload_n 0, 1) := by decide +kernel
theorem dL_law_166 : decode cL_law 166 = .ok (.iload_n 3, 1) := by decide +kernel
theorem dL_law_167 : decode cL_law 167 = .ok (.iconst 2, 1) := by decide +kernel
theorem dL_law_168 : decode cL_law 168 = .ok (.iadd, 1) := by decide +kernel
theorem dL_law_169 : decode cL_law 169 = .ok (.iaload, 1) := by decide +kernel
theorem dL_law_170 : decode cL_law 170 = .ok (.aload_n 0, 1) := by decide +kernel
theorem dL_law_171 : decode cL_law 171 = .ok (.iload_n 3, 1) := by decide +kernel
theorem dL_law_172 : decode cL_law 172 = .ok (.iconst 3, 1) := by decide +kernel
theorem dL_law_173 : decode cL_law 173 = .ok (.iadd, 1) := by decide +kernel
theorem dL_law_174 : decode cL_law 174 = .ok (.iaload, 1) := by decide +kernel
theorem dL_law_175 : decode cL_law 175 = .ok (.aload_n 0, 1) := by decide +kernel
theorem dL_law_176 : decode cL_law 176 = .ok (.iload_n 3, 1) := by decide +kernel
theorem dL_law_177 : decode cL_law 177 = .ok (.iconst 4, 1) := by decide +kernel
theorem dL_law_178 : decode cL_law 178 = .ok (.iadd, 1) := by decide +kernel
theorem dL_law_179 : decode cL_law 179 = .ok (.iaload, 1) := by decide +kernel
theorem dL_law_180 : decode cL_law 180 = .ok (.invokevirtual 18, 3) := by decide +kernel
theorem dL_law_183 : decode cL_law 183 = .ok (.aload_n 2, 1) := by decide +kernel
theorem dL_law_184 : decode cL_law 184 = .ok (.aload_n 0, 1) := by decide +kernel
theorem dL_law_185 : decode cL_law 185 = .ok (.iload_n 3, 1) := by decide +kernel
theorem dL_law_186 : decode cL_law 186 = .ok (.iconst 1, 1) := by decide +kernel
theorem dL_law_187 : decode cL_law 187 = .ok (.iadd, 1) := by decide +kernel
theorem dL_law_188 : decode cL_law 188 = .ok (.iaload, 1) := by decide +kernel
theorem dL_law_189 : decode cL_law 189 = .ok (.aload_n 0, 1) := by decide +kernel
theorem dL_law_190 : decode cL_law 190 = .ok (.iload_n 3, 1) := by decide +kernel
theorem dL_law_191 : decode cL_law 191 = .ok (.iconst 2, 1) := by decide +kernel
theorem dL_law_192 : decode cL_law 192 = .ok (.iadd, 1) := by decide +kernel
theorem dL_law_193 : decode cL_law 193 = .ok (.iaload, 1) := by decide +kernel
theorem dL_law_194 : decode cL_law 194 = .ok (.aload_n 0, 1) := by decide +kernel
theorem dL_law_195 : decode cL_law 195 = .ok (.iload_n 3, 1) := by decide +kernel
theorem dL_law_196 : decode cL_law 196 = .ok (.iconst 3, 1) := by decide +kernel
theorem dL_law_197 : decode cL_law 197 = .ok (.iadd, 1) := by decide +kernel
theorem dL_law_198 : decode cL_law 198 = .ok (.iaload, 1) := by decide +kernel
theorem dL_law_199 : decode cL_law 199 = .ok (.aload_n 0, 1) := by decide +kernel
theorem dL_law_200 : decode cL_law 200 = .ok (.iload_n 3, 1) := by decide +kernel
theorem dL_law_201 : decode cL_law 201 = .ok (.iconst 4, 1) := by decide +kernel
theorem dL_law_202 : decode cL_law 202 = .ok (.iadd, 1) := by decide +kernel
theorem dL_law_203 : decode cL_law 203 = .ok (.iaload, 1) := by decide +kernel
theorem dL_law_204 : decode cL_law 204 = .ok (.invokevirtual 22, 3) := by decide +kernel
theorem dL_law_207 : decode cL_law 207 = .ok (.if_icmp .eq 196, 3) := by decide +kernel
theorem dL_law_210 : decode cL_law 210 = .ok (.iconst 0, 1) := by decide +kernel
theorem dL_law_211 : decode cL_law 211 = .ok (.ireturn, 1) := by decide +kernel
theorem dL_law_212 : decode cL_law 212 = .ok (.aload_n 1, 1) := by decide +kernel
theorem dL_law_213 : decode cL_law 213 = .ok (.aload_n 0, 1) := by decide +kernel
theorem dL_law_214 : decode cL_law 214 = .ok (.iload_n 3, 1) := by decide +kernel
theorem dL_law_215 : decode cL_law 215 = .ok (.iconst 1, 1) := by decide +kernel
theorem dL_law_216 : decode cL_law 216 = .ok (.iadd, 1) := by decide +kernel
theorem dL_law_217 : decode cL_law 217 = .ok (.iaload, 1) := by decide +kernel
theorem dL_law_218 : decode cL_law 218 = .ok (.aload_n 0, 1) := by decide +kernel
theorem dL_law_219 : decode cL_law 219 = .ok (.iload_n 3, 1) := by decide +kernel
theorem dL_law_220 : decode cL_law 220 = .ok (.iconst 2, 1) := by decide +kernel
theorem dL_law_221 : decode cL_law 221 = .ok (.iadd, 1) := by decide +kernel
theorem dL_law_222 : decode cL_law 222 = .ok (.iaload, 1) := by decide +kernel
theorem dL_law_223 : decode cL_law 223 = .ok (.aload_n 0, 1) := by decide +kernel
theorem dL_law_224 : decode cL_law 224 = .ok (.iload_n 3, 1) := by decide +kernel
theorem dL_law_225 : decode cL_law 225 = .ok (.iconst 3, 1) := by decide +kernel
theorem dL_law_226 : decode cL_law 226 = .ok (.iadd, 1) := by decide +kernel
theorem dL_law_227 : decode cL_law 227 = .ok (.iaload, 1) := by decide +kernel
theorem dL_law_228 : decode cL_law 228 = .ok (.invokevirtual 23, 3) := by decide +kernel
theorem dL_law_231 : decode cL_law 231 = .ok (.aload_n 2, 1) := by decide +kernel
theorem dL_law_232 : decode cL_law 232 = .ok (.aload_n 0, 1) := by decide +kernel
theorem dL_law_233 : decode cL_law 233 = .ok (.iload_n 3, 1) := by decide +kernel
theorem dL_law_234 : decode cL_law 234 = .ok (.iconst 1, 1) := by decide +kernel
theorem dL_law_235 : decode cL_law 235 = .ok (.iadd, 1) := by decide +kernel
theorem dL_law_236 : decode cL_law 236 = .ok (.iaload, 1) := by decide +kernel
theorem dL_law_237 : decode cL_law 237 = .ok (.aload_n 0, 1) := by decide +kernel
theorem dL_law_238 : decode cL_law 238 = .ok (.iload_n 3, 1) := by decide +kernel
theorem dL_law_239 : decode cL_law 239 = .ok (.iconst 2, 1) := by decide +kernel
theorem dL_law_240 : decode cL_law 240 = .ok (.iadd, 1) := by decide +kernel
theorem dL_law_241 : decode cL_law 241 = .ok (.iaload, 1) := by decide +kernel
theorem dL_law_242 : decode cL_law 242 = .ok (.aload_n 0, 1) := by decide +kernel
theorem dL_law_243 : decode cL_law 243 = .ok (.iload_n 3, 1) := by decide +kernel
theorem dL_law_244 : decode cL_law 244 = .ok (.iconst 3, 1) := by decide +kernel
theorem dL_law_245 : decode cL_law 245 = .ok (.iadd, 1) := by decide +kernel
theorem dL_law_246 : decode cL_law 246 = .ok (.iaload, 1) := by decide +kernel
theorem dL_law_247 : decode cL_law 247 = .ok (.invokevirtual 27, 3) := by decide +kernel
theorem dL_law_250 : decode cL_law 250 = .ok (.if_icmp .eq 153, 3) := by decide +kernel
theorem dL_law_253 : decode cL_law 253 = .ok (.iconst 0, 1) := by decide +kernel
theorem dL_law_254 : decode cL_law 254 = .ok (.ireturn, 1) := by decide +kernel
theorem dL_law_255 : decode cL_law 255 = .ok (.aload_n 1, 1) := by decide +kernel
theorem dL_law_256 : decode cL_law 256 = .ok (.aload_n 0, 1) := by decide +kernel
theorem dL_law_257 : decode cL_law 257 = .ok (.iload_n 3, 1) := by decide +kernel
theorem dL_law_258 : decode cL_law 258 = .ok (.iconst 1, 1) := by decide +kernel
theorem dL_law_259 : decode cL_law 259 = .ok (.iadd, 1) := by decide +kernel
theorem dL_law_260 : decode cL_law 260 = .ok (.iaload, 1) := by decide +kernel
theorem dL_law_261 : decode cL_law 261 = .ok (.invokevirtual 28, 3) := by decide +kernel
theorem dL_law_264 : decode cL_law 264 = .ok (.aload_n 2, 1) := by decide +kernel
theorem dL_law_265 : decode cL_law 265 = .ok (.aload_n 0, 1) := by decide +kernel
theorem dL_law_266 : decode cL_law 266 = .ok (.iload_n 3, 1) := by decide +kernel
theorem dL_law_267 : decode cL_law 267 = .ok (.iconst 1, 1) := by decide +kernel
theorem dL_law_268 : decode cL_law 268 = .ok (.iadd, 1) := by decide +kernel
theorem dL_law_269 : decode cL_law 269 = .ok (.iaload, 1) := by decide +kernel
theorem dL_law_270 : decode cL_law 270 = .ok (.invokevirtual 32, 3) := by decide +kernel
theorem dL_law_273 : decode cL_law 273 = .ok (.if_icmp .eq 130, 3) := by decide +kernel
theorem dL_law_276 : decode cL_law 276 = .ok (.iconst 0, 1) := by decide +kernel
theorem dL_law_277 : decode cL_law 277 = .ok (.ireturn, 1) := by decide +kernel
theorem dL_law_278 : decode cL_law 278 = .ok (.aload_n 1, 1) := by decide +kernel
theorem dL_law_279 : decode cL_law 279 = .ok (.aload_n 0, 1) := by decide +kernel
theorem dL_law_280 : decode cL_law 280 = .ok (.iload_n 3, 1) := by decide +kernel
theorem dL_law_281 : decode cL_law 281 = .ok (.iconst 1, 1) := by decide +kernel
theorem dL_law_282 : decode cL_law 282 = .ok (.iadd, 1) := by decide +kernel
theorem dL_law_283 : decode cL_law 283 = .ok (.iaload, 1) := by decide +kernel
theorem dL_law_284 : decode cL_law 284 = .ok (.aload_n 0, 1) := by decide +kernel
theorem dL_law_285 : decode cL_law 285 = .ok (.iload_n 3, 1) := by decide +kernel
theorem dL_law_286 : decode cL_law 286 = .ok (.iconst 2, 1) := by decide +kernel
theorem dL_law_287 : decode cL_law 287 = .ok (.iadd, 1) := by decide +kernel
theorem dL_law_288 : decode cL_law 288 = .ok (.iaload, 1) := by decide +kernel
theorem dL_law_289 : decode cL_law 289 = .ok (.invokevirtual 33, 3) := by decide +kernel
theorem dL_law_292 : decode cL_law 292 = .ok (.aload_n 2, 1) := by decide +kernel
theorem dL_law_293 : decode cL_law 293 = .ok (.aload_n 0, 1) := by decide +kernel
theorem dL_law_294 : decode cL_law 294 = .ok (.iload_n 3, 1) := by decide +kernel
theorem dL_law_295 : decode cL_law 295 = .ok (.iconst 1, 1) := by decide +kernel
theorem dL_law_296 : decode cL_law 296 = .ok (.iadd, 1) := by decide +kernel
theorem dL_law_297 : decode cL_law 297 = .ok (.iaload, 1) := by decide +kernel
theorem dL_law_298 : decode cL_law 298 = .ok (.aload_n 0, 1) := by decide +kernel
theorem dL_law_299 : decode cL_law 299 = .ok (.iload_n 3, 1) := by decide +kernel
theorem dL_law_300 : decode cL_law 300 = .ok (.iconst 2, 1) := by decide +kernel
theorem dL_law_301 : decode cL_law 301 = .ok (.iadd, 1) := by decide +kernel
theorem dL_law_302 : decode cL_law 302 = .ok (.iaload, 1) := by decide +kernel
theorem dL_law_303 : decode cL_law 303 = .ok (.invokevirtual 37, 3) := by decide +kernel
theorem dL_law_306 : decode cL_law 306 = .ok (.if_icmp .eq 97, 3) := by decide +kernel
theorem dL_law_309 : decode cL_law 309 = .ok (.iconst 0, 1) := by decide +kernel
theorem dL_law_310 : decode cL_law 310 = .ok (.ireturn, 1) := by decide +kernel
theorem dL_law_311 : decode cL_law 311 = .ok (.aload_n 1, 1) := by decide +kernel
theorem dL_law_312 : decode cL_law 312 = .ok (.aload_n 0, 1) := by decide +kernel
theorem dL_law_313 : decode cL_law 313 = .ok (.iload_n 3, 1) := by decide +kernel
theorem dL_law_314 : decode cL_law 314 = .ok (.iconst 1, 1) := by decide +kernel
theorem dL_law_315 : decode cL_law 315 = .ok (.iadd, 1) := by decide +kernel
theorem dL_law_316 : decode cL_law 316 = .ok (.iaload, 1) := by decide +kernel
theorem dL_law_317 : decode cL_law 317 = .ok (.aload_n 0, 1) := by decide +kernel
theorem dL_law_318 : decode cL_law 318 = .ok (.iload_n 3, 1) := by decide +kernel
theorem dL_law_319 : decode cL_law 319 = .ok (.iconst 2, 1) := by decide +kernel
theorem dL_law_320 : decode cL_law 320 = .ok (.iadd, 1) := by decide +kernel
theorem dL_law_321 : decode cL_law 321 = .ok (.iaload, 1) := by decide +kernel
theorem dL_law_322 : decode cL_law 322 = .ok (.invokevirtual 38, 3) := by decide +kernel
theorem dL_law_325 : decode cL_law 325 = .ok (.aload_n 2, 1) := by decide +kernel
theorem dL_law_326 : decode cL_law 326 = .ok (.aload_n 0, 1) := by decide +kernel
theorem dL_law_327 : decode cL_law 327 = .ok (.iload_n 3, 1) := by decide +kernel
theorem dL_law_328 : decode cL_law 328 = .ok (.iconst 1, 1) := by decide +kernel
theorem dL_law_329 : decode cL_law 329 = .ok (.iadd, 1) := by decide +kernel
theorem dL_law_330 : decode cL_law 330 = .ok (.iaload, 1) := by decide +kernel
theorem dL_law_331 : decode cL_law 331 = .ok (.aload_n 0, 1) := by decide +kernel
theorem dL_law_332 : decode cL_law 332 = .ok (.iload_n 3, 1) := by decide +kernel
theorem dL_law_333 : decode cL_law 333 = .ok (.iconst 2, 1) := by decide +kernel
theorem dL_law_334 : decode cL_law 334 = .ok (.iadd, 1) := by decide +kernel
theorem dL_law_335 : decode cL_law 335 = .ok (.iaload, 1) := by decide +kernel
theorem dL_law_336 : decode cL_law 336 = .ok (.invokevirtual 41, 3) := by decide +kernel
theorem dL_law_339 : decode cL_law 339 = .ok (.if_icmp .eq 64, 3) := by decide +kernel
theorem dL_law_342 : decode cL_law 342 = .ok (.iconst 0, 1) := by decide +kernel
theorem dL_law_343 : decode cL_law 343 = .ok (.ireturn, 1) := by decide +kernel
theorem dL_law_344 : decode cL_law 344 = .ok (.aload_n 1, 1) := by decide +kernel
theorem dL_law_345 : decode cL_law 345 = .ok (.aload_n 0, 1) := by decide +kernel
theorem dL_law_346 : decode cL_law 346 = .ok (.iload_n 3, 1) := by decide +kernel
theorem dL_law_347 : decode cL_law 347 = .ok (.iconst 1, 1) := by decide +kernel
theorem dL_law_348 : decode cL_law 348 = .ok (.iadd, 1) := by decide +kernel
theorem dL_law_349 : decode cL_law 349 = .ok (.iaload, 1) := by decide +kernel
theorem dL_law_350 : decode cL_law 350 = .ok (.invokevirtual 42, 3) := by decide +kernel
theorem dL_law_353 : decode cL_law 353 = .ok (.aload_n 2, 1) := by decide +kernel
theorem dL_law_354 : decode cL_law 354 = .ok (.aload_n 0, 1) := by decide +kernel
theorem dL_law_355 : decode cL_law 355 = .ok (.iload_n 3, 1) := by decide +kernel
theorem dL_law_356 : decode cL_law 356 = .ok (.iconst 1, 1) := by decide +kernel
theorem dL_law_357 : decode cL_law 357 = .ok (.iadd, 1) := by decide +kernel
theorem dL_law_358 : decode cL_law 358 = .ok (.iaload, 1) := by decide +kernel
theorem dL_law_359 : decode cL_law 359 = .ok (.invokevirtual 46, 3) := by decide +kernel
theorem dL_law_362 : decode cL_law 362 = .ok (.if_icmp .eq 41, 3) := by decide +kernel
theorem dL_law_365 : decode cL_law 365 = .ok (.iconst 0, 1) := by decide +kernel
theorem dL_law_366 : decode cL_law 366 = .ok (.ireturn, 1) := by decide +kernel
theorem dL_law_367 : decode cL_law 367 = .ok (.aload_n 1, 1) := by decide +kernel
theorem dL_law_368 : decode cL_law 368 = .ok (.aload_n 0, 1) := by decide +kernel
theorem dL_law_369 : decode cL_law 369 = .ok (.iload_n 3, 1) := by decide +kernel
theorem dL_law_370 : decode cL_law 370 = .ok (.iconst 1, 1) := by decide +kernel
theorem dL_law_371 : decode cL_law 371 = .ok (.iadd, 1) := by decide +kernel
theorem dL_law_372 : decode cL_law 372 = .ok (.iaload, 1) := by decide +kernel
theorem dL_law_373 : decode cL_law 373 = .ok (.invokevirtual 47, 3) := by decide +kernel
theorem dL_law_376 : decode cL_law 376 = .ok (.aload_n 2, 1) := by decide +kernel
theorem dL_law_377 : decode cL_law 377 = .ok (.aload_n 0, 1) := by decide +kernel
theorem dL_law_378 : decode cL_law 378 = .ok (.iload_n 3, 1) := by decide +kernel
theorem dL_law_379 : decode cL_law 379 = .ok (.iconst 1, 1) := by decide +kernel
theorem dL_law_380 : decode cL_law 380 = .ok (.iadd, 1) := by decide +kernel
theorem dL_law_381 : decode cL_law 381 = .ok (.iaload, 1) := by decide +kernel
theorem dL_law_382 : decode cL_law 382 = .ok (.invokevirtual 50, 3) := by decide +kernel
theorem dL_law_385 : decode cL_law 385 = .ok (.if_icmp .eq 18, 3) := by decide +kernel
theorem dL_law_388 : decode cL_law 388 = .ok (.iconst 0, 1) := by decide +kernel
theorem dL_law_389 : decode cL_law 389 = .ok (.ireturn, 1) := by decide +kernel
theorem dL_law_390 : decode cL_law 390 = .ok (.aload_n 1, 1) := by decide +kernel
theorem dL_law_391 : decode cL_law 391 = .ok (.invokevirtual 51, 3) := by decide +kernel
theorem dL_law_394 : decode cL_law 394 = .ok (.aload_n 2, 1) := by decide +kernel
theorem dL_law_395 : decode cL_law 395 = .ok (.invokevirtual 55, 3) := by decide +kernel
theorem dL_law_398 : decode cL_law 398 = .ok (.if_icmp .eq 5, 3) := by decide +kernel
theorem dL_law_401 : decode cL_law 401 = .ok (.iconst 0, 1) := by decide +kernel
theorem dL_law_402 : decode cL_law 402 = .ok (.ireturn, 1) := by decide +kernel
theorem dL_law_403 : decode cL_law 403 = .ok (.iinc 3 5, 3) := by decide +kernel
theorem dL_law_406 : decode cL_law 406 = .ok (.goto (-388), 3) := by decide +kernel
theorem dL_law_409 : decode cL_law 409 = .ok (.iconst 1, 1) := by decide +kernel
theorem dL_law_410 : decode cL_law 410 = .ok (.ireturn, 1) := by decide +kernel
set_option maxRecDepth 20000 in
theorem gL_law_X0_init : GoodIn lw_tbl (wsX0_init) := goodIn_p _ [31, 34] (by decide +kernel) (by decide +kernel)
set_option maxRecDepth 20000 in
theorem gL_law_X1_init : GoodIn lw_tbl (wsX1_init) := goodIn_p _ [229, 34] (by decide +kernel) (by decide +kernel)
set_option maxRecDepth 20000 in
theorem gL_law_X0_variable : GoodIn lw_tbl (wsV RL 13 RX0 yX0_variable wsX0_variable) := goodIn_p _ [96] (by decide +kernel) (by decide +kernel)
set_option maxRecDepth 20000 in
theorem gL_law_X1_variable : GoodIn lw_tbl (wsV RL 17 RX1 yX1_variable wsX1_variable) := goodIn_p _ [277] (by decide +kernel) (by decide +kernel)
set_option maxRecDepth 20000 in
theorem gL_law_X0_point : GoodIn lw_tbl (wsV RL 18 RX0 yX0_point wsX0_point) := goodIn_p _ [100, 104, 108, 111, 115, 118, 122] (by decide +kernel) (by decide +kernel)
set_option maxRecDepth 20000 in
theorem gL_law_X1_point : GoodIn lw_tbl (wsV RL 22 RX1 yX1_point wsX1_point) := goodIn_p _ [281, 285] (by decide +kernel) (by decide +kernel)
set_option maxRecDepth 20000 in
theorem gL_law_X0_next : GoodIn lw_tbl (wsV RL 23 RX0 yX0_next wsX0_next) := goodIn_p _ [126, 130, 133] (by decide +kernel) (by decide +kernel)
set_option maxRecDepth 20000 in
theorem gL_law_X1_next : GoodIn lw_tbl (wsV RL 27 RX1 yX1_next wsX1_next) := goodIn_p _ [289, 293] (by decide +kernel) (by decide +kernel)
set_option maxRecDepth 20000 in
theorem gL_law_X0_isReached : GoodIn lw_tbl (wsV RL 28 RX0 yX0_isReached wsX0_isReached) := goodIn_p _ [137, 130, 141, 145, 149, 152, 122, 118, 155, 158, 162, 166, 171, 175] (by decide +kernel) (by decide +kernel)
set_option maxRecDepth 20000 in
theorem gL_law_X1_isReached : GoodIn lw_tbl (wsV RL 32 RX1 yX1_isReached wsX1_isReached) := goodIn_p _ [297, 301, 285, 305, 293] (by decide +kernel) (by decide +kernel)
set_option maxRecDepth 20000 in
theorem gL_law_X0_without : GoodIn lw_tbl (wsV RL 33 RX0 yX0_without wsX0_without) := goodIn_p _ [180, 184, 130, 108, 141, 145, 149, 152, 122, 118, 155, 158, 162, 166, 171, 175, 188] (by decide +kernel) (by decide +kernel)
set_option maxRecDepth 20000 in
theorem gL_law_X1_without : GoodIn lw_tbl (wsV RL 37 RX1 yX1_without wsX1_without) := goodIn_p _ [309, 313, 293, 285, 301, 305] (by decide +kernel) (by decide +kernel)
set_option maxRecDepth 20000 in
theorem gL_law_X0_having : GoodIn lw_tbl (wsV RL 38 RX0 yX0_having wsX0_having) := goodIn_p _ [192, 184, 130, 108, 141, 145, 149, 152, 122, 118, 155, 158, 162, 166, 171, 175, 188] (by decide +kernel) (by decide +kernel)
set_option maxRecDepth 20000 in
theorem gL_law_X1_having : GoodIn lw_tbl (wsV RL 41 RX1 yX1_having wsX1_having) := goodIn_p _ [317, 313, 293, 285, 301, 305] (by decide +kernel) (by decide +kernel)
set_option maxRecDepth 20000 in
theorem gL_law_X0_fault : GoodIn lw_tbl (wsV RL 42 RX0 yX0_fault wsX0_fault) := goodIn_p _ [196, 130, 141, 145, 149, 152, 122, 118, 155, 158, 162, 166, 171, 175, 200, 188] (by decide +kernel) (by decide +kernel)
set_option maxRecDepth 20000 in
theorem gL_law_X1_fault : GoodIn lw_tbl (wsV RL 46 RX1 yX1_fault wsX1_fault) := goodIn_p _ [321, 293, 297, 301, 285, 305, 309, 313, 317] (by decide +kernel) (by decide +kernel)
set_option maxRecDepth 20000 in
theorem gL_law_X0_count : GoodIn lw_tbl (wsV RL 47 RX0 yX0_count wsX0_count) := goodIn_p _ [204, 208, 141, 145, 149, 152, 122, 118, 155, 158, 162, 130, 166, 171, 175, 212, 200, 188, 216, 220] (by decide +kernel) (by decide +kernel)
set_option maxRecDepth 20000 in
theorem gL_law_X1_count : GoodIn lw_tbl (wsV RL 50 RX1 yX1_count wsX1_count) := goodIn_p _ [328, 297, 301, 285, 305, 293, 321, 309, 313, 317] (by decide +kernel) (by decide +kernel)
set_option maxRecDepth 20000 in
theorem gL_law_X0_clear : GoodIn lw_tbl (wsV RL 51 RX0 yX0_clear wsX0_clear) := goodIn_p _ [224] (by decide +kernel) (by decide +kernel)
set_option maxRecDepth 20000 in
theorem gL_law_X1_clear : GoodIn lw_tbl (wsV RL 55 RX1 yX1_clear wsX1_clear) := goodIn_p _ [333] (by decide +kernel) (by decide +kernel)
end
section
theorem wb_tb (n : Nat) : (lN n).toBitVec = BitVec.ofNat 64 n := rfl
theorem wb_inj {a b : Int64} (h : a.toBitVec = b.toBitVec) : a = b := Int64.toBitVec_inj.mp h
theorem wb_tn {n : Nat} (h : n < 2 ^ 64) : (lN n).toBitVec.toNat = n := by rw [wb_tb, BitVec.toNat_ofNat, Nat.mod_eq_of_lt h]
theorem wb_of (x : Int64) : ∃ n, n < 2 ^ 64 ∧ x = lN n := ⟨x.toBitVec.toNat, x.toBitVec.isLt, wb_inj (by rw [wb_tb]; simp)⟩
theorem wb_of32 (x : Int32) : ∃ n, n < 2 ^ 32 ∧ x = nI n := ⟨x.toBitVec.toNat, x.toBitVec.isLt, Int32.toBitVec_inj.mp (by show _ = BitVec.ofNat 32 _; simp)⟩
theorem wb_c : ∀ k, k < 64 → ((nI k).toInt64 &&& 63) = lN k := by decide +kernel
theorem wb_cu : ∀ k, k < 64 → ((nI k).toInt64.toUInt64 &&& Int64.toUInt64 63) = UInt64.ofNat k := by decide +kernel
theorem wb_sm : ∀ k, k < 64 → (BitVec.ofNat 64 k).smod 64 = BitVec.ofNat 64 k := by decide +kernel
theorem wb_pw {a b : Nat} (h : a ≤ b) : 2 ^ b = 2 ^ a * 2 ^ (b - a) := by rw [← Nat.pow_add]; congr 1; omega
theorem wb_lt2 {a b : Nat} (h : a < b) : 2 ^ a < 2 ^ b := Nat.pow_lt_pow_right (by decide) h
theorem wb_mod (n : Nat) : lN n = lN (n % 2 ^ 64) := wb_inj (by rw [wb_tb, wb_tb]; apply BitVec.eq_of_toNat_eq; rw [BitVec.toNat_ofNat, BitVec.toNat_ofNat, Nat.mod_mod])
theorem wb_shr {n k : Nat} (hn : n < 2 ^ 64) (hk : k < 64) : ((lN n).toUInt64 >>> ((nI k).toInt64.toUInt64 &&& Int64.toUInt64 63)).toInt64 = lN (n / 2 ^ k) := by
  rw [wb_cu k hk]
  apply wb_inj
  apply BitVec.eq_of_toNat_eq
  show ((lN n).toUInt64 >>> UInt64.ofNat k).toNat = (BitVec.ofNat 64 _).toNat
  have h1 : (UInt64.ofNat k).toNat = k := by
    show (BitVec.ofNat 64 k).toNat = k
    rw [BitVec.toNat_ofNat, Nat.mod_eq_of_lt (by omega)]
  have h2 : (lN n).toUInt64.toNat = n := wb_tn hn
  rw [UInt64.toNat_shiftRight, h1, h2, Nat.mod_eq_of_lt hk, Nat.shiftRight_eq_div_pow, BitVec.toNat_ofNat, Nat.mod_eq_of_lt (Nat.lt_of_le_of_lt (Nat.div_le_self _ _) hn)]
theorem wb_shl (n : Nat) {k : Nat} (hk : k < 64) : lN n <<< ((nI k).toInt64 &&& 63) = lN (n * 2 ^ k) := by
  rw [wb_c k hk]
  apply wb_inj
  rw [Int64.toBitVec_shiftLeft, wb_tb, wb_tb, wb_tb, wb_sm k hk]
  apply BitVec.eq_of_toNat_eq
  rw [BitVec.shiftLeft_eq', BitVec.toNat_shiftLeft, BitVec.toNat_ofNat, BitVec.toNat_ofNat, BitVec.toNat_ofNat, Nat.mod_eq_of_lt (show k < 2 ^ 64 by omega), Nat.shiftLeft_eq, Nat.mul_mod, Nat.mod_mod, ← Nat.mul_mod]
theorem wb_and {a b : Nat} (ha : a < 2 ^ 64) (hb : b < 2 ^ 64) : lN a &&& lN b = lN (a &&& b) := by
  apply wb_inj
  rw [Int64.toBitVec_and, wb_tb, wb_tb, wb_tb]
  apply BitVec.eq_of_toNat_eq
  rw [BitVec.toNat_and, BitVec.toNat_ofNat, BitVec.toNat_ofNat, BitVec.toNat_ofNat, Nat.mod_eq_of_lt ha, Nat.mod_eq_of_lt hb, Nat.mod_eq_of_lt (Nat.and_lt_two_pow _ hb)]
theorem wb_or {a b : Nat} (ha : a < 2 ^ 64) (hb : b < 2 ^ 64) : lN a ||| lN b = lN (a ||| b) := by
  apply wb_inj
  rw [Int64.toBitVec_or, wb_tb, wb_tb, wb_tb]
  apply BitVec.eq_of_toNat_eq
  rw [BitVec.toNat_or, BitVec.toNat_ofNat, BitVec.toNat_ofNat, BitVec.toNat_ofNat, Nat.mod_eq_of_lt ha, Nat.mod_eq_of_lt hb, Nat.mod_eq_of_lt (Nat.or_lt_two_pow ha hb)]
theorem wb_mask {n k : Nat} (hn : n < 2 ^ 64) (hk : k < 64) : lN n &&& lN (2 ^ k - 1) = lN (n % 2 ^ k) := by
  rw [wb_and hn (by have := wb_lt2 hk; omega), Nat.and_two_pow_sub_one_eq_mod]
theorem wb_a1 {n : Nat} (hn : n < 2 ^ 64) : lN n &&& 1 = lN (n % 2) := wb_mask (k := 1) hn (by decide)
theorem wb_bit {n k : Nat} (hn : n < 2 ^ 64) (hk : k < 64) : ((lN n).toUInt64 >>> ((nI k).toInt64.toUInt64 &&& Int64.toUInt64 63)).toInt64 &&& 1 = lN (n / 2 ^ k % 2) := by
  rw [wb_shr hn hk, wb_a1 (Nat.lt_of_le_of_lt (Nat.div_le_self _ _) hn)]
theorem wb_xor {q k : Nat} (hk : k < 63) (h : 2 ^ k ≤ q) (h2 : q < 2 ^ (k + 1)) : lN q ^^^ lN (2 ^ k) = lN (q - 2 ^ k) := by
  obtain ⟨r, rfl⟩ : ∃ r, q = 2 ^ k + r := ⟨q - 2 ^ k, by omega⟩
  have hr : r < 2 ^ k := by rw [Nat.pow_succ] at h2; omega
  have hx : (2 ^ k + r) ^^^ 2 ^ k = r := by
    apply Nat.eq_of_testBit_eq
    intro i
    rw [Nat.testBit_xor, Nat.testBit_two_pow]
    rcases Nat.lt_trichotomy i k with h | h | h
    · rw [Nat.testBit_two_pow_add_gt h]
      simp [show ¬ k = i by omega]
    · subst h
      rw [Nat.testBit_two_pow_add_eq]
      simp
    · have a1 : 2 ^ (k + 1) ≤ 2 ^ i := Nat.pow_le_pow_right (by decide) h
      rw [Nat.testBit_lt_two_pow (show 2 ^ k + r < 2 ^ i by omega), Nat.testBit_lt_two_pow (show r < 2 ^ i by omega)]
      simp [show ¬ k = i by omega]
  have b1 := wb_lt2 (show k + 1 < 64 by omega)
  have b2 := wb_lt2 (show k < 64 by omega)
  apply wb_inj
  rw [Int64.toBitVec_xor, wb_tb, wb_tb, wb_tb]
  apply BitVec.eq_of_toNat_eq
  rw [BitVec.toNat_xor, BitVec.toNat_ofNat, BitVec.toNat_ofNat, BitVec.toNat_ofNat, Nat.mod_eq_of_lt (by omega : 2 ^ k + r < 2 ^ 64), Nat.mod_eq_of_lt b2, hx, Nat.add_sub_cancel_left, Nat.mod_eq_of_lt (by omega)]
/-! ===== lN: masks, 'or' of parts that don't overlap is a sum ===== -/
end
section
/-! Contracts of methods over a world of cells, in one form: 'ct'; their start (ct_of), their ends (ret_i, ret_z, ret_l, ret_v), their calls (call_vi .. virtual, the whole world; call_si .. static, no world). -/
def ct_P (D : va_G) (cl : List vw_C) (tys : List (ClassId × FieldType)) (av : List Value) (Wd : va_W) (sz : Nat) : Array Value → State → Prop := va_Pc av (fun U => U.heap.size = sz ∧ va_P D cl Wd U.heap ∧ va_K D cl tys U ∧ va_D (fun _ => True) Wd)
def ct_B {S : Type} (D : va_G) (cl : List vw_C) (tys : List (ClassId × FieldType)) (A : Nat → Prop) (W' : S → va_W) (u : S) (t : State) : Prop := va_P D cl (W' u) t.heap ∧ va_K D cl tys t ∧ va_D A (W' u)
def ct (l : Launch) (y : MethodName) (ws : List Cond) (rm : Room) (D : va_G) (cl : List vw_C) (tys : List (ClassId × FieldType)) (av : List Value) (Wd : va_W) (Qf : (Nat → Prop) → Array Value → State → Outcome → State → Prop) (mc ms : Nat) : Prop :=
  ∀ sz : Nat, Met l y ws rm (ct_P D cl tys av Wd sz) (Qf (va_A Wd sz)) mc ms (va_A Wd sz)
def qI {S : Type} (D : va_G) (cl : List vw_C) (tys : List (ClassId × FieldType)) (post : Int32 → S → Prop) (W' : S → va_W) (A : Nat → Prop) : Array Value → State → Outcome → State → Prop := va_Qi post (ct_B D cl tys A W') A
def qL {S : Type} (D : va_G) (cl : List vw_C) (tys : List (ClassId × FieldType)) (post : Int64 → S → Prop) (W' : S → va_W) (A : Nat → Prop) : Array Value → State → Outcome → State → Prop := va_Ql post (ct_B D cl tys A W') A
def qV {S : Type} (D : va_G) (cl : List vw_C) (tys : List (ClassId × FieldType)) (post : S → Prop) (W' : S → va_W) (A : Nat → Prop) : Array Value → State → Outcome → State → Prop := va_Qv post (ct_B D cl tys A W') A
theorem ct_P_blind {D : va_G} {cl : List vw_C} {tys : List (ClassId × FieldType)} {av : List Value} {Wd : va_W} {sz : Nat} : FrameBlind (ct_P D cl tys av Wd sz) := fun a U g mk q => by
  obtain ⟨q0, q1, qP, qK, qD⟩ := q
  exact ⟨q0, q1, qP, va_K.moved (u := U) (U := U.calling g mk a) (Vm.Alike.refl U.vm) qK, qD⟩
theorem ct_of {l : Launch} {y : MethodName} {ws ws' : List Cond} {rm : Room} {D : va_G} {cl : List vw_C} {tys : List (ClassId × FieldType)} {av : List Value} {Wd : va_W} {Qf : (Nat → Prop) → Array Value → State → Outcome → State → Prop} {mc ms : Nat} {cc : ByteArray} {maxL : Nat} {ret : Option FieldType}
    (hy : plainName y.cls = true) (hw : ws = Cond.code y cc maxL ret :: ws') (hav : (lg_sl av).length ≤ maxL)
    (body : ∀ (p : Program) (e : Env) (s : State) (m : MethodId) (below : List Frame) (meth : Method) (c : Code) (A : Nat → Prop) (ls : Array Slot),
      p.tables.exec = Jvm.exec → c.code = cc → meth.sig.returnType = ret → c.maxLocals = maxL → meth.locks = false → s.vm.findClass y.cls = some m.cls → (s.methodNamed? y = some m ∧ s.vm.method? m = some meth) → (∀ w ∈ ws, w.before av.toArray s = true) → (∀ q : Nat, s.heap.size ≤ q → A q) → va_K D cl tys s → va_P D cl Wd s.heap → va_D A Wd → va_S A s.heap s.heap [] → lv_has ls maxL (lv_args 0 av) →
      W p l e rm s m av.toArray below meth c s.heap [] 0 0 (MQ below (Qf A) av.toArray s mc ms A) (F0 m 0 ls [])) : ct l y ws rm D cl tys av Wd Qf mc ms := by
  intro sz
  refine Met.ofW (cc := cc) (maxL := maxL) (ret := ret) hy hw ?_
  intro p e s m args below meth c s₁ B hml hv
  obtain ⟨rfl, hsz, hP, hK, hD0⟩ := hv
  subst hsz
  have hl := lv_entry av (n := maxL) hav
  rw [lg_entry_eq]
  exact body p e s m below meth c (va_A Wd s.heap.size) _ B.exec B.bytes B.returns hml B.notSynchronized (findClass_of_methodNamed B.named) ⟨B.named, B.method⟩ (atoms_spec (ws := ws) B.pre) (fun q h => Or.inr h) hK hP hD0.self va_S.rf hl
section PKA
variable {p : Program} {l : Launch} {e : Env} {R : Room} {s : State} {m : MethodId} {args : Array Value} {below : List Frame} {meth : Method} {c : Code} {H : Heap} {locs : List Loc} {cells slots : Nat} {Q : State → Prop}
variable {cc : ByteArray} {pc : Nat} {ls : Array Slot} {rest st0 : List Value} {D : va_G} {cl : List vw_C} {A : Nat → Prop} {tys : List (ClassId × FieldType)} {ws : va_W}
theorem ret_i {S : Type} {post : Int32 → S → Prop} {W' : S → va_W} {v : Int32} (hx : p.tables.exec = Jvm.exec) (hb : c.code = cc) (hr : meth.sig.returnType = some .int) (hlocks : meth.locks = false) (hK : va_K D cl tys s) (hP : va_P D cl ws H) (hD : va_D A ws) (hS : va_S A s.heap H locs) (hdg : decode cc pc = .ok (.ireturn, 1)) (u : S) (hW : W' u = ws) (hp : post v u) :
    W p l e R s m args below meth c H locs cells slots (MQ below (qI D cl tys post W' A) args s cells slots A) (F0 m pc ls [.int v]) := by
  subst hW
  exact W.iret hx hb hr (fun t ht hW => ⟨⟨v, u, rfl, hp, by rw [ht]; exact hP, va_K.moved hW.alike hK, hD⟩, hS.F ht⟩) hS.2.2 hdg hlocks
theorem ret_z {S : Type} {post : Int32 → S → Prop} {W' : S → va_W} {v : Int32} {ty : FieldType} (hx : p.tables.exec = Jvm.exec) (hb : c.code = cc) (hr : meth.sig.returnType = some ty) (hlocks : meth.locks = false) (hK : va_K D cl tys s) (hP : va_P D cl ws H) (hD : va_D A ws) (hS : va_S A s.heap H locs) (hdg : decode cc pc = .ok (.ireturn, 1)) (u : S) (hW : W' u = ws) (hn : narrow ty (.int v) = .int v) (hp : post v u) :
    W p l e R s m args below meth c H locs cells slots (MQ below (qI D cl tys post W' A) args s cells slots A) (F0 m pc ls [.int v]) := by
  subst hW
  exact W.zret hx hb hr hn (fun t ht hW => ⟨⟨v, u, rfl, hp, by rw [ht]; exact hP, va_K.moved hW.alike hK, hD⟩, hS.F ht⟩) hS.2.2 hdg hlocks
theorem ret_l {S : Type} {post : Int64 → S → Prop} {W' : S → va_W} {v : Int64} (hx : p.tables.exec = Jvm.exec) (hb : c.code = cc) (hr : meth.sig.returnType = some .long) (hlocks : meth.locks = false) (hK : va_K D cl tys s) (hP : va_P D cl ws H) (hD : va_D A ws) (hS : va_S A s.heap H locs) (hdg : decode cc pc = .ok (.lreturn, 1)) (u : S) (hW : W' u = ws) (hp : post v u) :
    W p l e R s m args below meth c H locs cells slots (MQ below (qL D cl tys post W' A) args s cells slots A) (F0 m pc ls [.long v]) := by
  subst hW
  exact W.lret hx hb hr (fun t ht hW => ⟨⟨v, u, rfl, hp, by rw [ht]; exact hP, va_K.moved hW.alike hK, hD⟩, hS.F ht⟩) hS.2.2 hdg hlocks
theorem ret_v {S : Type} {post : S → Prop} {W' : S → va_W} (hx : p.tables.exec = Jvm.exec) (hb : c.code = cc) (hr : meth.sig.returnType = none) (hlocks : meth.locks = false) (hK : va_K D cl tys s) (hP : va_P D cl ws H) (hD : va_D A ws) (hS : va_S A s.heap H locs) (hdg : decode cc pc = .ok (.return_, 1)) (u : S) (hW : W' u = ws) (hp : post u) :
    W p l e R s m args below meth c H locs cells slots (MQ below (qV D cl tys post W' A) args s cells slots A) (F0 m pc ls []) := by
  subst hW
  exact W.vret hx hb hr (fun t ht hW => ⟨⟨u, rfl, hp, by rw [ht]; exact hP, va_K.moved hW.alike hK, hD⟩, hS.F ht⟩) hS.2.2 hdg hlocks
variable {y : MethodName} {bytes : ByteArray} {maxL nL n index ci : Nat} {ret : Option FieldType} {wsC wsC' Ts : List Cond} {rm : Room} {own C : String} {b : Addr} {As : List Value} {H0 : Heap} {Wd : va_W} {fs : List Value} {cq : vw_C}
theorem wd_free (hD : va_D A Wd) (hS : va_S A H0 H locs) (hA : ∀ q : Nat, H0.size ≤ q → A q) : ∀ q, va_A Wd H.size q → A q := fun q h => h.elim (fun h => by
    obtain ⟨k, e, hk⟩ := h
    exact hD.2 k _ hk) (fun h => hA q (Nat.le_trans hS.1 h))
/-- what a call of a method y of class C at place 'index' of the caller's pool wants, in one: by program -/
def cpV (Ts : List Cond) (own : String) (index : Nat) (C : String) (y : MethodName) (wsC : List Cond) (bytes : ByteArray) (maxL : Nat) (ret : Option FieldType) (n : Nat) : Prop :=
  GoodIn Ts (wsV own index C y wsC) ∧ (∃ wsC', wsC = Cond.code y bytes maxL ret :: wsC') ∧ (y.cls = C ∧ y.cls ≠ "java/lang/invoke/MethodHandle" ∧ y.cls ≠ "java/lang/invoke/VarHandle" ∧ (parseMethodDescriptor y.desc).map (fun d => d.parameters.length) = some n)
def cpS (Ts : List Cond) (own : String) (index : Nat) (y : MethodName) (wsC : List Cond) (bytes : ByteArray) (maxL : Nat) (ret : Option FieldType) (n : Nat) : Prop :=
  GoodIn Ts (va_wsS own index y wsC) ∧ (∃ wsC', wsC = Cond.code y bytes maxL ret :: wsC') ∧ (y.cls ≠ "java/lang/invoke/MethodHandle" ∧ y.cls ≠ "java/lang/invoke/VarHandle" ∧ (parseMethodDescriptor y.desc).map (fun d => d.parameters.length) = some n)
theorem call_vi {S : Type} {post : Int32 → S → Prop} {W' : S → va_W} (F : CallFix p m c cc nL s args Ts own) (hM : ct l y wsC rm D cl tys (.ref b :: As) Wd (qI D cl tys post W') 0 0) (cp : cpV Ts own index C y wsC bytes maxL ret n)
    (hz : rm.cells = 0 ∧ rm.slots = 0) (hR : rm.frames + 1 ≤ R.frames ∧ 8 + (maxL + 11) + rm.locals ≤ R.locals) (hc : cl[ci]? = some cq) (hq : cq.1 = C) (q0 : Nat) (he : Wd[q0]? = some (b, .inr (ci, fs)))
    (hn : As.length = n) (hsize : ls.size = nL) (hst : st0 = As.reverse ++ .ref b :: rest) (hroom : (rest.map fun v => v.category).sum ≤ 8) (hdg : decode cc pc = .ok (.invokevirtual index, 3)) (hcs : cells ≤ R.cells ∧ slots ≤ R.slots)
    (hK : va_K D cl tys s) (hP : va_P D cl Wd H) (hD : va_D A Wd) (hS : va_S A H0 H locs) (hA : ∀ q : Nat, H0.size ≤ q → A q)
    (kk : ∀ (r : Int32) (u : S) (H1 : Heap) (locs1 : List Loc), post r u → va_P D cl (W' u) H1 → va_D A (W' u) → va_S A H0 H1 locs1 → W p l e R s m args below meth c H1 locs1 cells slots Q (F0 m (pc + 3) ls (.int r :: rest))) :
    W p l e R s m args below meth c H locs cells slots Q (F0 m pc ls st0) := by
  subst hq
  obtain ⟨hG, ⟨wsC', hw⟩, hd⟩ := cp
  have hF := wd_free hD hS hA
  refine va_calli (va_runV (As := As) (rest := rest) F (hM H.size) (cwV n F.2.2.2.2 hG hw hz.1 hz.2 hd hR) ⟨ct_P_blind, va_recv hK hP hc he, fun U hU hW => ⟨rfl, by rw [hU], by rw [hU]; exact hP, va_K.moved hW.alike hK, hD.weaken (fun _ _ _ _ => trivial)⟩⟩ rfl hn hsize hst (lv_room hroom) hdg hcs) hS (fun q _ h => hF q h) hF (fun r u t H1 locs1 ht hvm hp hB hz1 hk1 hS1 => ?_)
  obtain ⟨hP1, hK1, hD1⟩ := hB
  rw [ht] at hP1
  exact kk r u H1 locs1 hp hP1 (hD1.weaken (fun _ _ _ h => hF _ h)) hS1
theorem call_vl {S : Type} {post : Int64 → S → Prop} {W' : S → va_W} (F : CallFix p m c cc nL s args Ts own) (hM : ct l y wsC rm D cl tys (.ref b :: As) Wd (qL D cl tys post W') 0 0) (cp : cpV Ts own index C y wsC bytes maxL ret n)
    (hz : rm.cells = 0 ∧ rm.slots = 0) (hR : rm.frames + 1 ≤ R.frames ∧ 8 + (maxL + 11) + rm.locals ≤ R.locals) (hc : cl[ci]? = some cq) (hq : cq.1 = C) (q0 : Nat) (he : Wd[q0]? = some (b, .inr (ci, fs)))
    (hn : As.length = n) (hsize : ls.size = nL) (hst : st0 = As.reverse ++ .ref b :: rest) (hroom : (rest.map fun v => v.category).sum ≤ 8) (hdg : decode cc pc = .ok (.invokevirtual index, 3)) (hcs : cells ≤ R.cells ∧ slots ≤ R.slots)
    (hK : va_K D cl tys s) (hP : va_P D cl Wd H) (hD : va_D A Wd) (hS : va_S A H0 H locs) (hA : ∀ q : Nat, H0.size ≤ q → A q)
    (kk : ∀ (r : Int64) (u : S) (H1 : Heap) (locs1 : List Loc), post r u → va_P D cl (W' u) H1 → va_D A (W' u) → va_S A H0 H1 locs1 → W p l e R s m args below meth c H1 locs1 cells slots Q (F0 m (pc + 3) ls (.long r :: rest))) :
    W p l e R s m args below meth c H locs cells slots Q (F0 m pc ls st0) := by
  subst hq
  obtain ⟨hG, ⟨wsC', hw⟩, hd⟩ := cp
  have hF := wd_free hD hS hA
  refine va_calll (va_runV (As := As) (rest := rest) F (hM H.size) (cwV n F.2.2.2.2 hG hw hz.1 hz.2 hd hR) ⟨ct_P_blind, va_recv hK hP hc he, fun U hU hW => ⟨rfl, by rw [hU], by rw [hU]; exact hP, va_K.moved hW.alike hK, hD.weaken (fun _ _ _ _ => trivial)⟩⟩ rfl hn hsize hst (lv_room hroom) hdg hcs) hS (fun q _ h => hF q h) hF (fun r u t H1 locs1 ht hvm hp hB hz1 hk1 hS1 => ?_)
  obtain ⟨hP1, hK1, hD1⟩ := hB
  rw [ht] at hP1
  exact kk r u H1 locs1 hp hP1 (hD1.weaken (fun _ _ _ h => hF _ h)) hS1
theorem call_vv {S : Type} {post : S → Prop} {W' : S → va_W} (F : CallFix p m c cc nL s args Ts own) (hM : ct l y wsC rm D cl tys (.ref b :: As) Wd (qV D cl tys post W') 0 0) (cp : cpV Ts own index C y wsC bytes maxL ret n)
    (hz : rm.cells = 0 ∧ rm.slots = 0) (hR : rm.frames + 1 ≤ R.frames ∧ 8 + (maxL + 11) + rm.locals ≤ R.locals) (hc : cl[ci]? = some cq) (hq : cq.1 = C) (q0 : Nat) (he : Wd[q0]? = some (b, .inr (ci, fs)))
    (hn : As.length = n) (hsize : ls.size = nL) (hst : st0 = As.reverse ++ .ref b :: rest) (hroom : (rest.map fun v => v.category).sum ≤ 8) (hdg : decode cc pc = .ok (.invokevirtual index, 3)) (hcs : cells ≤ R.cells ∧ slots ≤ R.slots)
    (hK : va_K D cl tys s) (hP : va_P D cl Wd H) (hD : va_D A Wd) (hS : va_S A H0 H locs) (hA : ∀ q : Nat, H0.size ≤ q → A q)
    (kk : ∀ (u : S) (H1 : Heap) (locs1 : List Loc), post u → va_P D cl (W' u) H1 → va_D A (W' u) → va_S A H0 H1 locs1 → W p l e R s m args below meth c H1 locs1 cells slots Q (F0 m (pc + 3) ls rest)) :
    W p l e R s m args below meth c H locs cells slots Q (F0 m pc ls st0) := by
  subst hq
  obtain ⟨hG, ⟨wsC', hw⟩, hd⟩ := cp
  have hF := wd_free hD hS hA
  refine va_callv (va_runV (As := As) (rest := rest) F (hM H.size) (cwV n F.2.2.2.2 hG hw hz.1 hz.2 hd hR) ⟨ct_P_blind, va_recv hK hP hc he, fun U hU hW => ⟨rfl, by rw [hU], by rw [hU]; exact hP, va_K.moved hW.alike hK, hD.weaken (fun _ _ _ _ => trivial)⟩⟩ rfl hn hsize hst (lv_room hroom) hdg hcs) hS (fun q _ h => hF q h) hF (fun u t H1 locs1 ht hvm hp hB hz1 hk1 hS1 => ?_)
  obtain ⟨hP1, hK1, hD1⟩ := hB
  rw [ht] at hP1
  exact kk u H1 locs1 hp hP1 (hD1.weaken (fun _ _ _ h => hF _ h)) hS1
theorem wd_nilA {q : Nat} (h : q < H.size) : ¬ va_A [] H.size q := fun g => g.elim (fun ⟨k, e, hk⟩ => by simp at hk) (fun g => absurd g (Nat.not_le.mpr h))
theorem wd_nilF (hS : va_S A H0 H locs) (hA : ∀ q : Nat, H0.size ≤ q → A q) : ∀ q, va_A [] H.size q → A q := fun q g => g.elim (fun ⟨k, e, hk⟩ => by simp at hk) (fun g => hA q (Nat.le_trans hS.1 g))
theorem wd_nilP : va_P D cl [] H := fun k q h => by simp at h
theorem wd_nilD : va_D A [] := ⟨fun i j p q h => by simp at h, fun k q h => by simp at h⟩
theorem call_si {S : Type} {post : Int32 → S → Prop} {W' : S → va_W} (F : CallFix p m c cc nL s args Ts own) (hM : ct l y wsC rm D cl tys As [] (qI D cl tys post W') 0 0) (cp : cpS Ts own index y wsC bytes maxL ret n)
    (hz : rm.cells = 0 ∧ rm.slots = 0) (hR : rm.frames + 1 ≤ R.frames ∧ 8 + (maxL + 11) + rm.locals ≤ R.locals)
    (hn : As.length = n) (hsize : ls.size = nL) (hst : st0 = As.reverse ++ rest) (hroom : (rest.map fun v => v.category).sum ≤ 8) (hdg : decode cc pc = .ok (.invokestatic index, 3)) (hcs : cells ≤ R.cells ∧ slots ≤ R.slots)
    (hK : va_K D cl tys s) (hP : va_P D cl Wd H) (hS : va_S A H0 H locs) (hA : ∀ q : Nat, H0.size ≤ q → A q)
    (kk : ∀ (r : Int32) (u : S) (H1 : Heap) (locs1 : List Loc), post r u → va_P D cl Wd H1 → va_S A H0 H1 locs1 → W p l e R s m args below meth c H1 locs1 cells slots Q (F0 m (pc + 3) ls (.int r :: rest))) :
    W p l e R s m args below meth c H locs cells slots Q (F0 m pc ls st0) := by
  obtain ⟨hG, ⟨wsC', hw⟩, hd⟩ := cp
  have hF := wd_nilF hS hA
  refine va_calli (va_runS (As := As) (rest := rest) F (hM H.size) (va_cwS n F.2.2.2.2 hG hw hz.1 hz.2 hd hR) ⟨ct_P_blind, fun U hU hW => ⟨rfl, by rw [hU], wd_nilP, va_K.moved hW.alike hK, wd_nilD⟩⟩ rfl hn hsize hst (lv_room hroom) hdg hcs) hS (fun q _ h => hF q h) hF (fun r u t H1 locs1 ht hvm hp hB hz1 hk1 hS1 => ?_)
  exact kk r u H1 locs1 hp (fun k q hq => (hP k q hq).kept (hk1 q.1 (hP k q hq).lt (wd_nilA (hP k q hq).lt))) hS1
theorem call_sl {S : Type} {post : Int64 → S → Prop} {W' : S → va_W} (F : CallFix p m c cc nL s args Ts own) (hM : ct l y wsC rm D cl tys As [] (qL D cl tys post W') 0 0) (cp : cpS Ts own index y wsC bytes maxL ret n)
    (hz : rm.cells = 0 ∧ rm.slots = 0) (hR : rm.frames + 1 ≤ R.frames ∧ 8 + (maxL + 11) + rm.locals ≤ R.locals)
    (hn : As.length = n) (hsize : ls.size = nL) (hst : st0 = As.reverse ++ rest) (hroom : (rest.map fun v => v.category).sum ≤ 8) (hdg : decode cc pc = .ok (.invokestatic index, 3)) (hcs : cells ≤ R.cells ∧ slots ≤ R.slots)
    (hK : va_K D cl tys s) (hP : va_P D cl Wd H) (hS : va_S A H0 H locs) (hA : ∀ q : Nat, H0.size ≤ q → A q)
    (kk : ∀ (r : Int64) (u : S) (H1 : Heap) (locs1 : List Loc), post r u → va_P D cl Wd H1 → va_S A H0 H1 locs1 → W p l e R s m args below meth c H1 locs1 cells slots Q (F0 m (pc + 3) ls (.long r :: rest))) :
    W p l e R s m args below meth c H locs cells slots Q (F0 m pc ls st0) := by
  obtain ⟨hG, ⟨wsC', hw⟩, hd⟩ := cp
  have hF := wd_nilF hS hA
  refine va_calll (va_runS (As := As) (rest := rest) F (hM H.size) (va_cwS n F.2.2.2.2 hG hw hz.1 hz.2 hd hR) ⟨ct_P_blind, fun U hU hW => ⟨rfl, by rw [hU], wd_nilP, va_K.moved hW.alike hK, wd_nilD⟩⟩ rfl hn hsize hst (lv_room hroom) hdg hcs) hS (fun q _ h => hF q h) hF (fun r u t H1 locs1 ht hvm hp hB hz1 hk1 hS1 => ?_)
  exact kk r u H1 locs1 hp (fun k q hq => (hP k q hq).kept (hk1 q.1 (hP k q hq).lt (wd_nilA (hP k q hq).lt))) hS1
end PKA
end
section
/-! Pure rows: counting, sums, bits of longs, ways over a graph, the ring of waiting points, one step of the solver. -/
def cnt (f : Nat → Bool) : Nat → Nat
  | 0 => 0
  | n + 1 => cnt f n + (if f n = true then 1 else 0)
theorem cnt_le (f : Nat → Bool) (n : Nat) : cnt f n ≤ n := by
  induction n with
  | zero => exact Nat.le_refl 0
  | succ n ih =>
    simp only [cnt]
    split <;> omega
theorem cnt_mono {f g : Nat → Bool} {n : Nat} (h : ∀ i, i < n → f i = true → g i = true) : cnt f n ≤ cnt g n := by
  induction n with
  | zero => exact Nat.le_refl 0
  | succ n ih =>
    have h1 := ih (fun i hi => h i (Nat.lt_succ_of_lt hi))
    have h2 := h n (Nat.lt_succ_self n)
    simp only [cnt]
    by_cases hf : f n = true
    · rw [if_pos hf, if_pos (h2 hf)]; omega
    · rw [if_neg hf]; split <;> omega
theorem cnt_lt {f g : Nat → Bool} {n i : Nat} (h : ∀ i, i < n → f i = true → g i = true) (hi : i < n) (hf : f i = false) (hg : g i = true) : cnt f n + 1 ≤ cnt g n := by
  induction n with
  | zero => exact absurd hi (Nat.not_lt_zero i)
  | succ n ih =>
    simp only [cnt]
    by_cases e : i = n
    · subst e
      have h1 := cnt_mono (f := f) (g := g) (n := i) (fun j hj => h j (Nat.lt_succ_of_lt hj))
      rw [if_neg (by rw [hf]; decide), if_pos hg]; omega
    · have h1 := ih (fun j hj => h j (Nat.lt_succ_of_lt hj)) (by omega)
      have h2 := h n (Nat.lt_succ_self n)
      by_cases hfn : f n = true
      · rw [if_pos hfn, if_pos (h2 hfn)]; omega
      · rw [if_neg hfn]; split <;> omega
theorem cnt_congr {f g : Nat → Bool} {n : Nat} (h : ∀ i, i < n → f i = g i) : cnt f n = cnt g n := by
  induction n with
  | zero => rfl
  | succ n ih =>
    simp only [cnt]
    rw [ih (fun i hi => h i (Nat.lt_succ_of_lt hi)), h n (Nat.lt_succ_self n)]
theorem cnt_set {f g : Nat → Bool} {n i : Nat} (hi : i < n) (hf : f i = false) (hg : g i = true) (ho : ∀ j, j < n → j ≠ i → g j = f j) : cnt g n = cnt f n + 1 := by
  induction n with
  | zero => exact absurd hi (Nat.not_lt_zero i)
  | succ n ih =>
    simp only [cnt]
    by_cases e : i = n
    · subst e
      rw [cnt_congr (f := g) (g := f) (n := i) (fun j hj => ho j (Nat.lt_succ_of_lt hj) (Nat.ne_of_lt hj)), if_pos hg, if_neg (by rw [hf]; decide)]
    · rw [ih (by omega) (fun j hj => ho j (Nat.lt_succ_of_lt hj)), ho n (Nat.lt_succ_self n) (fun h => e h.symm)]
      omega
theorem cnt_zero {f : Nat → Bool} {n : Nat} (h : cnt f n = 0) : ∀ i, i < n → f i = false := by
  induction n with
  | zero => exact fun i hi => absurd hi (Nat.not_lt_zero i)
  | succ n ih =>
    simp only [cnt] at h
    intro i hi
    by_cases e : i = n
    · subst e
      cases hf : f i with
      | false => rfl
      | true => rw [if_pos hf] at h; omega
    · exact ih (by omega) i (by omega)
theorem cnt_none {f : Nat → Bool} {n : Nat} (h : ∀ i, i < n → f i = false) : cnt f n = 0 := by
  induction n with
  | zero => rfl
  | succ n ih =>
    simp only [cnt]
    rw [ih (fun i hi => h i (Nat.lt_succ_of_lt hi)), if_neg (by rw [h n (Nat.lt_succ_self n)]; decide)]
def smN (f : Nat → Nat) : Nat → Nat
  | 0 => 0
  | n + 1 => smN f n + f n
theorem smN_le {f : Nat → Nat} {b : Nat} (h : ∀ i, f i ≤ b) (n : Nat) : smN f n ≤ n * b := by
  induction n with
  | zero => exact Nat.zero_le _
  | succ n ih =>
    simp only [smN]
    have := h n
    rw [Nat.succ_mul]
    omega
theorem smN_mono {f g : Nat → Nat} {n : Nat} (h : ∀ i, i < n → f i ≤ g i) : smN f n ≤ smN g n := by
  induction n with
  | zero => exact Nat.le_refl 0
  | succ n ih =>
    simp only [smN]
    have h1 := ih (fun i hi => h i (Nat.lt_succ_of_lt hi))
    have h2 := h n (Nat.lt_succ_self n)
    omega
theorem smN_lt {f g : Nat → Nat} {n i : Nat} (h : ∀ i, i < n → f i ≤ g i) (hi : i < n) (hl : f i + 1 ≤ g i) : smN f n + 1 ≤ smN g n := by
  induction n with
  | zero => exact absurd hi (Nat.not_lt_zero i)
  | succ n ih =>
    simp only [smN]
    by_cases e : i = n
    · subst e
      have h1 := smN_mono (f := f) (g := g) (n := i) (fun j hj => h j (Nat.lt_succ_of_lt hj))
      omega
    · have h1 := ih (fun j hj => h j (Nat.lt_succ_of_lt hj)) (by omega)
      have h2 := h n (Nat.lt_succ_self n)
      omega
/-- bit i of a long -/
def bl (x : Int64) (i : Nat) : Bool := x.toBitVec.getLsbD i
theorem bl_or (x y : Int64) (i : Nat) : bl (x ||| y) i = (bl x i || bl y i) := by
  unfold bl
  rw [Int64.toBitVec_or, BitVec.getLsbD_or]
theorem bl_and (x y : Int64) (i : Nat) : bl (x &&& y) i = (bl x i && bl y i) := by
  unfold bl
  rw [Int64.toBitVec_and, BitVec.getLsbD_and]
theorem bl_not (x : Int64) {i : Nat} (hi : i < 64) : bl (x ^^^ (-1)) i = !bl x i := by
  unfold bl
  rw [Int64.toBitVec_xor, BitVec.getLsbD_xor, show ((-1 : Int64).toBitVec) = BitVec.allOnes 64 from rfl, BitVec.getLsbD_allOnes]
  simp [hi]
theorem bl_0 (i : Nat) : bl 0 i = false := by
  unfold bl
  rw [show ((0 : Int64).toBitVec) = 0#64 from rfl]
  simp
theorem bl_ext {x y : Int64} (h : ∀ i, i < 64 → bl x i = bl y i) : x = y := by
  have hb : x.toBitVec = y.toBitVec := BitVec.eq_of_getLsbD_eq (fun i hi => h i hi)
  exact Int64.toBitVec_inj.mp hb
def pop (x : Int64) : Nat := cnt (bl x) 64
theorem pop_le (x : Int64) : pop x ≤ 64 := cnt_le _ _
theorem pop_or (x y : Int64) : pop x ≤ pop (x ||| y) := cnt_mono (fun i _ h => by rw [bl_or, h]; rfl)
theorem pop_or_lt {x y : Int64} (h : ¬ x ||| y = x) : pop x + 1 ≤ pop (x ||| y) := by
  have : ∃ i, i < 64 ∧ bl x i = false ∧ bl (x ||| y) i = true := by
    refine Classical.byContradiction (fun hn => h (bl_ext (fun i hi => ?_)))
    cases h1 : bl x i with
    | true => rw [bl_or, h1]; rfl
    | false =>
      cases h2 : bl (x ||| y) i with
      | false => rfl
      | true => exact absurd ⟨i, hi, h1, h2⟩ hn
  obtain ⟨i, hi, h1, h2⟩ := this
  exact cnt_lt (fun j _ hj => by rw [bl_or, hj]; rfl) hi h1 h2
/-! ways -/
def ed (pX pY : Nat → Int32) (np q p : Nat) : Prop := (pX q = nI p ∨ pY q = nI p) ∧ p < np
def wy (E : Nat → Nat → Prop) (np : Nat) : Nat → Nat → Prop
  | 0, p => p = 0 ∧ 0 < np
  | k + 1, p => ∃ q, wy E np k q ∧ E q p
def fk (E : Nat → Nat → Prop) (np : Nat) (b0 : Prop) (gn kl : Nat → Prop) : Nat → Nat → Prop
  | 0, p => p = 0 ∧ 0 < np ∧ b0
  | k + 1, p => ∃ q, E q p ∧ wy E np k q ∧ (gn q ∨ (¬ kl q ∧ fk E np b0 gn kl k q))
def rch (E : Nat → Nat → Prop) (np p : Nat) : Prop := ∃ k, wy E np k p
def may (E : Nat → Nat → Prop) (np : Nat) (b0 : Prop) (gn kl : Nat → Prop) (p : Nat) : Prop := ∃ k, fk E np b0 gn kl k p
section WAYS
variable {E : Nat → Nat → Prop} {np : Nat} {b0 : Prop} {gn kl : Nat → Prop} {p q : Nat}
theorem fk_wy {k : Nat} (h : fk E np b0 gn kl k p) : wy E np k p := by
  cases k with
  | zero => exact ⟨h.1, h.2.1⟩
  | succ k =>
    obtain ⟨q, h1, h2, _⟩ := h
    exact ⟨q, h2, h1⟩
theorem rch_0 (h : 0 < np) : rch E np 0 := ⟨0, rfl, h⟩
theorem rch_s (h : rch E np q) (he : E q p) : rch E np p := by
  obtain ⟨k, h⟩ := h
  exact ⟨k + 1, q, h, he⟩
theorem may_rch (h : may E np b0 gn kl p) : rch E np p := by
  obtain ⟨k, h⟩ := h
  exact ⟨k, fk_wy h⟩
theorem may_0 (h : 0 < np) (hb : b0) : may E np b0 gn kl 0 := ⟨0, rfl, h, hb⟩
theorem may_g (h : rch E np q) (he : E q p) (hg : gn q) : may E np b0 gn kl p := by
  obtain ⟨k, h⟩ := h
  exact ⟨k + 1, q, he, h, Or.inl hg⟩
theorem may_p (h : may E np b0 gn kl q) (he : E q p) (hk : ¬ kl q) : may E np b0 gn kl p := by
  obtain ⟨k, h⟩ := h
  exact ⟨k + 1, q, he, fk_wy h, Or.inr ⟨hk, h⟩⟩
theorem rch_in {X : Nat → Prop} (h0 : 0 < np → X 0) (hs : ∀ q p, X q → E q p → X p) (h : rch E np p) : X p := by
  obtain ⟨k, h⟩ := h
  induction k generalizing p with
  | zero => obtain ⟨rfl, h⟩ := h; exact h0 h
  | succ k ih =>
    obtain ⟨q, h1, h2⟩ := h
    exact hs q p (ih h1) h2
theorem may_in {X B : Nat → Prop} (h0 : 0 < np → X 0) (hs : ∀ q p, X q → E q p → X p) (hb : 0 < np → b0 → B 0) (hB : ∀ q p, X q → E q p → (gn q ∨ (¬ kl q ∧ B q)) → B p) (h : may E np b0 gn kl p) : B p := by
  obtain ⟨k, h⟩ := h
  induction k generalizing p with
  | zero => obtain ⟨rfl, h1, h2⟩ := h; exact hb h1 h2
  | succ k ih =>
    obtain ⟨q, h1, h2, h3⟩ := h
    refine hB q p (rch_in h0 hs ⟨k, h2⟩) h1 ?_
    rcases h3 with h3 | ⟨h3, h4⟩
    · exact Or.inl h3
    · exact Or.inr ⟨h3, ih h4⟩
theorem wy_congr {E' : Nat → Nat → Prop} (he : ∀ q p, q < np → (E q p ↔ E' q p)) (hn : ∀ q p, E q p → p < np) {k : Nat} : wy E np k p ↔ wy E' np k p := by
  have lt : ∀ (k p : Nat), wy E np k p → p < np := by
    intro k p h
    cases k with
    | zero => obtain ⟨rfl, h⟩ := h; exact h
    | succ k => obtain ⟨q, _, h2⟩ := h; exact hn q p h2
  induction k generalizing p with
  | zero => exact Iff.rfl
  | succ k ih =>
    constructor
    · intro h
      obtain ⟨q, h1, h2⟩ := h
      exact ⟨q, ih.mp h1, (he q p (lt k q h1)).mp h2⟩
    · intro h
      obtain ⟨q, h1, h2⟩ := h
      have h1' := ih.mpr h1
      exact ⟨q, h1', (he q p (lt k q h1')).mpr h2⟩
theorem rch_lt (hn : ∀ q p, E q p → p < np) (h : rch E np p) : p < np := by
  obtain ⟨k, h⟩ := h
  cases k with
  | zero => obtain ⟨rfl, h⟩ := h; exact h
  | succ k => obtain ⟨q, _, h2⟩ := h; exact hn q p h2
end WAYS
/-! the ring -/
def Rg (np : Nat) (iw wt : Nat → Int32) (hd wn : Nat) : Prop :=
  hd < 120 ∧ wn ≤ 120 ∧ (∀ i, i < 120 → iw i = 0 ∨ iw i = 1) ∧ cnt (fun i => decide (iw i = 1)) 120 = wn ∧ (∀ a, a < wn → ∃ j, j < np ∧ wt ((hd + a) % 120) = nI j ∧ iw j = 1) ∧ ∀ a b, a < wn → b < wn → wt ((hd + a) % 120) = wt ((hd + b) % 120) → a = b
theorem i01 : ¬ (0 : Int32) = 1 := by decide
theorem Rg_room {np : Nat} {iw wt : Nat → Int32} {hd wn j : Nat} (h : Rg np iw wt hd wn) (hj : j < 120) (h0 : iw j = 0) : wn < 120 := by
  obtain ⟨_, _, _, hc, _⟩ := h
  have h1 := cnt_lt (f := fun i => decide (iw i = 1)) (g := fun _ => true) (n := 120) (i := j) (fun _ _ _ => rfl) hj (by rw [h0]; rfl) rfl
  have h2 := cnt_le (fun _ => true) 120
  omega
theorem Rg_add {np : Nat} {iw wt : Nat → Int32} {hd wn j : Nat} (h : Rg np iw wt hd wn) (hn : np ≤ 120) (hj : j < np) (h0 : iw j = 0) : Rg np (upd iw j 1) (upd wt ((hd + wn) % 120) (nI j)) hd (wn + 1) := by
  have hr := Rg_room h (Nat.lt_of_lt_of_le hj hn) h0
  obtain ⟨hh, hw, hb, hc, hm, hd1⟩ := h
  have hne : ∀ a, a < wn → (hd + a) % 120 ≠ (hd + wn) % 120 := fun a ha => by omega
  have hold : ∀ a, a < wn → ∃ i, i < np ∧ wt ((hd + a) % 120) = nI i ∧ iw i = 1 ∧ i ≠ j := fun a ha => by
    obtain ⟨i, h1, h2, h3⟩ := hm a ha
    exact ⟨i, h1, h2, h3, fun e => i01 (by rw [← h0, ← e]; exact h3)⟩
  refine ⟨hh, by omega, fun i hi => ?_, ?_, fun a ha => ?_, fun a b ha hb2 hab => ?_⟩
  · by_cases e : i = j
    · rw [e, pk_us]; exact Or.inr rfl
    · rw [pk_un e]; exact hb i hi
  · rw [cnt_set (f := fun i => decide (iw i = 1)) (g := fun i => decide (upd iw j 1 i = 1)) (n := 120) (i := j) (by omega) (by simp [h0]) (by simp [pk_us]) (fun i _ e => by simp only [pk_un e]), hc]
  · by_cases e : a = wn
    · subst e
      exact ⟨j, hj, pk_us, pk_us⟩
    · obtain ⟨i, h1, h2, h3, h4⟩ := hold a (by omega)
      exact ⟨i, h1, by rw [pk_un (hne a (by omega))]; exact h2, by rw [pk_un h4]; exact h3⟩
  · by_cases ea : a = wn
    · by_cases eb : b = wn
      · omega
      · subst ea
        obtain ⟨i, h1, h2, h3, h4⟩ := hold b (by omega)
        rw [pk_us, pk_un (hne b (by omega)), h2] at hab
        exact absurd ((nI_eq (by omega) (by omega)).mp hab).symm h4
    · by_cases eb : b = wn
      · subst eb
        obtain ⟨i, h1, h2, h3, h4⟩ := hold a (by omega)
        rw [pk_us, pk_un (hne a (by omega)), h2] at hab
        exact absurd ((nI_eq (by omega) (by omega)).mp hab) h4
      · rw [pk_un (hne a (by omega)), pk_un (hne b (by omega))] at hab
        exact hd1 a b (by omega) (by omega) hab
theorem Rg_take {np : Nat} {iw wt : Nat → Int32} {hd wn : Nat} (h : Rg np iw wt hd wn) (hn : np ≤ 120) (h0 : 0 < wn) : ∃ j, j < np ∧ wt hd = nI j ∧ iw j = 1 ∧ Rg np (upd iw j 0) wt ((hd + 1) % 120) (wn - 1) := by
  obtain ⟨hh, hw, hb, hc, hm, hd1⟩ := h
  obtain ⟨j, h1, h2, h3⟩ := hm 0 h0
  have e0 : (hd + 0) % 120 = hd := by omega
  have em : ∀ a, a < wn - 1 → ((hd + 1) % 120 + a) % 120 = (hd + (a + 1)) % 120 := fun a _ => by omega
  rw [e0] at h2
  refine ⟨j, h1, h2, h3, by omega, by omega, fun i hi => ?_, ?_, fun a ha => ?_, fun a b ha hb2 hab => ?_⟩
  · by_cases e : i = j
    · rw [e, pk_us]; exact Or.inl rfl
    · rw [pk_un e]; exact hb i hi
  · have := cnt_set (f := fun i => decide (upd iw j 0 i = 1)) (g := fun i => decide (iw i = 1)) (n := 120) (i := j) (by omega) (by simp [pk_us]) (by simp [h3]) (fun i _ e => by simp only [pk_un e])
    omega
  · obtain ⟨i, g1, g2, g3⟩ := hm (a + 1) (by omega)
    have hij : i ≠ j := fun e => by
      have := hd1 0 (a + 1) h0 (by omega) (by rw [e0, h2, g2, e])
      omega
    exact ⟨i, g1, by rw [em a ha]; exact g2, by rw [pk_un hij]; exact g3⟩
  · rw [em a ha, em b hb2] at hab
    have := hd1 (a + 1) (b + 1) (by omega) (by omega) hab
    omega
/-! the solver's state: sound, closed but for X, begun, measured -/
def Sd (np : Nat) (E : Nat → Nat → Prop) (gn kl : Nat → Nat → Nat → Prop) (b0 : Nat → Nat → Prop) (rc : Nat → Int32) (ah : Nat → Int64) : Prop :=
  (∀ p, p < np → rc p = 1 → rch E np p) ∧ ∀ p w i, p < np → w < 6 → i < 64 → bl (ah (p * 6 + w)) i = true → may E np (b0 w i) (fun q => gn q w i) (fun q => kl q w i) p
def Cl (np : Nat) (E : Nat → Nat → Prop) (gn kl : Nat → Nat → Nat → Prop) (rc iw : Nat → Int32) (ah : Nat → Int64) (X : Nat → Prop) : Prop :=
  ∀ p q, p < np → ¬ X p → rc p = 1 → iw p = 0 → E p q → rc q = 1 ∧ ∀ w i, w < 6 → i < 64 → (gn p w i ∨ (¬ kl p w i ∧ bl (ah (p * 6 + w)) i = true)) → bl (ah (q * 6 + w)) i = true
def Bg (np : Nat) (b0 : Nat → Nat → Prop) (rc : Nat → Int32) (ah : Nat → Int64) : Prop := 0 < np → rc 0 = 1 ∧ ∀ w i, w < 6 → i < 64 → b0 w i → bl (ah (0 * 6 + w)) i = true
def gs (rc : Nat → Int32) (ah : Nat → Int64) : Nat := cnt (fun i => decide (rc i = 1)) 120 + smN (fun w => pop (ah w)) 720
theorem gs_le (rc : Nat → Int32) (ah : Nat → Int64) : gs rc ah ≤ 46200 := by
  have h1 := cnt_le (fun i => decide (rc i = 1)) 120
  have h2 := smN_le (f := fun w => pop (ah w)) (b := 64) (fun w => pop_le _) 720
  unfold gs
  omega
theorem solve_done {np : Nat} {E : Nat → Nat → Prop} {gn kl : Nat → Nat → Nat → Prop} {b0 : Nat → Nat → Prop} {rc iw : Nat → Int32} {ah : Nat → Int64} (hn : np ≤ 120) (hE : ∀ q p, E q p → p < np) (hs : Sd np E gn kl b0 rc ah) (hc : Cl np E gn kl rc iw ah (fun _ => False)) (hb : Bg np b0 rc ah) (hw : ∀ i, i < 120 → iw i = 0) :
    (∀ p, p < np → (rc p = 1 ↔ rch E np p)) ∧ ∀ p w i, p < np → w < 6 → i < 64 → (bl (ah (p * 6 + w)) i = true ↔ may E np (b0 w i) (fun q => gn q w i) (fun q => kl q w i) p) := by
  have hX : ∀ q p, (q < np ∧ rc q = 1) → E q p → (p < np ∧ rc p = 1) := fun q p h1 h2 => ⟨hE q p h2, (hc q p h1.1 (fun h => h) h1.2 (hw q (by omega)) h2).1⟩
  refine ⟨fun p hp => ⟨hs.1 p hp, fun h => ?_⟩, fun p w i hp hw6 hi => ⟨hs.2 p w i hp hw6 hi, fun h => ?_⟩⟩
  · exact (rch_in (X := fun p => p < np ∧ rc p = 1) (fun h0 => ⟨h0, (hb h0).1⟩) hX h).2
  · exact may_in (X := fun p => p < np ∧ rc p = 1) (B := fun p => bl (ah (p * 6 + w)) i = true) (fun h0 => ⟨h0, (hb h0).1⟩) hX (fun h0 hb0 => (hb h0).2 w i hw6 hi hb0) (fun q p h1 h2 h3 => (hc q p h1.1 (fun h => h) h1.2 (hw q (by omega)) h2).2 w i hw6 hi h3) h
/-- what goOnTo(j) does to reached and ahead -/
def Jn (be : Nat → Int64) (rc : Nat → Int32) (ah : Nat → Int64) (j : Nat) (rc' : Nat → Int32) (ah' : Nat → Int64) : Prop :=
  rc' = upd rc j 1 ∧ (∀ w, w < 6 → ah' (j * 6 + w) = ah (j * 6 + w) ||| be w) ∧ ∀ n, (n < j * 6 ∨ j * 6 + 6 ≤ n) → ah' n = ah n
def Chg (be : Nat → Int64) (rc : Nat → Int32) (ah : Nat → Int64) (j : Nat) : Prop := rc j = 0 ∨ ∃ w, w < 6 ∧ ¬ ah (j * 6 + w) ||| be w = ah (j * 6 + w)
section JN
variable {be : Nat → Int64} {rc rc' : Nat → Int32} {ah ah' : Nat → Int64} {j np : Nat}
theorem Jn_oth (h : Jn be rc ah j rc' ah') {p w : Nat} (hw : w < 6) (hp : p ≠ j) : ah' (p * 6 + w) = ah (p * 6 + w) := h.2.2 _ (by omega)
theorem Jn_ge (h : Jn be rc ah j rc' ah') {p w i : Nat} (hw : w < 6) (hb : bl (ah (p * 6 + w)) i = true) : bl (ah' (p * 6 + w)) i = true := by
  by_cases e : p = j
  · subst e
    rw [h.2.1 w hw, bl_or, hb]; rfl
  · rw [Jn_oth h hw e]; exact hb
theorem Jn_rc (h : Jn be rc ah j rc' ah') {p : Nat} (hp : rc p = 1) : rc' p = 1 := by
  rw [h.1]
  by_cases e : p = j
  · rw [e, pk_us]
  · rw [pk_un e]; exact hp
theorem Jn_be (h : Jn be rc ah j rc' ah') {w i : Nat} (hw : w < 6) (hb : bl (be w) i = true) : bl (ah' (j * 6 + w)) i = true := by
  rw [h.2.1 w hw, bl_or, hb, Bool.or_true]
theorem Jn_all (h : Jn be rc ah j rc' ah') (n : Nat) : pop (ah n) ≤ pop (ah' n) := by
  by_cases e : n < j * 6 ∨ j * 6 + 6 ≤ n
  · rw [h.2.2 n e]; exact Nat.le_refl _
  · obtain ⟨w, hw, rfl⟩ : ∃ w, w < 6 ∧ n = j * 6 + w := ⟨n - j * 6, by omega, by omega⟩
    rw [h.2.1 w hw]
    exact pop_or _ _
theorem Jn_cnt (h : Jn be rc ah j rc' ah') : cnt (fun i => decide (rc i = 1)) 120 ≤ cnt (fun i => decide (rc' i = 1)) 120 := cnt_mono (fun i _ hi => by
  have := Jn_rc h (of_decide_eq_true hi)
  exact decide_eq_true this)
theorem Jn_gs (h : Jn be rc ah j rc' ah') : gs rc ah ≤ gs rc' ah' := Nat.add_le_add (Jn_cnt h) (smN_mono (fun n _ => Jn_all h n))
theorem Jn_gsl (h : Jn be rc ah j rc' ah') (hj : j < 120) (hc : Chg be rc ah j) : gs rc ah + 1 ≤ gs rc' ah' := by
  rcases hc with hc | ⟨w, hw, hc⟩
  · have h1 := cnt_lt (f := fun i => decide (rc i = 1)) (g := fun i => decide (rc' i = 1)) (n := 120) (i := j) (fun i _ hi => decide_eq_true (Jn_rc h (of_decide_eq_true hi))) hj (by simp [hc]) (by simp [h.1, pk_us])
    have h2 := smN_mono (f := fun w => pop (ah w)) (g := fun w => pop (ah' w)) (n := 720) (fun n _ => Jn_all h n)
    unfold gs
    omega
  · have h1 := Jn_cnt h
    have h2 := smN_lt (f := fun w => pop (ah w)) (g := fun w => pop (ah' w)) (n := 720) (i := j * 6 + w) (fun n _ => Jn_all h n) (by omega) (by
      show pop (ah (j * 6 + w)) + 1 ≤ pop (ah' (j * 6 + w))
      rw [h.2.1 w hw]
      exact pop_or_lt hc)
    unfold gs
    omega
theorem Jn_same (h : Jn be rc ah j rc' ah') (hj : rc j = 0 ∨ rc j = 1) (hc : ¬ Chg be rc ah j) : rc' = rc ∧ ∀ n, ah' n = ah n := by
  have h1 : rc j = 1 := hj.elim (fun e => absurd (Or.inl e) hc) id
  refine ⟨?_, fun n => ?_⟩
  · rw [h.1]
    funext i
    by_cases e : i = j
    · rw [e, pk_us, h1]
    · rw [pk_un e]
  · by_cases e : n < j * 6 ∨ j * 6 + 6 ≤ n
    · exact h.2.2 n e
    · obtain ⟨w, hw, rfl⟩ : ∃ w, w < 6 ∧ n = j * 6 + w := ⟨n - j * 6, by omega, by omega⟩
      rw [h.2.1 w hw]
      exact Classical.byContradiction (fun e => hc (Or.inr ⟨w, hw, e⟩))
end JN
/-- what addWaiting(j) does to the ring -/
def Aw (iw wt : Nat → Int32) (hd wn j : Nat) (iw' wt' : Nat → Int32) (wn' : Nat) : Prop :=
  ((iw j ≠ 0 ∨ 120 ≤ wn) ∧ iw' = iw ∧ wt' = wt ∧ wn' = wn) ∨ (iw j = 0 ∧ wn < 120 ∧ iw' = upd iw j 1 ∧ wt' = upd wt ((hd + wn) % 120) (nI j) ∧ wn' = wn + 1)
/-- what goOnTo(j) does, for a point j -/
def Go (be : Nat → Int64) (rc iw wt : Nat → Int32) (ah : Nat → Int64) (hd wn j : Nat) (rc' iw' wt' : Nat → Int32) (ah' : Nat → Int64) (wn' : Nat) : Prop :=
  Jn be rc ah j rc' ah' ∧ ((¬ Chg be rc ah j ∧ iw' = iw ∧ wt' = wt ∧ wn' = wn) ∨ (Chg be rc ah j ∧ Aw iw wt hd wn j iw' wt' wn'))
/-- the solver's state -/
def Sv (np : Nat) (E : Nat → Nat → Prop) (gn kl : Nat → Nat → Nat → Prop) (b0 : Nat → Nat → Prop) (rc iw wt : Nat → Int32) (ah : Nat → Int64) (hd wn tn : Nat) (X : Nat → Prop) : Prop :=
  (∀ i, i < 120 → rc i = 0 ∨ rc i = 1) ∧ Rg np iw wt hd wn ∧ Sd np E gn kl b0 rc ah ∧ Cl np E gn kl rc iw ah X ∧ tn + wn ≤ gs rc ah ∧ ∀ i, i < np → iw i = 1 → rc i = 1
theorem Go_step {np : Nat} {E : Nat → Nat → Prop} {gn kl : Nat → Nat → Nat → Prop} {b0 : Nat → Nat → Prop} {rc iw wt rc' iw' wt' : Nat → Int32} {ah ah' be : Nat → Int64} {hd wn tn wn' j : Nat} {X : Nat → Prop} (hn : np ≤ 120) (hE : ∀ q p, E q p → p < np) (hj : j < np)
    (h : Sv np E gn kl b0 rc iw wt ah hd wn tn X) (hg : Go be rc iw wt ah hd wn j rc' iw' wt' ah' wn') (hr : rch E np j) (hbe : ∀ w i, w < 6 → i < 64 → bl (be w) i = true → may E np (b0 w i) (fun q => gn q w i) (fun q => kl q w i) j) :
    Sv np E gn kl b0 rc' iw' wt' ah' hd wn' tn X ∧ rc' j = 1 ∧ (∀ w i, w < 6 → bl (be w) i = true → bl (ah' (j * 6 + w)) i = true) ∧ (∀ p, rc p = 1 → rc' p = 1) ∧ (∀ p w i, w < 6 → bl (ah (p * 6 + w)) i = true → bl (ah' (p * 6 + w)) i = true) ∧ (∀ p, p < np → iw' p = 0 → iw p = 0 ∧ ∀ w, w < 6 → ah' (p * 6 + w) = ah (p * 6 + w)) := by
  obtain ⟨hb, hR, hS, hC, hm, hq⟩ := h
  obtain ⟨hJ, hg⟩ := hg
  have hj120 : j < 120 := Nat.lt_of_lt_of_le hj hn
  have hb' : ∀ i, i < 120 → rc' i = 0 ∨ rc' i = 1 := fun i hi => by
    rw [hJ.1]
    by_cases e : i = j
    · rw [e, pk_us]; exact Or.inr rfl
    · rw [pk_un e]; exact hb i hi
  have hS' : Sd np E gn kl b0 rc' ah' := by
    refine ⟨fun p hp h1 => ?_, fun p w i hp hw hi h1 => ?_⟩
    · by_cases e : p = j
      · rw [e]; exact hr
      · rw [hJ.1, pk_un e] at h1; exact hS.1 p hp h1
    · by_cases e : p = j
      · subst e
        rw [hJ.2.1 w hw, bl_or, Bool.or_eq_true] at h1
        exact h1.elim (hS.2 p w i hp hw hi) (hbe w i hw hi)
      · rw [Jn_oth hJ hw e] at h1; exact hS.2 p w i hp hw hi h1
  have hj1 : rc' j = 1 := by rw [hJ.1, pk_us]
  have hkeep : ∀ p, p < np → iw' p = 0 → iw p = 0 ∧ (p = j → rc j = 1) ∧ ∀ w, w < 6 → ah' (p * 6 + w) = ah (p * 6 + w) := by
    intro p hp h0
    rcases hg with ⟨hc, h1, h2, h3⟩ | ⟨hc, hA⟩
    · obtain ⟨e1, e2⟩ := Jn_same hJ (hb j hj120) hc
      refine ⟨by rw [← h1]; exact h0, fun _ => ?_, fun w _ => e2 _⟩
      rw [← e1]; exact hj1
    · rcases hA with ⟨ha, h1, h2, h3⟩ | ⟨ha, _, h1, h2, h3⟩
      · have hpj : p ≠ j := fun e => by
          rcases ha with ha | ha
          · exact ha (by rw [← e, ← h1]; exact h0)
          · have := Rg_room hR hj120 (by rw [← e, ← h1]; exact h0)
            omega
        exact ⟨by rw [← h1]; exact h0, fun e => absurd e hpj, fun w hw => Jn_oth hJ hw hpj⟩
      · have hpj : p ≠ j := fun e => by
          rw [h1, e, pk_us] at h0
          exact i01 h0.symm
        exact ⟨by rw [h1, pk_un hpj] at h0; exact h0, fun e => absurd e hpj, fun w hw => Jn_oth hJ hw hpj⟩
  have hC' : Cl np E gn kl rc' iw' ah' X := by
    intro p q hp hx h1 h2 he
    obtain ⟨k1, k2, k3⟩ := hkeep p hp h2
    have hp1 : rc p = 1 := by
      by_cases e : p = j
      · rw [e]; exact k2 e
      · rw [hJ.1, pk_un e] at h1; exact h1
    obtain ⟨c1, c2⟩ := hC p q hp hx hp1 k1 he
    exact ⟨Jn_rc hJ c1, fun w i hw hi hgk => Jn_ge hJ hw (c2 w i hw hi (by rw [k3 w hw] at hgk; exact hgk))⟩
  have hq' : ∀ i, i < np → iw' i = 1 → rc' i = 1 := by
    intro i hi h1
    by_cases e : i = j
    · rw [e]; exact hj1
    · refine Jn_rc hJ (hq i hi ?_)
      rcases hg with ⟨_, h2, _⟩ | ⟨_, hA⟩
      · rw [← h2]; exact h1
      · rcases hA with ⟨_, h2, _⟩ | ⟨_, _, h2, _⟩
        · rw [← h2]; exact h1
        · rw [h2, pk_un e] at h1; exact h1
  refine ⟨⟨hb', ?_, hS', hC', ?_, hq'⟩, hj1, fun w i hw hbw => Jn_be hJ hw hbw, fun p hp => Jn_rc hJ hp, fun p w i hw hbw => Jn_ge hJ hw hbw, fun p hp h0 => ⟨(hkeep p hp h0).1, (hkeep p hp h0).2.2⟩⟩
  · rcases hg with ⟨_, h1, h2, h3⟩ | ⟨hc, hA⟩
    · rw [h1, h2, h3]; exact hR
    · rcases hA with ⟨_, h1, h2, h3⟩ | ⟨ha, _, h1, h2, h3⟩
      · rw [h1, h2, h3]; exact hR
      · rw [h1, h2, h3]; exact Rg_add hR hn hj ha
  · rcases hg with ⟨_, h1, h2, h3⟩ | ⟨hc, hA⟩
    · have := Jn_gs hJ
      omega
    · have := Jn_gsl hJ hj120 hc
      rcases hA with ⟨_, h1, h2, h3⟩ | ⟨ha, _, h1, h2, h3⟩ <;> omega
end
section
/-! Bits of the words that the class keeps. -/
def tN (x : Int32) : Nat := x.toNatClampNeg
def lb (x : Int32) : Int32 := ((1 : Int32) <<< (x &&& 31)) - 1
/-- b's bits at the place of variable n in its word -/
def mkw (n b : Nat) : Int64 := lN (b * 2 ^ (n % 8 * 8))
theorem mkw_of {n b : Nat} (hb : b < 2 ^ 31) : (nI b).toInt64 <<< ((nI (n % 8 * 8)).toInt64 &&& 63) = mkw n b := by
  rw [nI_l hb, wb_shl b (by omega)]
  rfl
theorem bl_lN (n : Nat) {i : Nat} (hi : i < 64) : bl (lN n) i = n.testBit i := by
  unfold bl
  rw [wb_tb, BitVec.getLsbD_ofNat]
  simp [hi]
theorem bl_mkw (n b : Nat) {i : Nat} (hi : i < 64) : bl (mkw n b) i = (decide (n % 8 * 8 ≤ i) && b.testBit (i - n % 8 * 8)) := by
  unfold mkw
  rw [bl_lN _ hi, ← Nat.shiftLeft_eq, Nat.testBit_shiftLeft]
/-- variable v's eight bits of a word -/
def sb (x : Int64) (v : Nat) : Int32 := (((x).toUInt64 >>> ((nI (v % 8 * 8)).toInt64.toUInt64 &&& Int64.toUInt64 63)).toInt64).toInt32 &&& lb 8
theorem lb_n : ∀ a, a < 9 → lb (nI a) = nI (2 ^ a - 1) := by decide +kernel
theorem lb_sh : ∀ a, a < 9 → ∀ b, b < 9 → lb (nI a) <<< (nI b &&& 31) = nI ((2 ^ a - 1) * 2 ^ b) := by decide +kernel
theorem lb_8 : lb 8 = 255 := by decide +kernel
theorem sb_bits (x : Int64) (v : Nat) : ∃ X, X < 256 ∧ sb x v = nI X ∧ ∀ j, j < 8 → X.testBit j = bl x (v % 8 * 8 + j) := by
  obtain ⟨n, hn, rfl⟩ := wb_of x
  refine ⟨n / 2 ^ (v % 8 * 8) % 256, Nat.mod_lt _ (by decide), ?_, fun j hj => ?_⟩
  · unfold sb
    rw [wb_shr hn (by omega), lN_i, lb_8, pk_and _ 8 (by decide)]
    have e : (nI (n / 2 ^ (v % 8 * 8))).toBitVec.toNat = n / 2 ^ (v % 8 * 8) % 2 ^ 32 := by
      show (BitVec.ofNat 32 (n / 2 ^ (v % 8 * 8))).toNat = _
      rw [BitVec.toNat_ofNat]
    rw [e]
    congr 1
    generalize n / 2 ^ (v % 8 * 8) = N
    omega
  · rw [bl_lN n (by omega), show (256 : Nat) = 2 ^ 8 from rfl, Nat.testBit_mod_two_pow, Nat.testBit_div_two_pow, show j + v % 8 * 8 = v % 8 * 8 + j from Nat.add_comm _ _]
    simp [hj]
theorem nat8 {X Y : Nat} (hX : X < 256) (hY : Y < 256) (h : ∀ j, j < 8 → X.testBit j = Y.testBit j) : X = Y := by
  apply Nat.eq_of_testBit_eq
  intro j
  by_cases hj : j < 8
  · exact h j hj
  · have p8 : 256 ≤ 2 ^ j := by
      have := Nat.pow_le_pow_right (show 0 < 2 by decide) (show 8 ≤ j by omega)
      exact this
    rw [Nat.testBit_lt_two_pow (Nat.lt_of_lt_of_le hX p8), Nat.testBit_lt_two_pow (Nat.lt_of_lt_of_le hY p8)]
/-- passThrough: what lies behind a point, a word -/
def Tw (d : Int32) (v b : Nat) (w : Nat) (x : Int64) : Int64 :=
  if d = 0 ∨ d = 3 then x else if w = (if d = 1 then 3 else 0) + v / 8 then x ||| mkw v b else if w = (if d = 1 then 0 else 3) + v / 8 then x &&& (mkw v b ^^^ (-1)) else x
def gnP (pD pV pB : Nat → Int32) (q w i : Nat) : Prop := ¬ (pD q = 0 ∨ pD q = 3) ∧ w = (if pD q = 1 then 3 else 0) + tN (pV q) / 8 ∧ bl (mkw (tN (pV q)) (tN (pB q))) i = true
def klP (pD pV pB : Nat → Int32) (q w i : Nat) : Prop := ¬ (pD q = 0 ∨ pD q = 3) ∧ w = (if pD q = 1 then 0 else 3) + tN (pV q) / 8 ∧ bl (mkw (tN (pV q)) (tN (pB q))) i = true
theorem Tw_bits {pD pV pB : Nat → Int32} {q w i : Nat} {x : Int64} (hv : tN (pV q) < 20) (hi : i < 64) : bl (Tw (pD q) (tN (pV q)) (tN (pB q)) w x) i = true ↔ (gnP pD pV pB q w i ∨ (¬ klP pD pV pB q w i ∧ bl x i = true)) := by
  unfold Tw gnP klP
  by_cases h0 : pD q = 0 ∨ pD q = 3
  · simp [h0]
  · rw [if_neg h0]
    by_cases h1 : pD q = 1
    · simp only [h1, if_true]
      by_cases g : w = 3 + tN (pV q) / 8
      · have g2 : ¬ w = 0 + tN (pV q) / 8 := by omega
        rw [if_pos g, bl_or]
        simp only [h1] at h0
        simp [g, h0]
        cases bl (mkw (tN (pV q)) (tN (pB q))) i <;> simp
      · rw [if_neg g]
        simp only [h1] at h0
        by_cases g2 : w = 0 + tN (pV q) / 8
        · rw [if_pos g2, bl_and, bl_not _ hi]
          cases e1 : bl (mkw (tN (pV q)) (tN (pB q))) i <;> cases e2 : bl x i <;> simp [g, g2, h0]
        · rw [if_neg g2]
          rw [Nat.zero_add] at g2
          simp [g, g2]
    · simp only [h1, if_false]
      by_cases g : w = 0 + tN (pV q) / 8
      · have g2 : ¬ w = 3 + tN (pV q) / 8 := by omega
        rw [if_pos g, bl_or]
        cases e1 : bl (mkw (tN (pV q)) (tN (pB q))) i <;> cases e2 : bl x i <;> simp [g, h0]
      · rw [if_neg g]
        by_cases g2 : w = 3 + tN (pV q) / 8
        · rw [if_pos g2, bl_and, bl_not _ hi]
          cases e1 : bl (mkw (tN (pV q)) (tN (pB q))) i <;> cases e2 : bl x i <;> simp [g, g2, h0]
        · rw [if_neg g2]
          rw [Nat.zero_add] at g
          simp [g, g2]
end
section
/-! Pure rows of the class's loops and of its small steps. -/
theorem pt_in {x pn r : Int32} {np : Nat} (hp : pn = nI np) (hn : np ≤ 120) (h : (r = 1 ∧ ¬ x < 0 ∧ ¬ pn ≤ x) ∨ (r = 0 ∧ ¬ (¬ x < 0 ∧ ¬ pn ≤ x))) (hr : ¬ r = 0) : ∃ j, j < np ∧ x = nI j := by
  rcases h with ⟨_, h1, h2⟩ | ⟨h, _⟩
  · rcases pk_ix x (n := np) (by omega) with h | h | h
    · exact absurd h h1
    · exact absurd (by rw [hp]; exact h) h2
    · exact h
  · exact absurd h hr
theorem pt_out {x pn r : Int32} {np : Nat} (hp : pn = nI np) (hn : np ≤ 120) (h : (r = 1 ∧ ¬ x < 0 ∧ ¬ pn ≤ x) ∨ (r = 0 ∧ ¬ (¬ x < 0 ∧ ¬ pn ≤ x))) (hr : r = 0) : ∀ j, j < np → ¬ x = nI j := by
  intro j hj e
  rcases h with ⟨h, _, _⟩ | ⟨_, h⟩
  · exact i01 (hr.symm.trans h)
  · refine h ⟨?_, ?_⟩
    · rw [e]; exact nI_pos (by omega)
    · rw [e, hp]; exact nI_ge hj (by omega)
theorem cp_s {be : Nat → Int64} {ah : Nat → Int64} {j i : Nat} (h : ∀ w, w < i → be w = ah (j * 6 + w)) : ∀ w, w < i + 1 → vp_updL be i (ah (j * 6 + i)) w = ah (j * 6 + w) := by
  intro w hw
  by_cases e : w = i
  · rw [e, pk_uLs]
  · rw [pk_uLn e]; exact h w (by omega)
theorem pt_end {be ah : Nat → Int64} {d : Int32} {v b j a1 a2 : Nat} (h : ∀ w, w < 6 → be w = ah (j * 6 + w)) (hd : ¬ (d = 0 ∨ d = 3)) (hv : v < 20) (h1 : a1 = (if d = 1 then 3 else 0) + v / 8) (h2 : a2 = (if d = 1 then 0 else 3) + v / 8) :
    ∀ w, w < 6 → vp_updL (vp_updL be a1 (be a1 ||| mkw v b)) a2 ((vp_updL be a1 (be a1 ||| mkw v b)) a2 &&& (mkw v b ^^^ (-1))) w = Tw d v b w (ah (j * 6 + w)) := by
  intro w hw
  have hne : a1 ≠ a2 := by
    rw [h1, h2]
    split <;> omega
  have hb1 : a1 < 6 := by rw [h1]; split <;> omega
  have hb2 : a2 < 6 := by rw [h2]; split <;> omega
  unfold Tw
  rw [if_neg hd, ← h1, ← h2]
  by_cases e2 : w = a2
  · subst e2
    rw [pk_uLs, pk_uLn (Ne.symm hne), if_neg (Ne.symm hne), if_pos rfl, h _ hw]
  · rw [pk_uLn e2]
    by_cases e1 : w = a1
    · subst e1
      rw [pk_uLs, if_pos rfl, h _ hw]
    · rw [pk_uLn e1, if_neg e1, if_neg e2, h w hw]
def Jp (be ah0 : Nat → Int64) (j i : Nat) (ah : Nat → Int64) : Prop := (∀ w, w < i → ah (j * 6 + w) = ah0 (j * 6 + w) ||| be w) ∧ ∀ n, (n < j * 6 ∨ j * 6 + i ≤ n) → ah n = ah0 n
def Jc (be ah0 : Nat → Int64) (j i : Nat) (c0 ch : Int32) : Prop := (ch = 1 ∧ (c0 = 1 ∨ ∃ w, w < i ∧ ¬ ah0 (j * 6 + w) ||| be w = ah0 (j * 6 + w))) ∨ (ch = 0 ∧ c0 = 0 ∧ ∀ w, w < i → ah0 (j * 6 + w) ||| be w = ah0 (j * 6 + w))
theorem Jp_0 {be ah : Nat → Int64} {j : Nat} : Jp be ah j 0 ah := ⟨fun w h => absurd h (Nat.not_lt_zero w), fun _ _ => rfl⟩
theorem Jp_s {be ah0 ah : Nat → Int64} {j i : Nat} (h : Jp be ah0 j i ah) : Jp be ah0 j (i + 1) (vp_updL ah (j * 6 + i) (ah (j * 6 + i) ||| be i)) := by
  refine ⟨fun w hw => ?_, fun n hn => ?_⟩
  · by_cases e : w = i
    · rw [e, pk_uLs, h.2 _ (by omega)]
    · rw [pk_uLn (by omega)]; exact h.1 w (by omega)
  · rw [pk_uLn (by omega)]; exact h.2 n (by omega)
theorem Jc_0 {be ah0 : Nat → Int64} {j : Nat} {c0 : Int32} (h : c0 = 0 ∨ c0 = 1) : Jc be ah0 j 0 c0 c0 := by
  rcases h with h | h
  · exact Or.inr ⟨h, h, fun w hw => absurd hw (Nat.not_lt_zero w)⟩
  · exact Or.inl ⟨h, Or.inl h⟩
theorem Jc_1 {be ah0 : Nat → Int64} {j i : Nat} {c0 ch : Int32} (h : Jc be ah0 j i c0 ch) (hc : ¬ ch = 0) : Jc be ah0 j (i + 1) c0 1 := by
  rcases h with ⟨_, h⟩ | ⟨h, _⟩
  · refine Or.inl ⟨rfl, h.imp id (fun ⟨w, h1, h2⟩ => ⟨w, by omega, h2⟩)⟩
  · exact absurd h hc
theorem Jc_2 {be ah0 ah : Nat → Int64} {j i : Nat} {c0 ch : Int32} (hJ : Jp be ah0 j i ah) (hc : ¬ lg_cmp (ah (j * 6 + i) ||| be i) (ah (j * 6 + i)) = 0) : Jc be ah0 j (i + 1) c0 1 := by
  refine Or.inl ⟨rfl, Or.inr ⟨i, by omega, fun e => hc ((lg_cmp_eq _ _).mpr ?_)⟩⟩
  rw [hJ.2 (j * 6 + i) (by omega)]
  exact e
theorem Jc_3 {be ah0 ah : Nat → Int64} {j i : Nat} {c0 ch : Int32} (hJ : Jp be ah0 j i ah) (h : Jc be ah0 j i c0 ch) (h0 : ch = 0) (hc : lg_cmp (ah (j * 6 + i) ||| be i) (ah (j * 6 + i)) = 0) : Jc be ah0 j (i + 1) c0 0 := by
  have hc := (lg_cmp_eq _ _).mp hc
  rw [hJ.2 (j * 6 + i) (by omega)] at hc
  rcases h with ⟨h, _⟩ | ⟨_, h1, h2⟩
  · exact absurd (h0.symm.trans h) i01
  · refine Or.inr ⟨rfl, h1, fun w hw => ?_⟩
    by_cases e : w = i
    · rw [e]; exact hc
    · exact h2 w (by omega)
theorem Jp_Jn {be ah0 ah : Nat → Int64} {rc : Nat → Int32} {j : Nat} (h : Jp be ah0 j 6 ah) : Jn be rc ah0 j (upd rc j 1) ah := ⟨rfl, h.1, h.2⟩
theorem Jc_yes {be ah0 : Nat → Int64} {rc : Nat → Int32} {j : Nat} {c0 ch : Int32} (h : Jc be ah0 j 6 c0 ch) (h0 : c0 = 1 → rc j = 0) (hc : ¬ ch = 0) : Chg be rc ah0 j := by
  rcases h with ⟨_, h⟩ | ⟨h, _⟩
  · exact h.imp h0 id
  · exact absurd h hc
theorem Jc_no {be ah0 : Nat → Int64} {rc : Nat → Int32} {j : Nat} {c0 ch : Int32} (h : Jc be ah0 j 6 c0 ch) (h0 : c0 = 0 → ¬ rc j = 0) (hc : ch = 0) : ¬ Chg be rc ah0 j := by
  rcases h with ⟨h, _⟩ | ⟨_, h1, h2⟩
  · exact absurd (hc.symm.trans h) i01
  · rintro (h | ⟨w, hw, h⟩)
    · exact h0 h1 h
    · exact h (h2 w hw)
/-- the first words: what is so ahead of point 0 -/
def b0P (vP vG : Nat → Int32) (nv w t : Nat) : Prop := ∃ v, v < nv ∧ w = (if vG v = 0 then 0 else 3) + v / 8 ∧ bl (mkw v (tN (lb (vP v)))) t = true
theorem b0_s {vP vG : Nat → Int32} {be : Nat → Int64} {i a : Nat} (ha : a = (if vG i = 0 then 0 else 3) + i / 8) (h : ∀ w t, w < 6 → t < 64 → (bl (be w) t = true ↔ b0P vP vG i w t)) : ∀ w t, w < 6 → t < 64 → (bl (vp_updL be a (be a ||| mkw i (tN (lb (vP i)))) w) t = true ↔ b0P vP vG (i + 1) w t) := by
  intro w t hw ht
  have hs : b0P vP vG (i + 1) w t ↔ b0P vP vG i w t ∨ (w = a ∧ bl (mkw i (tN (lb (vP i)))) t = true) := by
    constructor
    · rintro ⟨v, h1, h2, h3⟩
      by_cases e : v = i
      · subst e
        exact Or.inr ⟨h2.trans ha.symm, h3⟩
      · exact Or.inl ⟨v, by omega, h2, h3⟩
    · rintro (⟨v, h1, h2, h3⟩ | ⟨h1, h2⟩)
      · exact ⟨v, by omega, h2, h3⟩
      · exact ⟨i, by omega, h1.trans ha, h2⟩
  rw [hs]
  by_cases e : w = a
  · subst e
    rw [pk_uLs, bl_or, Bool.or_eq_true, h w t hw ht]
    simp
  · rw [pk_uLn e, h w t hw ht]
    simp [e]
theorem b0_0 {vP vG : Nat → Int32} {be : Nat → Int64} (h : ∀ w, w < 6 → be w = 0) : ∀ w t, w < 6 → t < 64 → (bl (be w) t = true ↔ b0P vP vG 0 w t) := by
  intro w t hw ht
  rw [h w hw, bl_0]
  constructor
  · intro h; cases h
  · rintro ⟨v, h1, _⟩; exact absurd h1 (Nat.not_lt_zero v)
theorem z_s {be : Nat → Int64} {i : Nat} (h : ∀ w, w < i → be w = 0) : ∀ w, w < i + 1 → vp_updL be i 0 w = 0 := by
  intro w hw
  by_cases e : w = i
  · rw [e, pk_uLs]
  · rw [pk_uLn e]; exact h w (by omega)
theorem zi_s {f f0 : Nat → Int32} {i : Nat} (h : (∀ q, q < i → f q = 0) ∧ ∀ q, i ≤ q → f q = f0 q) : (∀ q, q < i + 1 → upd f i 0 q = 0) ∧ ∀ q, i + 1 ≤ q → upd f i 0 q = f0 q := by
  refine ⟨fun q hq => ?_, fun q hq => ?_⟩
  · by_cases e : q = i
    · rw [e, pk_us]
    · rw [pk_un e]; exact h.1 q (by omega)
  · rw [pk_un (by omega)]; exact h.2 q (by omega)
end
section
/-! One turn of the solver, its beginning, its end: pure. -/
def GoX (np : Nat) (be : Nat → Int64) (x : Int32) (rc iw wt : Nat → Int32) (ah : Nat → Int64) (hd wn : Nat) (rc' iw' wt' : Nat → Int32) (ah' : Nat → Int64) (wn' : Nat) : Prop :=
  (∃ t, t < np ∧ x = nI t ∧ Go be rc iw wt ah hd wn t rc' iw' wt' ah' wn') ∨ ((∀ t, t < np → ¬ x = nI t) ∧ rc' = rc ∧ iw' = iw ∧ wt' = wt ∧ ah' = ah ∧ wn' = wn)
def Md (np : Nat) (E : Nat → Nat → Prop) (gn kl : Nat → Nat → Nat → Prop) (b0 : Nat → Nat → Prop) (j : Nat) (a0 : Nat → Int64) (rc iw wt : Nat → Int32) (ah : Nat → Int64) (hd wn tn : Nat) : Prop :=
  Sv np E gn kl b0 rc iw wt ah hd wn tn (fun p => p = j) ∧ rc j = 1 ∧ (iw j = 0 → ∀ w, w < 6 → ah (j * 6 + w) = a0 w) ∧ Bg np b0 rc ah
def Dt (be : Nat → Int64) (rc : Nat → Int32) (ah : Nat → Int64) (t : Nat) : Prop := rc t = 1 ∧ ∀ w i, w < 6 → bl (be w) i = true → bl (ah (t * 6 + w)) i = true
theorem it_go {np : Nat} {E : Nat → Nat → Prop} {gn kl : Nat → Nat → Nat → Prop} {b0 : Nat → Nat → Prop} {j : Nat} {a0 be : Nat → Int64} {x : Int32} {rc iw wt rc' iw' wt' : Nat → Int32} {ah ah' : Nat → Int64} {hd wn tn wn' : Nat} (hn : np ≤ 120) (hE : ∀ q p, E q p → p < np) (hj : j < np)
    (h : Md np E gn kl b0 j a0 rc iw wt ah hd wn tn) (hx : ∀ t, t < np → x = nI t → E j t) (hr : rch E np j) (ha : ∀ w i, w < 6 → i < 64 → bl (a0 w) i = true → may E np (b0 w i) (fun q => gn q w i) (fun q => kl q w i) j)
    (hbe : ∀ w i, w < 6 → i < 64 → (bl (be w) i = true ↔ (gn j w i ∨ (¬ kl j w i ∧ bl (a0 w) i = true)))) (hg : GoX np be x rc iw wt ah hd wn rc' iw' wt' ah' wn') :
    Md np E gn kl b0 j a0 rc' iw' wt' ah' hd wn' tn ∧ (∀ t, t < np → x = nI t → Dt be rc' ah' t) ∧ ∀ t, Dt be rc ah t → Dt be rc' ah' t := by
  obtain ⟨hS, h1, h2, hB⟩ := h
  rcases hg with ⟨t, ht, hxt, hG⟩ | ⟨hno, e1, e2, e3, e4, e5⟩
  · have he := hx t ht hxt
    obtain ⟨k1, k2, k3, k4, k5, k6⟩ := Go_step hn hE ht hS hG (rch_s hr he) (fun w i hw hi hb => ((hbe w i hw hi).mp hb).elim (fun hg => may_g hr he hg) (fun hp => may_p (ha w i hw hi hp.2) he hp.1))
    refine ⟨⟨k1, k4 j h1, fun h0 w hw => ?_, fun h0 => ⟨k4 0 (hB h0).1, fun w i hw hi hb => k5 0 w i hw ((hB h0).2 w i hw hi hb)⟩⟩, fun t' ht' hxt' => ?_, fun t' hD => ⟨k4 t' hD.1, fun w i hw hb => k5 t' w i hw (hD.2 w i hw hb)⟩⟩
    · obtain ⟨q1, q2⟩ := k6 j hj h0
      rw [q2 w hw]; exact h2 q1 w hw
    · have : t' = t := (nI_eq (by omega) (by omega)).mp (hxt'.symm.trans hxt)
      subst this
      exact ⟨k2, k3⟩
  · subst e1; subst e2; subst e3; subst e4; subst e5
    exact ⟨⟨hS, h1, h2, hB⟩, fun t ht hxt => absurd hxt (hno t ht), fun t hD => hD⟩
theorem it_all {np : Nat} {pX pY : Nat → Int32} {gn kl : Nat → Nat → Nat → Prop} {b0 : Nat → Nat → Prop} {j : Nat} {be : Nat → Int64} {rc iw wt rc1 iw1 wt1 rc2 iw2 wt2 : Nat → Int32} {ah ah1 ah2 : Nat → Int64} {hd wn tn wn1 wn2 : Nat} (hn : np ≤ 120) (hj : j < np)
    (h : Sv np (ed pX pY np) gn kl b0 rc iw wt ah hd wn tn (fun _ => False)) (hB : Bg np b0 rc ah) (hi : iw j = 1) (hw : 0 < wn) (hR : Rg np (upd iw j 0) wt ((hd + 1) % 120) (wn - 1))
    (hbe : ∀ w i, w < 6 → i < 64 → (bl (be w) i = true ↔ (gn j w i ∨ (¬ kl j w i ∧ bl (ah (j * 6 + w)) i = true))))
    (g1 : GoX np be (pX j) rc (upd iw j 0) wt ah ((hd + 1) % 120) (wn - 1) rc1 iw1 wt1 ah1 wn1) (g2 : GoX np be (pY j) rc1 iw1 wt1 ah1 ((hd + 1) % 120) wn1 rc2 iw2 wt2 ah2 wn2) :
    Sv np (ed pX pY np) gn kl b0 rc2 iw2 wt2 ah2 ((hd + 1) % 120) wn2 (tn + 1) (fun _ => False) ∧ Bg np b0 rc2 ah2 := by
  have hE : ∀ q p, ed pX pY np q p → p < np := fun q p h => h.2
  obtain ⟨hb, _, hS, hC, hm, hq⟩ := h
  have hj1 := hq j hj hi
  have M0 : Md np (ed pX pY np) gn kl b0 j (fun w => ah (j * 6 + w)) rc (upd iw j 0) wt ah ((hd + 1) % 120) (wn - 1) (tn + 1) := by
    refine ⟨⟨hb, hR, hS, fun p q hp hx h1 h2 he => hC p q hp (fun h => h) h1 (by rw [pk_un hx] at h2; exact h2) he, by omega, fun i hi2 h1 => ?_⟩, hj1, fun _ w _ => rfl, hB⟩
    by_cases e : i = j
    · rw [e]; exact hj1
    · rw [pk_un e] at h1; exact hq i hi2 h1
  have hr := hS.1 j hj hj1
  have ha : ∀ w i, w < 6 → i < 64 → bl ((fun w => ah (j * 6 + w)) w) i = true → may (ed pX pY np) np (b0 w i) (fun q => gn q w i) (fun q => kl q w i) j := fun w i hw hi hb => hS.2 j w i hj hw hi hb
  obtain ⟨M1, d1, _⟩ := it_go hn hE hj M0 (fun t ht hx => ⟨Or.inl hx, ht⟩) hr ha hbe g1
  obtain ⟨M2, d2, d3⟩ := it_go hn hE hj M1 (fun t ht hx => ⟨Or.inr hx, ht⟩) hr ha hbe g2
  obtain ⟨⟨hb2, hR2, hS2, hC2, hm2, hq2⟩, hj2, ha2, hB2⟩ := M2
  refine ⟨⟨hb2, hR2, hS2, fun p q hp _ h1 h2 he => ?_, hm2, hq2⟩, hB2⟩
  by_cases e : p = j
  · subst e
    have hD : Dt be rc2 ah2 q := by
      obtain ⟨he | he, hq9⟩ := he
      · exact d3 q (d1 q hq9 he)
      · exact d2 q hq9 he
    refine ⟨hD.1, fun w i hw hi hgk => hD.2 w i hw ((hbe w i hw hi).mpr ?_)⟩
    rw [ha2 h2 w hw] at hgk
    exact hgk
  · exact hC2 p q hp e h1 h2 he
theorem it_begin {np : Nat} {pX pY : Nat → Int32} {gn kl : Nat → Nat → Nat → Prop} {b0 : Nat → Nat → Prop} {be : Nat → Int64} {rc iw wt rc1 iw1 wt1 : Nat → Int32} {ah ah1 : Nat → Int64} {wn1 : Nat} (hn : np ≤ 120)
    (hrc : ∀ i, i < 120 → rc i = 0 ∨ rc i = 1) (hr0 : ∀ i, i < np → rc i = 0) (hiw : ∀ i, i < 120 → iw i = 0) (hah : ∀ w, w < np * 6 → ah w = 0) (hbe : ∀ w t, w < 6 → t < 64 → (bl (be w) t = true ↔ b0 w t)) (g : GoX np be 0 rc iw wt ah 0 0 rc1 iw1 wt1 ah1 wn1) :
    Sv np (ed pX pY np) gn kl b0 rc1 iw1 wt1 ah1 0 wn1 0 (fun _ => False) ∧ Bg np b0 rc1 ah1 := by
  have hE : ∀ q p, ed pX pY np q p → p < np := fun q p h => h.2
  have S0 : Sv np (ed pX pY np) gn kl b0 rc iw wt ah 0 0 0 (fun _ => False) := by
    refine ⟨hrc, ⟨by omega, by omega, fun i hi => Or.inl (hiw i hi), cnt_none (fun i hi => by rw [hiw i hi]; rfl), fun a ha => absurd ha (Nat.not_lt_zero a), fun a b ha => absurd ha (Nat.not_lt_zero a)⟩, ⟨fun p hp h => absurd ((hr0 p hp).symm.trans h) i01, fun p w i hp hw hi h => ?_⟩, fun p q hp _ h => absurd ((hr0 p hp).symm.trans h) i01, by omega, fun i hi h => absurd ((hiw i (by omega)).symm.trans h) i01⟩
    rw [hah _ (by omega), bl_0] at h
    cases h
  rcases g with ⟨t, ht, hxt, hG⟩ | ⟨hno, e1, e2, e3, e4, e5⟩
  · have : t = 0 := (nI_eq (by omega) (by omega)).mp (hxt.symm.trans nI_0.symm)
    subst this
    obtain ⟨k1, k2, k3, k4, k5, k6⟩ := Go_step hn hE ht S0 hG (rch_0 ht) (fun w i hw hi hb => may_0 ht ((hbe w i hw hi).mp hb))
    exact ⟨k1, fun _ => ⟨k2, fun w i hw hi hb => k3 w i hw ((hbe w i hw hi).mpr hb)⟩⟩
  · subst e1; subst e2; subst e3; subst e4; subst e5
    exact ⟨S0, fun h0 => absurd nI_0.symm (hno 0 h0)⟩
/-- solved: reached and ahead are what the ways say -/
def Dn (np : Nat) (E : Nat → Nat → Prop) (gn kl : Nat → Nat → Nat → Prop) (b0 : Nat → Nat → Prop) (rc : Nat → Int32) (ah : Nat → Int64) : Prop :=
  (∀ p, p < np → (rc p = 0 ∨ rc p = 1) ∧ (rc p = 1 ↔ rch E np p)) ∧ ∀ p w i, p < np → w < 6 → i < 64 → (bl (ah (p * 6 + w)) i = true ↔ may E np (b0 w i) (fun q => gn q w i) (fun q => kl q w i) p)
theorem it_end {np : Nat} {pX pY : Nat → Int32} {gn kl : Nat → Nat → Nat → Prop} {b0 : Nat → Nat → Prop} {rc iw wt : Nat → Int32} {ah : Nat → Int64} {hd wn tn : Nat} (hn : np ≤ 120) (h : Sv np (ed pX pY np) gn kl b0 rc iw wt ah hd wn tn (fun _ => False)) (hB : Bg np b0 rc ah) (he : 46200 ≤ tn ∨ wn = 0) :
    Dn np (ed pX pY np) gn kl b0 rc ah ∧ (∀ i, i < 120 → iw i = 0) ∧ wn = 0 := by
  obtain ⟨hb, hR, hS, hC, hm, hq⟩ := h
  have hl := gs_le rc ah
  have h0 : wn = 0 := by omega
  subst h0
  have hiw : ∀ i, i < 120 → iw i = 0 := fun i hi => by
    have := cnt_zero hR.2.2.2.1 i hi
    exact (hR.2.2.1 i hi).elim id (fun e => absurd e (of_decide_eq_false this))
  obtain ⟨d1, d2⟩ := solve_done hn (fun q p h => h.2) hS hC hB hiw
  exact ⟨⟨fun p hp => ⟨hb p (by omega), d1 p hp⟩, d2⟩, hiw, rfl⟩
theorem GoX_le {np : Nat} {be : Nat → Int64} {x : Int32} {rc iw wt rc' iw' wt' : Nat → Int32} {ah ah' : Nat → Int64} {hd wn wn' j : Nat} (hn : np ≤ 120) (hR : Rg np iw wt hd wn) (h : GoX np be x rc iw wt ah hd wn rc' iw' wt' ah' wn') (hj : j < np) : wn' ≤ 120 := by
  have h1 := hR.2.1
  rcases h with ⟨t, ht, _, _, hg⟩ | ⟨_, _, _, _, _, h⟩
  · rcases hg with ⟨_, _, _, h⟩ | ⟨_, hA⟩
    · omega
    · rcases hA with ⟨_, _, _, h⟩ | ⟨ha, _, _, _, h⟩
      · omega
      · have := Rg_room hR (by omega) ha
        omega
  · omega
theorem rz_01 {f f0 : Nat → Int32} {np : Nat} (h : (∀ q, q < np → f q = 0) ∧ ∀ q, np ≤ q → f q = f0 q) (h0 : ∀ i, i < 120 → f0 i = 0 ∨ f0 i = 1) : ∀ i, i < 120 → f i = 0 ∨ f i = 1 := by
  intro i hi
  rcases Nat.lt_or_ge i np with q | q
  · exact Or.inl (h.1 i q)
  · rw [h.2 i q]; exact h0 i hi
theorem iz_0 {f f0 : Nat → Int32} {np : Nat} (h : (∀ q, q < np → f q = 0) ∧ ∀ q, np ≤ q → f q = f0 q) (h0 : ∀ i, i < 120 → f0 i = 0) : ∀ i, i < 120 → f i = 0 := by
  intro i hi
  rcases Nat.lt_or_ge i np with q | q
  · exact h.1 i q
  · rw [h.2 i q]; exact h0 i hi
theorem sv1 {sv : Int32} {X : Prop} (h : sv = 0 ∨ (sv = 1 ∧ X)) (hc : ¬ sv = 0) : sv = 1 := h.elim (fun e => absurd e hc) (fun e => e.1)
theorem sv2 {sv : Int32} {X : Prop} (h : sv = 0 ∨ (sv = 1 ∧ X)) (hc : ¬ sv = 0) : X := h.elim (fun e => absurd e hc) (fun e => e.2)
/-- the graph as the class keeps it: its numbers are in range -/
def GI (nv np : Nat) (vP pV pB : Nat → Int32) : Prop := nv ≤ 20 ∧ np ≤ 120 ∧ (∀ v, v < nv → lb (vP v) = nI (tN (lb (vP v))) ∧ tN (lb (vP v)) < 256) ∧ ∀ q, q < np → pV q = nI (tN (pV q)) ∧ tN (pV q) < 20 ∧ pB q = nI (tN (pB q)) ∧ tN (pB q) < 256
def DnG (nv np : Nat) (vP vG pD pV pB pX pY rc : Nat → Int32) (ah : Nat → Int64) : Prop := Dn np (ed pX pY np) (gnP pD pV pB) (klP pD pV pB) (b0P vP vG nv) rc ah
/-- the solver's part between calls -/
def ZI (nv np : Nat) (vP vG pD pV pB pX pY : Nat → Int32) (sv : Int32) (rc iw : Nat → Int32) (ah : Nat → Int64) : Prop := (∀ i, i < 120 → iw i = 0) ∧ (∀ i, i < 120 → rc i = 0 ∨ rc i = 1) ∧ (sv = 0 ∨ (sv = 1 ∧ DnG nv np vP vG pD pV pB pX pY rc ah))
def SP (nv np : Nat) (vP vG pD pV pB pX pY : Nat → Int32) (sv : Int32) (rc iw : Nat → Int32) (ah : Nat → Int64) : Prop := sv = 1 ∧ DnG nv np vP vG pD pV pB pX pY rc ah ∧ (∀ i, i < 120 → iw i = 0) ∧ (∀ i, i < 120 → rc i = 0 ∨ rc i = 1)
theorem SP_ZI {nv np : Nat} {vP vG pD pV pB pX pY rc iw : Nat → Int32} {sv : Int32} {ah : Nat → Int64} (h : SP nv np vP vG pD pV pB pX pY sv rc iw ah) : ZI nv np vP vG pD pV pB pX pY sv rc iw ah := ⟨h.2.2.1, h.2.2.2, Or.inr ⟨h.1, h.2.1⟩⟩
/-- solved, or as before and not asked -/
def fop (vP vO pD pV pB rc : Nat → Int32) (ah : Nat → Int64) (p : Nat) : Int32 :=
  if rc p = 0 then 0 else if pD p = 2 ∨ pD p = 3 then (if sb (ah (p * 6 + 0 + tN (pV p) / 8)) (tN (pV p)) &&& pB p = 0 then 0 else 1) else if ¬ pD p = 1 ∨ vO (tN (pV p)) = 0 then 0 else if ¬ pB p = lb (vP (tN (pV p))) then 3 else if sb (ah (p * 6 + 3 + tN (pV p) / 8)) (tN (pV p)) = 0 then 0 else 2
end
section
/-! Pure rows for the public methods. -/
theorem tN_nI {n : Nat} (h : n < 2 ^ 31) : tN (nI n) = n := nI_clamp h
theorem yn_no {r : Int32} {P : Prop} (h : (r = 1 ∧ P) ∨ (r = 0 ∧ ¬ P)) (hr : r = 0) : ¬ P := h.elim (fun q => absurd (hr.symm.trans q.1) i01) (fun q => q.2)
theorem yn_yes {r : Int32} {P : Prop} (h : (r = 1 ∧ P) ∨ (r = 0 ∧ ¬ P)) (hr : ¬ r = 0) : P := h.elim (fun q => q.2) (fun q => absurd q.1 hr)
def sp3 (d : Int32) : Prop := d = 1 ∨ d = 2 ∨ d = 3
/-- what isDoing asks -/
def dOK (vc : Int32) (vP : Nat → Int32) (d x a b : Int32) : Prop := ¬ d < 0 ∧ d ≤ 5 ∧ (d = 0 ∨ ((¬ x < 0 ∧ ¬ vc ≤ x) ∧ (¬ (d = 1 ∨ d = 2 ∨ d = 3) ∨ (¬ a < 0 ∧ ¬ b < 1 ∧ ¬ vP (tN x) - b < a))))
def bod (vP : Nat → Int32) (d x a b : Int32) : Int32 := if d = 0 then 0 else if d = 1 ∨ d = 2 ∨ d = 3 then lb b <<< (a &&& 31) else lb (vP (tN x))
theorem dOK_v {nv : Nat} {vP : Nat → Int32} {d x a b : Int32} (hn : nv ≤ 20) (h : dOK (nI nv) vP d x a b) (h0 : ¬ d = 0) : ∃ v, v < nv ∧ x = nI v := by
  rcases h.2.2 with h | ⟨⟨h1, h2⟩, _⟩
  · exact absurd h h0
  · rcases pk_ix x (n := nv) (by omega) with h | h | h
    · exact absurd h h1
    · exact absurd h h2
    · exact h
def cbn (y : Int32) : Prop := ¬ y < (-1) ∧ ¬ 120 ≤ y
def smI (f : Nat → Int32) : Nat → Int32
  | 0 => 0
  | n + 1 => smI f n + f n
theorem cnt_s1 {f : Nat → Bool} {i : Nat} (h : f i = true) : cnt f (i + 1) = cnt f i + 1 := by
  simp only [cnt]; rw [if_pos h]
theorem cnt_s0 {f : Nat → Bool} {i : Nat} (h : f i = false) : cnt f (i + 1) = cnt f i := by
  simp only [cnt]; rw [if_neg (by rw [h]; decide)]; rfl
theorem sw6 (x : Int32) : x = 0 ∨ x = 1 ∨ x = 2 ∨ x = 3 ∨ x = 4 ∨ x = 5 ∨ ((x.toInt < 0 ∨ 5 < x.toInt) ∧ ¬ x = 0 ∧ ¬ x = 1 ∧ ¬ x = 2 ∧ ¬ x = 3 ∧ ¬ x = 4 ∧ ¬ x = 5) := by
  by_cases h0 : x = 0
  · exact Or.inl h0
  by_cases h1 : x = 1
  · exact Or.inr (Or.inl h1)
  by_cases h2 : x = 2
  · exact Or.inr (Or.inr (Or.inl h2))
  by_cases h3 : x = 3
  · exact Or.inr (Or.inr (Or.inr (Or.inl h3)))
  by_cases h4 : x = 4
  · exact Or.inr (Or.inr (Or.inr (Or.inr (Or.inl h4))))
  by_cases h5 : x = 5
  · exact Or.inr (Or.inr (Or.inr (Or.inr (Or.inr (Or.inl h5)))))
  refine Or.inr (Or.inr (Or.inr (Or.inr (Or.inr (Or.inr ⟨?_, h0, h1, h2, h3, h4, h5⟩)))))
  have g0 : ¬ x.toInt = 0 := lv_neT h0 rfl
  have g1 : ¬ x.toInt = 1 := lv_neT h1 rfl
  have g2 : ¬ x.toInt = 2 := lv_neT h2 rfl
  have g3 : ¬ x.toInt = 3 := lv_neT h3 rfl
  have g4 : ¬ x.toInt = 4 := lv_neT h4 rfl
  have g5 : ¬ x.toInt = 5 := lv_neT h5 rfl
  omega
end
section
/-! Two worlds side by side: a call of a method of the one leaves the other. -/
theorem wd_l {D : va_G} {cl : List vw_C} {w1 w2 : va_W} {H : Heap} (hP : va_P D cl (w1 ++ w2) H) : va_P D cl w1 H := fun k q hk => hP k q (by
  rw [List.getElem?_append_left (List.getElem?_eq_some_iff.mp hk).1]; exact hk)
theorem wd_r {D : va_G} {cl : List vw_C} {w1 w2 : va_W} {H : Heap} (hP : va_P D cl (w1 ++ w2) H) : va_P D cl w2 H := fun k q hk => hP (w1.length + k) q (by
  rw [List.getElem?_append_right (Nat.le_add_right _ _), Nat.add_sub_cancel_left]; exact hk)
theorem wd_Dl {A : Nat → Prop} {w1 w2 : va_W} (hD : va_D A (w1 ++ w2)) : va_D A w1 := by
  have e : ∀ (k : Nat) (q : Nat × va_E), w1[k]? = some q → (w1 ++ w2)[k]? = some q := fun k q hk => by
    rw [List.getElem?_append_left (List.getElem?_eq_some_iff.mp hk).1]; exact hk
  exact ⟨fun i j p q hi hj h => hD.1 i j p q (e i p hi) (e j q hj) h, fun k q hk => hD.2 k q (e k q hk)⟩
theorem wd_Dr {A : Nat → Prop} {w1 w2 : va_W} (hD : va_D A (w1 ++ w2)) : va_D A w2 := by
  have e : ∀ (k : Nat) (q : Nat × va_E), w2[k]? = some q → (w1 ++ w2)[w1.length + k]? = some q := fun k q hk => by
    rw [List.getElem?_append_right (Nat.le_add_right _ _), Nat.add_sub_cancel_left]; exact hk
  exact ⟨fun i j p q hi hj h => by have := hD.1 _ _ p q (e i p hi) (e j q hj) h; omega, fun k q hk => hD.2 _ q (e k q hk)⟩
theorem wd_Dx {A : Nat → Prop} {w1 w2 : va_W} (hD : va_D A (w1 ++ w2)) : ∀ (i j : Nat) (p q : Nat × va_E), w1[i]? = some p → w2[j]? = some q → p.1 ≠ q.1 := by
  intro i j p q hi hj h
  have hl := (List.getElem?_eq_some_iff.mp hi).1
  have h1 : (w1 ++ w2)[i]? = some p := by rw [List.getElem?_append_left hl]; exact hi
  have h2 : (w1 ++ w2)[w1.length + j]? = some q := by rw [List.getElem?_append_right (Nat.le_add_right _ _), Nat.add_sub_cancel_left]; exact hj
  have := hD.1 _ _ p q h1 h2 h
  omega
theorem wd_sw {D : va_G} {cl : List vw_C} {A : Nat → Prop} {w1 w2 : va_W} {H : Heap} (hP : va_P D cl (w1 ++ w2) H) (hD : va_D A (w1 ++ w2)) : va_P D cl (w2 ++ w1) H ∧ va_D A (w2 ++ w1) :=
  ⟨va_P.app (wd_r hP) (wd_l hP), va_D.app (wd_Dr hD) (wd_Dl hD) (fun i j p q hi hj h => wd_Dx hD j i q p hj hi h.symm)⟩
theorem wd_frame {D : va_G} {cl : List vw_C} {A : Nat → Prop} {Wd Wr W1 : va_W} {H H1 : Heap} (hP : va_P D cl (Wd ++ Wr) H) (hD : va_D A (Wd ++ Wr)) (hk : ∀ q : Nat, q < H.size → ¬ va_A Wd H.size q → H1[q]? = H[q]?) (hF : ∀ q, va_A Wd H.size q → A q) (hP1 : va_P D cl W1 H1) (hD1 : va_D (va_A Wd H.size) W1) : va_P D cl (W1 ++ Wr) H1 ∧ va_D A (W1 ++ Wr) := by
  have hx := wd_Dx hD
  have out : ∀ (k : Nat) (q : Nat × va_E), Wr[k]? = some q → q.1 < H.size ∧ ¬ va_A Wd H.size q.1 := by
    intro k q hq
    have hl := (wd_r hP k q hq).lt
    refine ⟨hl, fun h => ?_⟩
    rcases h with ⟨k2, e, h⟩ | h
    · exact hx k2 k (q.1, e) q h hq rfl
    · omega
  refine ⟨va_P.app hP1 (fun k q hq => (wd_r hP k q hq).kept (hk q.1 (out k q hq).1 (out k q hq).2)), va_D.app (hD1.weaken (fun k q _ h => hF q.1 h)) (wd_Dr hD) (fun i j p q hi hj h => ?_)⟩
  exact (out j q hj).2 (h ▸ hD1.2 i p hi)
section PKF
variable {p : Program} {l : Launch} {e : Env} {R : Room} {s : State} {m : MethodId} {args : Array Value} {below : List Frame} {meth : Method} {c : Code} {H : Heap} {locs : List Loc} {cells slots : Nat} {Q : State → Prop}
variable {cc : ByteArray} {pc : Nat} {ls : Array Slot} {rest st0 : List Value} {D : va_G} {cl : List vw_C} {A : Nat → Prop} {tys : List (ClassId × FieldType)}
variable {y : MethodName} {bytes : ByteArray} {maxL nL n index ci mc ms : Nat} {ret : Option FieldType} {wsC Ts : List Cond} {rm : Room} {own C : String} {b : Addr} {As : List Value} {H0 : Heap} {Wd Wr : va_W} {fs : List Value} {cq : vw_C}
/-- a virtual call on the first of two worlds -/
theorem callF_vi {S : Type} {post : Int32 → S → Prop} {W' : S → va_W} (F : CallFix p m c cc nL s args Ts own) (hM : ct l y wsC rm D cl tys (.ref b :: As) Wd (qI D cl tys post W') mc ms) (cp : cpV Ts own index C y wsC bytes maxL ret n)
    (hz : rm.cells = mc ∧ rm.slots = ms) (hR : rm.frames + 1 ≤ R.frames ∧ 8 + (maxL + 11) + rm.locals ≤ R.locals) (hc : cl[ci]? = some cq) (hq : cq.1 = C) (q0 : Nat) (he : Wd[q0]? = some (b, .inr (ci, fs)))
    (hn : As.length = n) (hsize : ls.size = nL) (hst : st0 = As.reverse ++ .ref b :: rest) (hroom : (rest.map fun v => v.category).sum ≤ 8) (hdg : decode cc pc = .ok (.invokevirtual index, 3)) (hcs : cells + mc ≤ R.cells ∧ slots + ms ≤ R.slots)
    (hK : va_K D cl tys s) (hP : va_P D cl (Wd ++ Wr) H) (hD : va_D A (Wd ++ Wr)) (hS : va_S A H0 H locs) (hA : ∀ q : Nat, H0.size ≤ q → A q)
    (kk : ∀ (r : Int32) (u : S) (H1 : Heap) (locs1 : List Loc), post r u → va_P D cl (W' u ++ Wr) H1 → va_D A (W' u ++ Wr) → va_S A H0 H1 locs1 → W p l e R s m args below meth c H1 locs1 (cells + mc) (slots + ms) Q (F0 m (pc + 3) ls (.int r :: rest))) :
    W p l e R s m args below meth c H locs cells slots Q (F0 m pc ls st0) := by
  subst hq
  obtain ⟨hG, ⟨wsC', hw⟩, hd⟩ := cp
  have hF := wd_free (wd_Dl hD) hS hA
  refine va_calli (va_runV (As := As) (rest := rest) F (hM H.size) (cwV n F.2.2.2.2 hG hw hz.1 hz.2 hd hR) ⟨ct_P_blind, va_recv hK (wd_l hP) hc he, fun U hU hW => ⟨rfl, by rw [hU], by rw [hU]; exact wd_l hP, va_K.moved hW.alike hK, (wd_Dl hD).weaken (fun _ _ _ _ => trivial)⟩⟩ rfl hn hsize hst (lv_room hroom) hdg hcs) hS (fun q _ h => hF q h) hF (fun r u t H1 locs1 ht hvm hp hB hz1 hk1 hS1 => ?_)
  obtain ⟨hP1, hK1, hD1⟩ := hB
  rw [ht] at hP1
  obtain ⟨hP2, hD2⟩ := wd_frame hP hD hk1 hF hP1 hD1
  exact kk r u H1 locs1 hp hP2 hD2 hS1
/-- a virtual call on the second of two worlds -/
theorem callG_vi {S : Type} {post : Int32 → S → Prop} {W' : S → va_W} (F : CallFix p m c cc nL s args Ts own) (hM : ct l y wsC rm D cl tys (.ref b :: As) Wd (qI D cl tys post W') mc ms) (cp : cpV Ts own index C y wsC bytes maxL ret n)
    (hz : rm.cells = mc ∧ rm.slots = ms) (hR : rm.frames + 1 ≤ R.frames ∧ 8 + (maxL + 11) + rm.locals ≤ R.locals) (hc : cl[ci]? = some cq) (hq : cq.1 = C) (q0 : Nat) (he : Wd[q0]? = some (b, .inr (ci, fs)))
    (hn : As.length = n) (hsize : ls.size = nL) (hst : st0 = As.reverse ++ .ref b :: rest) (hroom : (rest.map fun v => v.category).sum ≤ 8) (hdg : decode cc pc = .ok (.invokevirtual index, 3)) (hcs : cells + mc ≤ R.cells ∧ slots + ms ≤ R.slots)
    (hK : va_K D cl tys s) (hP : va_P D cl (Wr ++ Wd) H) (hD : va_D A (Wr ++ Wd)) (hS : va_S A H0 H locs) (hA : ∀ q : Nat, H0.size ≤ q → A q)
    (kk : ∀ (r : Int32) (u : S) (H1 : Heap) (locs1 : List Loc), post r u → va_P D cl (Wr ++ W' u) H1 → va_D A (Wr ++ W' u) → va_S A H0 H1 locs1 → W p l e R s m args below meth c H1 locs1 (cells + mc) (slots + ms) Q (F0 m (pc + 3) ls (.int r :: rest))) :
    W p l e R s m args below meth c H locs cells slots Q (F0 m pc ls st0) := by
  obtain ⟨hP2, hD2⟩ := wd_sw hP hD
  refine callF_vi F hM cp hz hR hc hq q0 he hn hsize hst hroom hdg hcs hK hP2 hD2 hS hA (fun r u H1 locs1 hp hP3 hD3 hS3 => ?_)
  obtain ⟨hP4, hD4⟩ := wd_sw hP3 hD3
  exact kk r u H1 locs1 hp hP4 hD4 hS3
end PKF
end
section
/-! The cells of an object of the class, and a row for each read and write of them. By program (wip/whole/pf.py). -/
def pfT (k : Nat → ClassId) : List (ClassId × FieldType) := [(k 0, .int), (k 1, .boolean), (k 2, .boolean), (k 3, .int), (k 4, .int), (k 5, .int), (k 6, .int), (k 7, .int), (k 8, .boolean), (k 9, .long), (k 10, .long), (k 11, .int), (k 12, .boolean)]
def pfW (h : Nat → Nat) (k : Nat → ClassId) (vc : Int32) (vP : Nat → Int32) (vO : Nat → Int32) (vG : Nat → Int32) (pn : Int32) (pD : Nat → Int32) (pV : Nat → Int32) (pB : Nat → Int32) (pX : Nat → Int32) (pY : Nat → Int32) (sv : Int32) (rc : Nat → Int32) (ah : Nat → Int64) (be : Nat → Int64) (wt : Nat → Int32) (iw : Nat → Int32) (hd : Int32) (wn : Int32) : va_W := [(h 0, .inr (0, [.int vc, .ref (h 1), .ref (h 2), .ref (h 3), .int pn, .ref (h 4), .ref (h 5), .ref (h 6), .ref (h 7), .ref (h 8), .int sv, .ref (h 9), .ref (h 10), .ref (h 11), .ref (h 12), .ref (h 13), .int hd, .int wn])), (h 1, .inl (k 0, 20, .inl vP)), (h 2, .inl (k 1, 20, .inl vO)), (h 3, .inl (k 2, 20, .inl vG)), (h 4, .inl (k 3, 120, .inl pD)), (h 5, .inl (k 4, 120, .inl pV)), (h 6, .inl (k 5, 120, .inl pB)), (h 7, .inl (k 6, 120, .inl pX)), (h 8, .inl (k 7, 120, .inl pY)), (h 9, .inl (k 8, 120, .inl rc)), (h 10, .inl (k 9, 720, .inr (.inl ah))), (h 11, .inl (k 10, 6, .inr (.inl be))), (h 12, .inl (k 11, 120, .inl wt)), (h 13, .inl (k 12, 120, .inl iw))]
section PFW
variable {p : Program} {l : Launch} {e : Env} {R : Room} {s : State} {m : MethodId} {args : Array Value} {below : List Frame} {meth : Method} {c : Code} {H H0 : Heap} {locs : List Loc} {cells slots : Nat} {Q : State → Prop}
variable {cc : ByteArray} {pc index : Nat} {ls : Array Slot} {rest : List Value} {D : va_G} {A : Nat → Prop} {Ts : List Cond} {h : Nat → Nat} {k : Nat → ClassId}
variable {vc pn sv hd wn : Int32} {vP vO vG pD pV pB pX pY rc wt iw : Nat → Int32} {ah be : Nat → Int64}
theorem pf_g_vc (hx : p.tables.exec = Jvm.exec) (hb : c.code = cc) (hts : ∀ w ∈ Ts, w.before args s = true) (hin : ∀ w ∈ u_ws RX0 TX0 18, w ∈ Ts) (hown : s.vm.findClass RX0 = some m.cls) (hK : va_K D vwCl (pfT k) s) (hP : va_P D vwCl (pfW h k vc vP vO vG pn pD pV pB pX pY sv rc ah be wt iw hd wn) H) (hl : Cond.fieldLink RX0 index "PartsFlow" "variableCount" "I" ∈ Ts) (hdg : decode cc pc = .ok (.getfield index, 3)) (kk : W p l e R s m args below meth c H locs cells slots Q (F0 m (pc + 3) ls (.int vc :: rest))) : W p l e R s m args below meth c H locs cells slots Q (F0 m pc ls (.ref (h 0) :: rest)) :=
  va_get (D := D) (ci := 0) (v := .int vc) (C := RX0) (T := TX0) (N := 18) hx hb hts hin hown hK hP 0 rfl rfl 0 (by decide) (hts _ hl) (fun _ h9 => h9) rfl hdg kk
theorem pf_p_vc (hx : p.tables.exec = Jvm.exec) (hb : c.code = cc) (hts : ∀ w ∈ Ts, w.before args s = true) (hin : ∀ w ∈ u_ws RX0 TX0 18, w ∈ Ts) (hown : s.vm.findClass RX0 = some m.cls) (hK : va_K D vwCl (pfT k) s) (hP : va_P D vwCl (pfW h k vc vP vO vG pn pD pV pB pX pY sv rc ah be wt iw hd wn) H) (hD : va_D A (pfW h k vc vP vO vG pn pD pV pB pX pY sv rc ah be wt iw hd wn)) (hS : va_S A H0 H locs) (hl : Cond.fieldLink RX0 index "PartsFlow" "variableCount" "I" ∈ Ts) (hdg : decode cc pc = .ok (.putfield index, 3)) {x : Int32} (kk : ∀ (H1 : Heap) (locs1 : List Loc), va_P D vwCl (pfW h k x vP vO vG pn pD pV pB pX pY sv rc ah be wt iw hd wn) H1 → va_D A (pfW h k x vP vO vG pn pD pV pB pX pY sv rc ah be wt iw hd wn) → va_S A H0 H1 locs1 → W p l e R s m args below meth c H1 locs1 cells slots Q (F0 m (pc + 3) ls rest)) : W p l e R s m args below meth c H locs cells slots Q (F0 m pc ls (.int x :: .ref (h 0) :: rest)) :=
  va_put (D := D) (ci := 0) (v := .int x) (ty := .int) (C := RX0) (T := TX0) (N := 18) hx hb hts hin tyX0 tyX0_ok nmX0 hown hK hP hD hS 0 rfl rfl 0 (by decide) (hts _ hl) (fun _ h9 => h9) rfl (by decide +kernel) rfl rfl (Nat.le_of_ble_eq_true rfl) hdg (fun H1 locs1 hP1 hD1 hS1 => kk H1 locs1 hP1 hD1 hS1)
theorem pf_g_vP (hx : p.tables.exec = Jvm.exec) (hb : c.code = cc) (hts : ∀ w ∈ Ts, w.before args s = true) (hin : ∀ w ∈ u_ws RX0 TX0 18, w ∈ Ts) (hown : s.vm.findClass RX0 = some m.cls) (hK : va_K D vwCl (pfT k) s) (hP : va_P D vwCl (pfW h k vc vP vO vG pn pD pV pB pX pY sv rc ah be wt iw hd wn) H) (hl : Cond.fieldLink RX0 index "PartsFlow" "variableParts" "[I" ∈ Ts) (hdg : decode cc pc = .ok (.getfield index, 3)) (kk : W p l e R s m args below meth c H locs cells slots Q (F0 m (pc + 3) ls (.ref (h 1) :: rest))) : W p l e R s m args below meth c H locs cells slots Q (F0 m pc ls (.ref (h 0) :: rest)) :=
  va_get (D := D) (ci := 0) (v := .ref (h 1)) (C := RX0) (T := TX0) (N := 18) hx hb hts hin hown hK hP 0 rfl rfl 1 (by decide) (hts _ hl) (fun _ h9 => h9) rfl hdg kk
theorem pf_g_vO (hx : p.tables.exec = Jvm.exec) (hb : c.code = cc) (hts : ∀ w ∈ Ts, w.before args s = true) (hin : ∀ w ∈ u_ws RX0 TX0 18, w ∈ Ts) (hown : s.vm.findClass RX0 = some m.cls) (hK : va_K D vwCl (pfT k) s) (hP : va_P D vwCl (pfW h k vc vP vO vG pn pD pV pB pX pY sv rc ah be wt iw hd wn) H) (hl : Cond.fieldLink RX0 index "PartsFlow" "variableOnce" "[Z" ∈ Ts) (hdg : decode cc pc = .ok (.getfield index, 3)) (kk : W p l e R s m args below meth c H locs cells slots Q (F0 m (pc + 3) ls (.ref (h 2) :: rest))) : W p l e R s m args below meth c H locs cells slots Q (F0 m pc ls (.ref (h 0) :: rest)) :=
  va_get (D := D) (ci := 0) (v := .ref (h 2)) (C := RX0) (T := TX0) (N := 18) hx hb hts hin hown hK hP 0 rfl rfl 2 (by decide) (hts _ hl) (fun _ h9 => h9) rfl hdg kk
theorem pf_g_vG (hx : p.tables.exec = Jvm.exec) (hb : c.code = cc) (hts : ∀ w ∈ Ts, w.before args s = true) (hin : ∀ w ∈ u_ws RX0 TX0 18, w ∈ Ts) (hown : s.vm.findClass RX0 = some m.cls) (hK : va_K D vwCl (pfT k) s) (hP : va_P D vwCl (pfW h k vc vP vO vG pn pD pV pB pX pY sv rc ah be wt iw hd wn) H) (hl : Cond.fieldLink RX0 index "PartsFlow" "variableGiven" "[Z" ∈ Ts) (hdg : decode cc pc = .ok (.getfield index, 3)) (kk : W p l e R s m args below meth c H locs cells slots Q (F0 m (pc + 3) ls (.ref (h 3) :: rest))) : W p l e R s m args below meth c H locs cells slots Q (F0 m pc ls (.ref (h 0) :: rest)) :=
  va_get (D := D) (ci := 0) (v := .ref (h 3)) (C := RX0) (T := TX0) (N := 18) hx hb hts hin hown hK hP 0 rfl rfl 3 (by decide) (hts _ hl) (fun _ h9 => h9) rfl hdg kk
theorem pf_g_pn (hx : p.tables.exec = Jvm.exec) (hb : c.code = cc) (hts : ∀ w ∈ Ts, w.before args s = true) (hin : ∀ w ∈ u_ws RX0 TX0 18, w ∈ Ts) (hown : s.vm.findClass RX0 = some m.cls) (hK : va_K D vwCl (pfT k) s) (hP : va_P D vwCl (pfW h k vc vP vO vG pn pD pV pB pX pY sv rc ah be wt iw hd wn) H) (hl : Cond.fieldLink RX0 index "PartsFlow" "pointCount" "I" ∈ Ts) (hdg : decode cc pc = .ok (.getfield index, 3)) (kk : W p l e R s m args below meth c H locs cells slots Q (F0 m (pc + 3) ls (.int pn :: rest))) : W p l e R s m args below meth c H locs cells slots Q (F0 m pc ls (.ref (h 0) :: rest)) :=
  va_get (D := D) (ci := 0) (v := .int pn) (C := RX0) (T := TX0) (N := 18) hx hb hts hin hown hK hP 0 rfl rfl 4 (by decide) (hts _ hl) (fun _ h9 => h9) rfl hdg kk
theorem pf_p_pn (hx : p.tables.exec = Jvm.exec) (hb : c.code = cc) (hts : ∀ w ∈ Ts, w.before args s = true) (hin : ∀ w ∈ u_ws RX0 TX0 18, w ∈ Ts) (hown : s.vm.findClass RX0 = some m.cls) (hK : va_K D vwCl (pfT k) s) (hP : va_P D vwCl (pfW h k vc vP vO vG pn pD pV pB pX pY sv rc ah be wt iw hd wn) H) (hD : va_D A (pfW h k vc vP vO vG pn pD pV pB pX pY sv rc ah be wt iw hd wn)) (hS : va_S A H0 H locs) (hl : Cond.fieldLink RX0 index "PartsFlow" "pointCount" "I" ∈ Ts) (hdg : decode cc pc = .ok (.putfield index, 3)) {x : Int32} (kk : ∀ (H1 : Heap) (locs1 : List Loc), va_P D vwCl (pfW h k vc vP vO vG x pD pV pB pX pY sv rc ah be wt iw hd wn) H1 → va_D A (pfW h k vc vP vO vG x pD pV pB pX pY sv rc ah be wt iw hd wn) → va_S A H0 H1 locs1 → W p l e R s m args below meth c H1 locs1 cells slots Q (F0 m (pc + 3) ls rest)) : W p l e R s m args below meth c H locs cells slots Q (F0 m pc ls (.int x :: .ref (h 0) :: rest)) :=
  va_put (D := D) (ci := 0) (v := .int x) (ty := .int) (C := RX0) (T := TX0) (N := 18) hx hb hts hin tyX0 tyX0_ok nmX0 hown hK hP hD hS 0 rfl rfl 4 (by decide) (hts _ hl) (fun _ h9 => h9) rfl (by decide +kernel) rfl rfl (Nat.le_of_ble_eq_true rfl) hdg (fun H1 locs1 hP1 hD1 hS1 => kk H1 locs1 hP1 hD1 hS1)
theorem pf_g_pD (hx : p.tables.exec = Jvm.exec) (hb : c.code = cc) (hts : ∀ w ∈ Ts, w.before args s = true) (hin : ∀ w ∈ u_ws RX0 TX0 18, w ∈ Ts) (hown : s.vm.findClass RX0 = some m.cls) (hK : va_K D vwCl (pfT k) s) (hP : va_P D vwCl (pfW h k vc vP vO vG pn pD pV pB pX pY sv rc ah be wt iw hd wn) H) (hl : Cond.fieldLink RX0 index "PartsFlow" "pointDoing" "[I" ∈ Ts) (hdg : decode cc pc = .ok (.getfield index, 3)) (kk : W p l e R s m args below meth c H locs cells slots Q (F0 m (pc + 3) ls (.ref (h 4) :: rest))) : W p l e R s m args below meth c H locs cells slots Q (F0 m pc ls (.ref (h 0) :: rest)) :=
  va_get (D := D) (ci := 0) (v := .ref (h 4)) (C := RX0) (T := TX0) (N := 18) hx hb hts hin hown hK hP 0 rfl rfl 5 (by decide) (hts _ hl) (fun _ h9 => h9) rfl hdg kk
theorem pf_g_pV (hx : p.tables.exec = Jvm.exec) (hb : c.code = cc) (hts : ∀ w ∈ Ts, w.before args s = true) (hin : ∀ w ∈ u_ws RX0 TX0 18, w ∈ Ts) (hown : s.vm.findClass RX0 = some m.cls) (hK : va_K D vwCl (pfT k) s) (hP : va_P D vwCl (pfW h k vc vP vO vG pn pD pV pB pX pY sv rc ah be wt iw hd wn) H) (hl : Cond.fieldLink RX0 index "PartsFlow" "pointVariable" "[I" ∈ Ts) (hdg : decode cc pc = .ok (.getfield index, 3)) (kk : W p l e R s m args below meth c H locs cells slots Q (F0 m (pc + 3) ls (.ref (h 5) :: rest))) : W p l e R s m args below meth c H locs cells slots Q (F0 m pc ls (.ref (h 0) :: rest)) :=
  va_get (D := D) (ci := 0) (v := .ref (h 5)) (C := RX0) (T := TX0) (N := 18) hx hb hts hin hown hK hP 0 rfl rfl 6 (by decide) (hts _ hl) (fun _ h9 => h9) rfl hdg kk
theorem pf_g_pB (hx : p.tables.exec = Jvm.exec) (hb : c.code = cc) (hts : ∀ w ∈ Ts, w.before args s = true) (hin : ∀ w ∈ u_ws RX0 TX0 18, w ∈ Ts) (hown : s.vm.findClass RX0 = some m.cls) (hK : va_K D vwCl (pfT k) s) (hP : va_P D vwCl (pfW h k vc vP vO vG pn pD pV pB pX pY sv rc ah be wt iw hd wn) H) (hl : Cond.fieldLink RX0 index "PartsFlow" "pointBits" "[I" ∈ Ts) (hdg : decode cc pc = .ok (.getfield index, 3)) (kk : W p l e R s m args below meth c H locs cells slots Q (F0 m (pc + 3) ls (.ref (h 6) :: rest))) : W p l e R s m args below meth c H locs cells slots Q (F0 m pc ls (.ref (h 0) :: rest)) :=
  va_get (D := D) (ci := 0) (v := .ref (h 6)) (C := RX0) (T := TX0) (N := 18) hx hb hts hin hown hK hP 0 rfl rfl 7 (by decide) (hts _ hl) (fun _ h9 => h9) rfl hdg kk
theorem pf_g_pX (hx : p.tables.exec = Jvm.exec) (hb : c.code = cc) (hts : ∀ w ∈ Ts, w.before args s = true) (hin : ∀ w ∈ u_ws RX0 TX0 18, w ∈ Ts) (hown : s.vm.findClass RX0 = some m.cls) (hK : va_K D vwCl (pfT k) s) (hP : va_P D vwCl (pfW h k vc vP vO vG pn pD pV pB pX pY sv rc ah be wt iw hd wn) H) (hl : Cond.fieldLink RX0 index "PartsFlow" "pointNextX" "[I" ∈ Ts) (hdg : decode cc pc = .ok (.getfield index, 3)) (kk : W p l e R s m args below meth c H locs cells slots Q (F0 m (pc + 3) ls (.ref (h 7) :: rest))) : W p l e R s m args below meth c H locs cells slots Q (F0 m pc ls (.ref (h 0) :: rest)) :=
  va_get (D := D) (ci := 0) (v := .ref (h 7)) (C := RX0) (T := TX0) (N := 18) hx hb hts hin hown hK hP 0 rfl rfl 8 (by decide) (hts _ hl) (fun _ h9 => h9) rfl hdg kk
theorem pf_g_pY (hx : p.tables.exec = Jvm.exec) (hb : c.code = cc) (hts : ∀ w ∈ Ts, w.before args s = true) (hin : ∀ w ∈ u_ws RX0 TX0 18, w ∈ Ts) (hown : s.vm.findClass RX0 = some m.cls) (hK : va_K D vwCl (pfT k) s) (hP : va_P D vwCl (pfW h k vc vP vO vG pn pD pV pB pX pY sv rc ah be wt iw hd wn) H) (hl : Cond.fieldLink RX0 index "PartsFlow" "pointNextY" "[I" ∈ Ts) (hdg : decode cc pc = .ok (.getfield index, 3)) (kk : W p l e R s m args below meth c H locs cells slots Q (F0 m (pc + 3) ls (.ref (h 8) :: rest))) : W p l e R s m args below meth c H locs cells slots Q (F0 m pc ls (.ref (h 0) :: rest)) :=
  va_get (D := D) (ci := 0) (v := .ref (h 8)) (C := RX0) (T := TX0) (N := 18) hx hb hts hin hown hK hP 0 rfl rfl 9 (by decide) (hts _ hl) (fun _ h9 => h9) rfl hdg kk
theorem pf_g_sv (hx : p.tables.exec = Jvm.exec) (hb : c.code = cc) (hts : ∀ w ∈ Ts, w.before args s = true) (hin : ∀ w ∈ u_ws RX0 TX0 18, w ∈ Ts) (hown : s.vm.findClass RX0 = some m.cls) (hK : va_K D vwCl (pfT k) s) (hP : va_P D vwCl (pfW h k vc vP vO vG pn pD pV pB pX pY sv rc ah be wt iw hd wn) H) (hl : Cond.fieldLink RX0 index "PartsFlow" "solved" "Z" ∈ Ts) (hdg : decode cc pc = .ok (.getfield index, 3)) (kk : W p l e R s m args below meth c H locs cells slots Q (F0 m (pc + 3) ls (.int sv :: rest))) : W p l e R s m args below meth c H locs cells slots Q (F0 m pc ls (.ref (h 0) :: rest)) :=
  va_get (D := D) (ci := 0) (v := .int sv) (C := RX0) (T := TX0) (N := 18) hx hb hts hin hown hK hP 0 rfl rfl 10 (by decide) (hts _ hl) (fun _ h9 => h9) rfl hdg kk
theorem pf_p_sv (hx : p.tables.exec = Jvm.exec) (hb : c.code = cc) (hts : ∀ w ∈ Ts, w.before args s = true) (hin : ∀ w ∈ u_ws RX0 TX0 18, w ∈ Ts) (hown : s.vm.findClass RX0 = some m.cls) (hK : va_K D vwCl (pfT k) s) (hP : va_P D vwCl (pfW h k vc vP vO vG pn pD pV pB pX pY sv rc ah be wt iw hd wn) H) (hD : va_D A (pfW h k vc vP vO vG pn pD pV pB pX pY sv rc ah be wt iw hd wn)) (hS : va_S A H0 H locs) (hl : Cond.fieldLink RX0 index "PartsFlow" "solved" "Z" ∈ Ts) (hdg : decode cc pc = .ok (.putfield index, 3)) {x : Int32} (hn : narrow .boolean (.int x) = .int x) (hf : fits .boolean (.int x) = true) (kk : ∀ (H1 : Heap) (locs1 : List Loc), va_P D vwCl (pfW h k vc vP vO vG pn pD pV pB pX pY x rc ah be wt iw hd wn) H1 → va_D A (pfW h k vc vP vO vG pn pD pV pB pX pY x rc ah be wt iw hd wn) → va_S A H0 H1 locs1 → W p l e R s m args below meth c H1 locs1 cells slots Q (F0 m (pc + 3) ls rest)) : W p l e R s m args below meth c H locs cells slots Q (F0 m pc ls (.int x :: .ref (h 0) :: rest)) :=
  va_put (D := D) (ci := 0) (v := .int x) (ty := .boolean) (C := RX0) (T := TX0) (N := 18) hx hb hts hin tyX0 tyX0_ok nmX0 hown hK hP hD hS 0 rfl rfl 10 (by decide) (hts _ hl) (fun _ h9 => h9) rfl (by decide +kernel) hn hf (Nat.le_of_ble_eq_true rfl) hdg (fun H1 locs1 hP1 hD1 hS1 => kk H1 locs1 hP1 hD1 hS1)
theorem pf_g_rc (hx : p.tables.exec = Jvm.exec) (hb : c.code = cc) (hts : ∀ w ∈ Ts, w.before args s = true) (hin : ∀ w ∈ u_ws RX0 TX0 18, w ∈ Ts) (hown : s.vm.findClass RX0 = some m.cls) (hK : va_K D vwCl (pfT k) s) (hP : va_P D vwCl (pfW h k vc vP vO vG pn pD pV pB pX pY sv rc ah be wt iw hd wn) H) (hl : Cond.fieldLink RX0 index "PartsFlow" "reached" "[Z" ∈ Ts) (hdg : decode cc pc = .ok (.getfield index, 3)) (kk : W p l e R s m args below meth c H locs cells slots Q (F0 m (pc + 3) ls (.ref (h 9) :: rest))) : W p l e R s m args below meth c H locs cells slots Q (F0 m pc ls (.ref (h 0) :: rest)) :=
  va_get (D := D) (ci := 0) (v := .ref (h 9)) (C := RX0) (T := TX0) (N := 18) hx hb hts hin hown hK hP 0 rfl rfl 11 (by decide) (hts _ hl) (fun _ h9 => h9) rfl hdg kk
theorem pf_g_ah (hx : p.tables.exec = Jvm.exec) (hb : c.code = cc) (hts : ∀ w ∈ Ts, w.before args s = true) (hin : ∀ w ∈ u_ws RX0 TX0 18, w ∈ Ts) (hown : s.vm.findClass RX0 = some m.cls) (hK : va_K D vwCl (pfT k) s) (hP : va_P D vwCl (pfW h k vc vP vO vG pn pD pV pB pX pY sv rc ah be wt iw hd wn) H) (hl : Cond.fieldLink RX0 index "PartsFlow" "ahead" "[J" ∈ Ts) (hdg : decode cc pc = .ok (.getfield index, 3)) (kk : W p l e R s m args below meth c H locs cells slots Q (F0 m (pc + 3) ls (.ref (h 10) :: rest))) : W p l e R s m args below meth c H locs cells slots Q (F0 m pc ls (.ref (h 0) :: rest)) :=
  va_get (D := D) (ci := 0) (v := .ref (h 10)) (C := RX0) (T := TX0) (N := 18) hx hb hts hin hown hK hP 0 rfl rfl 12 (by decide) (hts _ hl) (fun _ h9 => h9) rfl hdg kk
theorem pf_g_be (hx : p.tables.exec = Jvm.exec) (hb : c.code = cc) (hts : ∀ w ∈ Ts, w.before args s = true) (hin : ∀ w ∈ u_ws RX0 TX0 18, w ∈ Ts) (hown : s.vm.findClass RX0 = some m.cls) (hK : va_K D vwCl (pfT k) s) (hP : va_P D vwCl (pfW h k vc vP vO vG pn pD pV pB pX pY sv rc ah be wt iw hd wn) H) (hl : Cond.fieldLink RX0 index "PartsFlow" "behind" "[J" ∈ Ts) (hdg : decode cc pc = .ok (.getfield index, 3)) (kk : W p l e R s m args below meth c H locs cells slots Q (F0 m (pc + 3) ls (.ref (h 11) :: rest))) : W p l e R s m args below meth c H locs cells slots Q (F0 m pc ls (.ref (h 0) :: rest)) :=
  va_get (D := D) (ci := 0) (v := .ref (h 11)) (C := RX0) (T := TX0) (N := 18) hx hb hts hin hown hK hP 0 rfl rfl 13 (by decide) (hts _ hl) (fun _ h9 => h9) rfl hdg kk
theorem pf_g_wt (hx : p.tables.exec = Jvm.exec) (hb : c.code = cc) (hts : ∀ w ∈ Ts, w.before args s = true) (hin : ∀ w ∈ u_ws RX0 TX0 18, w ∈ Ts) (hown : s.vm.findClass RX0 = some m.cls) (hK : va_K D vwCl (pfT k) s) (hP : va_P D vwCl (pfW h k vc vP vO vG pn pD pV pB pX pY sv rc ah be wt iw hd wn) H) (hl : Cond.fieldLink RX0 index "PartsFlow" "waiting" "[I" ∈ Ts) (hdg : decode cc pc = .ok (.getfield index, 3)) (kk : W p l e R s m args below meth c H locs cells slots Q (F0 m (pc + 3) ls (.ref (h 12) :: rest))) : W p l e R s m args below meth c H locs cells slots Q (F0 m pc ls (.ref (h 0) :: rest)) :=
  va_get (D := D) (ci := 0) (v := .ref (h 12)) (C := RX0) (T := TX0) (N := 18) hx hb hts hin hown hK hP 0 rfl rfl 14 (by decide) (hts _ hl) (fun _ h9 => h9) rfl hdg kk
theorem pf_g_iw (hx : p.tables.exec = Jvm.exec) (hb : c.code = cc) (hts : ∀ w ∈ Ts, w.before args s = true) (hin : ∀ w ∈ u_ws RX0 TX0 18, w ∈ Ts) (hown : s.vm.findClass RX0 = some m.cls) (hK : va_K D vwCl (pfT k) s) (hP : va_P D vwCl (pfW h k vc vP vO vG pn pD pV pB pX pY sv rc ah be wt iw hd wn) H) (hl : Cond.fieldLink RX0 index "PartsFlow" "isWaiting" "[Z" ∈ Ts) (hdg : decode cc pc = .ok (.getfield index, 3)) (kk : W p l e R s m args below meth c H locs cells slots Q (F0 m (pc + 3) ls (.ref (h 13) :: rest))) : W p l e R s m args below meth c H locs cells slots Q (F0 m pc ls (.ref (h 0) :: rest)) :=
  va_get (D := D) (ci := 0) (v := .ref (h 13)) (C := RX0) (T := TX0) (N := 18) hx hb hts hin hown hK hP 0 rfl rfl 15 (by decide) (hts _ hl) (fun _ h9 => h9) rfl hdg kk
theorem pf_g_hd (hx : p.tables.exec = Jvm.exec) (hb : c.code = cc) (hts : ∀ w ∈ Ts, w.before args s = true) (hin : ∀ w ∈ u_ws RX0 TX0 18, w ∈ Ts) (hown : s.vm.findClass RX0 = some m.cls) (hK : va_K D vwCl (pfT k) s) (hP : va_P D vwCl (pfW h k vc vP vO vG pn pD pV pB pX pY sv rc ah be wt iw hd wn) H) (hl : Cond.fieldLink RX0 index "PartsFlow" "waitingHead" "I" ∈ Ts) (hdg : decode cc pc = .ok (.getfield index, 3)) (kk : W p l e R s m args below meth c H locs cells slots Q (F0 m (pc + 3) ls (.int hd :: rest))) : W p l e R s m args below meth c H locs cells slots Q (F0 m pc ls (.ref (h 0) :: rest)) :=
  va_get (D := D) (ci := 0) (v := .int hd) (C := RX0) (T := TX0) (N := 18) hx hb hts hin hown hK hP 0 rfl rfl 16 (by decide) (hts _ hl) (fun _ h9 => h9) rfl hdg kk
theorem pf_p_hd (hx : p.tables.exec = Jvm.exec) (hb : c.code = cc) (hts : ∀ w ∈ Ts, w.before args s = true) (hin : ∀ w ∈ u_ws RX0 TX0 18, w ∈ Ts) (hown : s.vm.findClass RX0 = some m.cls) (hK : va_K D vwCl (pfT k) s) (hP : va_P D vwCl (pfW h k vc vP vO vG pn pD pV pB pX pY sv rc ah be wt iw hd wn) H) (hD : va_D A (pfW h k vc vP vO vG pn pD pV pB pX pY sv rc ah be wt iw hd wn)) (hS : va_S A H0 H locs) (hl : Cond.fieldLink RX0 index "PartsFlow" "waitingHead" "I" ∈ Ts) (hdg : decode cc pc = .ok (.putfield index, 3)) {x : Int32} (kk : ∀ (H1 : Heap) (locs1 : List Loc), va_P D vwCl (pfW h k vc vP vO vG pn pD pV pB pX pY sv rc ah be wt iw x wn) H1 → va_D A (pfW h k vc vP vO vG pn pD pV pB pX pY sv rc ah be wt iw x wn) → va_S A H0 H1 locs1 → W p l e R s m args below meth c H1 locs1 cells slots Q (F0 m (pc + 3) ls rest)) : W p l e R s m args below meth c H locs cells slots Q (F0 m pc ls (.int x :: .ref (h 0) :: rest)) :=
  va_put (D := D) (ci := 0) (v := .int x) (ty := .int) (C := RX0) (T := TX0) (N := 18) hx hb hts hin tyX0 tyX0_ok nmX0 hown hK hP hD hS 0 rfl rfl 16 (by decide) (hts _ hl) (fun _ h9 => h9) rfl (by decide +kernel) rfl rfl (Nat.le_of_ble_eq_true rfl) hdg (fun H1 locs1 hP1 hD1 hS1 => kk H1 locs1 hP1 hD1 hS1)
theorem pf_g_wn (hx : p.tables.exec = Jvm.exec) (hb : c.code = cc) (hts : ∀ w ∈ Ts, w.before args s = true) (hin : ∀ w ∈ u_ws RX0 TX0 18, w ∈ Ts) (hown : s.vm.findClass RX0 = some m.cls) (hK : va_K D vwCl (pfT k) s) (hP : va_P D vwCl (pfW h k vc vP vO vG pn pD pV pB pX pY sv rc ah be wt iw hd wn) H) (hl : Cond.fieldLink RX0 index "PartsFlow" "waitingCount" "I" ∈ Ts) (hdg : decode cc pc = .ok (.getfield index, 3)) (kk : W p l e R s m args below meth c H locs cells slots Q (F0 m (pc + 3) ls (.int wn :: rest))) : W p l e R s m args below meth c H locs cells slots Q (F0 m pc ls (.ref (h 0) :: rest)) :=
  va_get (D := D) (ci := 0) (v := .int wn) (C := RX0) (T := TX0) (N := 18) hx hb hts hin hown hK hP 0 rfl rfl 17 (by decide) (hts _ hl) (fun _ h9 => h9) rfl hdg kk
theorem pf_p_wn (hx : p.tables.exec = Jvm.exec) (hb : c.code = cc) (hts : ∀ w ∈ Ts, w.before args s = true) (hin : ∀ w ∈ u_ws RX0 TX0 18, w ∈ Ts) (hown : s.vm.findClass RX0 = some m.cls) (hK : va_K D vwCl (pfT k) s) (hP : va_P D vwCl (pfW h k vc vP vO vG pn pD pV pB pX pY sv rc ah be wt iw hd wn) H) (hD : va_D A (pfW h k vc vP vO vG pn pD pV pB pX pY sv rc ah be wt iw hd wn)) (hS : va_S A H0 H locs) (hl : Cond.fieldLink RX0 index "PartsFlow" "waitingCount" "I" ∈ Ts) (hdg : decode cc pc = .ok (.putfield index, 3)) {x : Int32} (kk : ∀ (H1 : Heap) (locs1 : List Loc), va_P D vwCl (pfW h k vc vP vO vG pn pD pV pB pX pY sv rc ah be wt iw hd x) H1 → va_D A (pfW h k vc vP vO vG pn pD pV pB pX pY sv rc ah be wt iw hd x) → va_S A H0 H1 locs1 → W p l e R s m args below meth c H1 locs1 cells slots Q (F0 m (pc + 3) ls rest)) : W p l e R s m args below meth c H locs cells slots Q (F0 m pc ls (.int x :: .ref (h 0) :: rest)) :=
  va_put (D := D) (ci := 0) (v := .int x) (ty := .int) (C := RX0) (T := TX0) (N := 18) hx hb hts hin tyX0 tyX0_ok nmX0 hown hK hP hD hS 0 rfl rfl 17 (by decide) (hts _ hl) (fun _ h9 => h9) rfl (by decide +kernel) rfl rfl (Nat.le_of_ble_eq_true rfl) hdg (fun H1 locs1 hP1 hD1 hS1 => kk H1 locs1 hP1 hD1 hS1)
theorem pf_l_vP (hx : p.tables.exec = Jvm.exec) (hb : c.code = cc) (hK : va_K D vwCl (pfT k) s) (hP : va_P D vwCl (pfW h k vc vP vO vG pn pD pV pB pX pY sv rc ah be wt iw hd wn) H) {n : Nat} (hn : n < 20) (hdg : decode cc pc = .ok (.iaload, 1)) (kk : W p l e R s m args below meth c H locs cells slots Q (F0 m (pc + 1) ls (.int (vP n) :: rest))) : W p l e R s m args below meth c H locs cells slots Q (F0 m pc ls (.int (nI n) :: .ref (h 1) :: rest)) := by
  refine va_iald hx hb hK hP 1 0 (cA := k 0) (n := 20) (f := vP) rfl rfl (vp_in_nI hn (by decide)) hdg ?_
  rw [nI_clamp (by omega)]
  exact kk
theorem pf_s_vP (hx : p.tables.exec = Jvm.exec) (hb : c.code = cc) (hK : va_K D vwCl (pfT k) s) (hP : va_P D vwCl (pfW h k vc vP vO vG pn pD pV pB pX pY sv rc ah be wt iw hd wn) H) (hD : va_D A (pfW h k vc vP vO vG pn pD pV pB pX pY sv rc ah be wt iw hd wn)) (hS : va_S A H0 H locs) {n : Nat} {x : Int32} (hn : n < 20) (hdg : decode cc pc = .ok (.iastore, 1)) (kk : ∀ (H1 : Heap) (locs1 : List Loc), va_P D vwCl (pfW h k vc (upd vP n x) vO vG pn pD pV pB pX pY sv rc ah be wt iw hd wn) H1 → va_D A (pfW h k vc (upd vP n x) vO vG pn pD pV pB pX pY sv rc ah be wt iw hd wn) → va_S A H0 H1 locs1 → W p l e R s m args below meth c H1 locs1 cells slots Q (F0 m (pc + 1) ls rest)) : W p l e R s m args below meth c H locs cells slots Q (F0 m pc ls (.int x :: .int (nI n) :: .ref (h 1) :: rest)) := by
  refine va_iast hx hb hK hP hD hS 1 0 (cA := k 0) (n := 20) (f := vP) rfl rfl (vp_in_nI hn (by decide)) hdg (fun H1 locs1 hP1 hD1 hS1 => ?_)
  rw [nI_clamp (by omega)] at hP1 hD1
  exact kk H1 locs1 hP1 hD1 hS1
theorem pf_l_vO (hx : p.tables.exec = Jvm.exec) (hb : c.code = cc) (hK : va_K D vwCl (pfT k) s) (hP : va_P D vwCl (pfW h k vc vP vO vG pn pD pV pB pX pY sv rc ah be wt iw hd wn) H) {n : Nat} (hn : n < 20) (hdg : decode cc pc = .ok (.baload, 1)) (kk : W p l e R s m args below meth c H locs cells slots Q (F0 m (pc + 1) ls (.int (vO n) :: rest))) : W p l e R s m args below meth c H locs cells slots Q (F0 m pc ls (.int (nI n) :: .ref (h 2) :: rest)) := by
  refine va_zald hx hb hK hP 2 1 (cA := k 1) (n := 20) (f := vO) rfl rfl (vp_in_nI hn (by decide)) hdg ?_
  rw [nI_clamp (by omega)]
  exact kk
theorem pf_s_vO (hx : p.tables.exec = Jvm.exec) (hb : c.code = cc) (hK : va_K D vwCl (pfT k) s) (hP : va_P D vwCl (pfW h k vc vP vO vG pn pD pV pB pX pY sv rc ah be wt iw hd wn) H) (hD : va_D A (pfW h k vc vP vO vG pn pD pV pB pX pY sv rc ah be wt iw hd wn)) (hS : va_S A H0 H locs) {n : Nat} {x : Int32} (hn : n < 20) (hdg : decode cc pc = .ok (.bastore, 1)) (hz : vp_nar .boolean x = x) (kk : ∀ (H1 : Heap) (locs1 : List Loc), va_P D vwCl (pfW h k vc vP (upd vO n x) vG pn pD pV pB pX pY sv rc ah be wt iw hd wn) H1 → va_D A (pfW h k vc vP (upd vO n x) vG pn pD pV pB pX pY sv rc ah be wt iw hd wn) → va_S A H0 H1 locs1 → W p l e R s m args below meth c H1 locs1 cells slots Q (F0 m (pc + 1) ls rest)) : W p l e R s m args below meth c H locs cells slots Q (F0 m pc ls (.int x :: .int (nI n) :: .ref (h 2) :: rest)) := by
  refine va_zast hx hb hK hP hD hS 2 1 (cA := k 1) (n := 20) (f := vO) rfl rfl (vp_in_nI hn (by decide)) hdg (fun H1 locs1 hP1 hD1 hS1 => ?_)
  rw [nI_clamp (by omega), hz] at hP1 hD1
  exact kk H1 locs1 hP1 hD1 hS1
theorem pf_l_vG (hx : p.tables.exec = Jvm.exec) (hb : c.code = cc) (hK : va_K D vwCl (pfT k) s) (hP : va_P D vwCl (pfW h k vc vP vO vG pn pD pV pB pX pY sv rc ah be wt iw hd wn) H) {n : Nat} (hn : n < 20) (hdg : decode cc pc = .ok (.baload, 1)) (kk : W p l e R s m args below meth c H locs cells slots Q (F0 m (pc + 1) ls (.int (vG n) :: rest))) : W p l e R s m args below meth c H locs cells slots Q (F0 m pc ls (.int (nI n) :: .ref (h 3) :: rest)) := by
  refine va_zald hx hb hK hP 3 2 (cA := k 2) (n := 20) (f := vG) rfl rfl (vp_in_nI hn (by decide)) hdg ?_
  rw [nI_clamp (by omega)]
  exact kk
theorem pf_s_vG (hx : p.tables.exec = Jvm.exec) (hb : c.code = cc) (hK : va_K D vwCl (pfT k) s) (hP : va_P D vwCl (pfW h k vc vP vO vG pn pD pV pB pX pY sv rc ah be wt iw hd wn) H) (hD : va_D A (pfW h k vc vP vO vG pn pD pV pB pX pY sv rc ah be wt iw hd wn)) (hS : va_S A H0 H locs) {n : Nat} {x : Int32} (hn : n < 20) (hdg : decode cc pc = .ok (.bastore, 1)) (hz : vp_nar .boolean x = x) (kk : ∀ (H1 : Heap) (locs1 : List Loc), va_P D vwCl (pfW h k vc vP vO (upd vG n x) pn pD pV pB pX pY sv rc ah be wt iw hd wn) H1 → va_D A (pfW h k vc vP vO (upd vG n x) pn pD pV pB pX pY sv rc ah be wt iw hd wn) → va_S A H0 H1 locs1 → W p l e R s m args below meth c H1 locs1 cells slots Q (F0 m (pc + 1) ls rest)) : W p l e R s m args below meth c H locs cells slots Q (F0 m pc ls (.int x :: .int (nI n) :: .ref (h 3) :: rest)) := by
  refine va_zast hx hb hK hP hD hS 3 2 (cA := k 2) (n := 20) (f := vG) rfl rfl (vp_in_nI hn (by decide)) hdg (fun H1 locs1 hP1 hD1 hS1 => ?_)
  rw [nI_clamp (by omega), hz] at hP1 hD1
  exact kk H1 locs1 hP1 hD1 hS1
theorem pf_l_pD (hx : p.tables.exec = Jvm.exec) (hb : c.code = cc) (hK : va_K D vwCl (pfT k) s) (hP : va_P D vwCl (pfW h k vc vP vO vG pn pD pV pB pX pY sv rc ah be wt iw hd wn) H) {n : Nat} (hn : n < 120) (hdg : decode cc pc = .ok (.iaload, 1)) (kk : W p l e R s m args below meth c H locs cells slots Q (F0 m (pc + 1) ls (.int (pD n) :: rest))) : W p l e R s m args below meth c H locs cells slots Q (F0 m pc ls (.int (nI n) :: .ref (h 4) :: rest)) := by
  refine va_iald hx hb hK hP 4 3 (cA := k 3) (n := 120) (f := pD) rfl rfl (vp_in_nI hn (by decide)) hdg ?_
  rw [nI_clamp (by omega)]
  exact kk
theorem pf_s_pD (hx : p.tables.exec = Jvm.exec) (hb : c.code = cc) (hK : va_K D vwCl (pfT k) s) (hP : va_P D vwCl (pfW h k vc vP vO vG pn pD pV pB pX pY sv rc ah be wt iw hd wn) H) (hD : va_D A (pfW h k vc vP vO vG pn pD pV pB pX pY sv rc ah be wt iw hd wn)) (hS : va_S A H0 H locs) {n : Nat} {x : Int32} (hn : n < 120) (hdg : decode cc pc = .ok (.iastore, 1)) (kk : ∀ (H1 : Heap) (locs1 : List Loc), va_P D vwCl (pfW h k vc vP vO vG pn (upd pD n x) pV pB pX pY sv rc ah be wt iw hd wn) H1 → va_D A (pfW h k vc vP vO vG pn (upd pD n x) pV pB pX pY sv rc ah be wt iw hd wn) → va_S A H0 H1 locs1 → W p l e R s m args below meth c H1 locs1 cells slots Q (F0 m (pc + 1) ls rest)) : W p l e R s m args below meth c H locs cells slots Q (F0 m pc ls (.int x :: .int (nI n) :: .ref (h 4) :: rest)) := by
  refine va_iast hx hb hK hP hD hS 4 3 (cA := k 3) (n := 120) (f := pD) rfl rfl (vp_in_nI hn (by decide)) hdg (fun H1 locs1 hP1 hD1 hS1 => ?_)
  rw [nI_clamp (by omega)] at hP1 hD1
  exact kk H1 locs1 hP1 hD1 hS1
theorem pf_l_pV (hx : p.tables.exec = Jvm.exec) (hb : c.code = cc) (hK : va_K D vwCl (pfT k) s) (hP : va_P D vwCl (pfW h k vc vP vO vG pn pD pV pB pX pY sv rc ah be wt iw hd wn) H) {n : Nat} (hn : n < 120) (hdg : decode cc pc = .ok (.iaload, 1)) (kk : W p l e R s m args below meth c H locs cells slots Q (F0 m (pc + 1) ls (.int (pV n) :: rest))) : W p l e R s m args below meth c H locs cells slots Q (F0 m pc ls (.int (nI n) :: .ref (h 5) :: rest)) := by
  refine va_iald hx hb hK hP 5 4 (cA := k 4) (n := 120) (f := pV) rfl rfl (vp_in_nI hn (by decide)) hdg ?_
  rw [nI_clamp (by omega)]
  exact kk
theorem pf_s_pV (hx : p.tables.exec = Jvm.exec) (hb : c.code = cc) (hK : va_K D vwCl (pfT k) s) (hP : va_P D vwCl (pfW h k vc vP vO vG pn pD pV pB pX pY sv rc ah be wt iw hd wn) H) (hD : va_D A (pfW h k vc vP vO vG pn pD pV pB pX pY sv rc ah be wt iw hd wn)) (hS : va_S A H0 H locs) {n : Nat} {x : Int32} (hn : n < 120) (hdg : decode cc pc = .ok (.iastore, 1)) (kk : ∀ (H1 : Heap) (locs1 : List Loc), va_P D vwCl (pfW h k vc vP vO vG pn pD (upd pV n x) pB pX pY sv rc ah be wt iw hd wn) H1 → va_D A (pfW h k vc vP vO vG pn pD (upd pV n x) pB pX pY sv rc ah be wt iw hd wn) → va_S A H0 H1 locs1 → W p l e R s m args below meth c H1 locs1 cells slots Q (F0 m (pc + 1) ls rest)) : W p l e R s m args below meth c H locs cells slots Q (F0 m pc ls (.int x :: .int (nI n) :: .ref (h 5) :: rest)) := by
  refine va_iast hx hb hK hP hD hS 5 4 (cA := k 4) (n := 120) (f := pV) rfl rfl (vp_in_nI hn (by decide)) hdg (fun H1 locs1 hP1 hD1 hS1 => ?_)
  rw [nI_clamp (by omega)] at hP1 hD1
  exact kk H1 locs1 hP1 hD1 hS1
theorem pf_l_pB (hx : p.tables.exec = Jvm.exec) (hb : c.code = cc) (hK : va_K D vwCl (pfT k) s) (hP : va_P D vwCl (pfW h k vc vP vO vG pn pD pV pB pX pY sv rc ah be wt iw hd wn) H) {n : Nat} (hn : n < 120) (hdg : decode cc pc = .ok (.iaload, 1)) (kk : W p l e R s m args below meth c H locs cells slots Q (F0 m (pc + 1) ls (.int (pB n) :: rest))) : W p l e R s m args below meth c H locs cells slots Q (F0 m pc ls (.int (nI n) :: .ref (h 6) :: rest)) := by
  refine va_iald hx hb hK hP 6 5 (cA := k 5) (n := 120) (f := pB) rfl rfl (vp_in_nI hn (by decide)) hdg ?_
  rw [nI_clamp (by omega)]
  exact kk
theorem pf_s_pB (hx : p.tables.exec = Jvm.exec) (hb : c.code = cc) (hK : va_K D vwCl (pfT k) s) (hP : va_P D vwCl (pfW h k vc vP vO vG pn pD pV pB pX pY sv rc ah be wt iw hd wn) H) (hD : va_D A (pfW h k vc vP vO vG pn pD pV pB pX pY sv rc ah be wt iw hd wn)) (hS : va_S A H0 H locs) {n : Nat} {x : Int32} (hn : n < 120) (hdg : decode cc pc = .ok (.iastore, 1)) (kk : ∀ (H1 : Heap) (locs1 : List Loc), va_P D vwCl (pfW h k vc vP vO vG pn pD pV (upd pB n x) pX pY sv rc ah be wt iw hd wn) H1 → va_D A (pfW h k vc vP vO vG pn pD pV (upd pB n x) pX pY sv rc ah be wt iw hd wn) → va_S A H0 H1 locs1 → W p l e R s m args below meth c H1 locs1 cells slots Q (F0 m (pc + 1) ls rest)) : W p l e R s m args below meth c H locs cells slots Q (F0 m pc ls (.int x :: .int (nI n) :: .ref (h 6) :: rest)) := by
  refine va_iast hx hb hK hP hD hS 6 5 (cA := k 5) (n := 120) (f := pB) rfl rfl (vp_in_nI hn (by decide)) hdg (fun H1 locs1 hP1 hD1 hS1 => ?_)
  rw [nI_clamp (by omega)] at hP1 hD1
  exact kk H1 locs1 hP1 hD1 hS1
theorem pf_l_pX (hx : p.tables.exec = Jvm.exec) (hb : c.code = cc) (hK : va_K D vwCl (pfT k) s) (hP : va_P D vwCl (pfW h k vc vP vO vG pn pD pV pB pX pY sv rc ah be wt iw hd wn) H) {n : Nat} (hn : n < 120) (hdg : decode cc pc = .ok (.iaload, 1)) (kk : W p l e R s m args below meth c H locs cells slots Q (F0 m (pc + 1) ls (.int (pX n) :: rest))) : W p l e R s m args below meth c H locs cells slots Q (F0 m pc ls (.int (nI n) :: .ref (h 7) :: rest)) := by
  refine va_iald hx hb hK hP 7 6 (cA := k 6) (n := 120) (f := pX) rfl rfl (vp_in_nI hn (by decide)) hdg ?_
  rw [nI_clamp (by omega)]
  exact kk
theorem pf_s_pX (hx : p.tables.exec = Jvm.exec) (hb : c.code = cc) (hK : va_K D vwCl (pfT k) s) (hP : va_P D vwCl (pfW h k vc vP vO vG pn pD pV pB pX pY sv rc ah be wt iw hd wn) H) (hD : va_D A (pfW h k vc vP vO vG pn pD pV pB pX pY sv rc ah be wt iw hd wn)) (hS : va_S A H0 H locs) {n : Nat} {x : Int32} (hn : n < 120) (hdg : decode cc pc = .ok (.iastore, 1)) (kk : ∀ (H1 : Heap) (locs1 : List Loc), va_P D vwCl (pfW h k vc vP vO vG pn pD pV pB (upd pX n x) pY sv rc ah be wt iw hd wn) H1 → va_D A (pfW h k vc vP vO vG pn pD pV pB (upd pX n x) pY sv rc ah be wt iw hd wn) → va_S A H0 H1 locs1 → W p l e R s m args below meth c H1 locs1 cells slots Q (F0 m (pc + 1) ls rest)) : W p l e R s m args below meth c H locs cells slots Q (F0 m pc ls (.int x :: .int (nI n) :: .ref (h 7) :: rest)) := by
  refine va_iast hx hb hK hP hD hS 7 6 (cA := k 6) (n := 120) (f := pX) rfl rfl (vp_in_nI hn (by decide)) hdg (fun H1 locs1 hP1 hD1 hS1 => ?_)
  rw [nI_clamp (by omega)] at hP1 hD1
  exact kk H1 locs1 hP1 hD1 hS1
theorem pf_l_pY (hx : p.tables.exec = Jvm.exec) (hb : c.code = cc) (hK : va_K D vwCl (pfT k) s) (hP : va_P D vwCl (pfW h k vc vP vO vG pn pD pV pB pX pY sv rc ah be wt iw hd wn) H) {n : Nat} (hn : n < 120) (hdg : decode cc pc = .ok (.iaload, 1)) (kk : W p l e R s m args below meth c H locs cells slots Q (F0 m (pc + 1) ls (.int (pY n) :: rest))) : W p l e R s m args below meth c H locs cells slots Q (F0 m pc ls (.int (nI n) :: .ref (h 8) :: rest)) := by
  refine va_iald hx hb hK hP 8 7 (cA := k 7) (n := 120) (f := pY) rfl rfl (vp_in_nI hn (by decide)) hdg ?_
  rw [nI_clamp (by omega)]
  exact kk
theorem pf_s_pY (hx : p.tables.exec = Jvm.exec) (hb : c.code = cc) (hK : va_K D vwCl (pfT k) s) (hP : va_P D vwCl (pfW h k vc vP vO vG pn pD pV pB pX pY sv rc ah be wt iw hd wn) H) (hD : va_D A (pfW h k vc vP vO vG pn pD pV pB pX pY sv rc ah be wt iw hd wn)) (hS : va_S A H0 H locs) {n : Nat} {x : Int32} (hn : n < 120) (hdg : decode cc pc = .ok (.iastore, 1)) (kk : ∀ (H1 : Heap) (locs1 : List Loc), va_P D vwCl (pfW h k vc vP vO vG pn pD pV pB pX (upd pY n x) sv rc ah be wt iw hd wn) H1 → va_D A (pfW h k vc vP vO vG pn pD pV pB pX (upd pY n x) sv rc ah be wt iw hd wn) → va_S A H0 H1 locs1 → W p l e R s m args below meth c H1 locs1 cells slots Q (F0 m (pc + 1) ls rest)) : W p l e R s m args below meth c H locs cells slots Q (F0 m pc ls (.int x :: .int (nI n) :: .ref (h 8) :: rest)) := by
  refine va_iast hx hb hK hP hD hS 8 7 (cA := k 7) (n := 120) (f := pY) rfl rfl (vp_in_nI hn (by decide)) hdg (fun H1 locs1 hP1 hD1 hS1 => ?_)
  rw [nI_clamp (by omega)] at hP1 hD1
  exact kk H1 locs1 hP1 hD1 hS1
theorem pf_l_rc (hx : p.tables.exec = Jvm.exec) (hb : c.code = cc) (hK : va_K D vwCl (pfT k) s) (hP : va_P D vwCl (pfW h k vc vP vO vG pn pD pV pB pX pY sv rc ah be wt iw hd wn) H) {n : Nat} (hn : n < 120) (hdg : decode cc pc = .ok (.baload, 1)) (kk : W p l e R s m args below meth c H locs cells slots Q (F0 m (pc + 1) ls (.int (rc n) :: rest))) : W p l e R s m args below meth c H locs cells slots Q (F0 m pc ls (.int (nI n) :: .ref (h 9) :: rest)) := by
  refine va_zald hx hb hK hP 9 8 (cA := k 8) (n := 120) (f := rc) rfl rfl (vp_in_nI hn (by decide)) hdg ?_
  rw [nI_clamp (by omega)]
  exact kk
theorem pf_s_rc (hx : p.tables.exec = Jvm.exec) (hb : c.code = cc) (hK : va_K D vwCl (pfT k) s) (hP : va_P D vwCl (pfW h k vc vP vO vG pn pD pV pB pX pY sv rc ah be wt iw hd wn) H) (hD : va_D A (pfW h k vc vP vO vG pn pD pV pB pX pY sv rc ah be wt iw hd wn)) (hS : va_S A H0 H locs) {n : Nat} {x : Int32} (hn : n < 120) (hdg : decode cc pc = .ok (.bastore, 1)) (hz : vp_nar .boolean x = x) (kk : ∀ (H1 : Heap) (locs1 : List Loc), va_P D vwCl (pfW h k vc vP vO vG pn pD pV pB pX pY sv (upd rc n x) ah be wt iw hd wn) H1 → va_D A (pfW h k vc vP vO vG pn pD pV pB pX pY sv (upd rc n x) ah be wt iw hd wn) → va_S A H0 H1 locs1 → W p l e R s m args below meth c H1 locs1 cells slots Q (F0 m (pc + 1) ls rest)) : W p l e R s m args below meth c H locs cells slots Q (F0 m pc ls (.int x :: .int (nI n) :: .ref (h 9) :: rest)) := by
  refine va_zast hx hb hK hP hD hS 9 8 (cA := k 8) (n := 120) (f := rc) rfl rfl (vp_in_nI hn (by decide)) hdg (fun H1 locs1 hP1 hD1 hS1 => ?_)
  rw [nI_clamp (by omega), hz] at hP1 hD1
  exact kk H1 locs1 hP1 hD1 hS1
theorem pf_l_ah (hx : p.tables.exec = Jvm.exec) (hb : c.code = cc) (hK : va_K D vwCl (pfT k) s) (hP : va_P D vwCl (pfW h k vc vP vO vG pn pD pV pB pX pY sv rc ah be wt iw hd wn) H) {n : Nat} (hn : n < 720) (hdg : decode cc pc = .ok (.laload, 1)) (kk : W p l e R s m args below meth c H locs cells slots Q (F0 m (pc + 1) ls (.long (ah n) :: rest))) : W p l e R s m args below meth c H locs cells slots Q (F0 m pc ls (.int (nI n) :: .ref (h 10) :: rest)) := by
  refine va_lald hx hb hK hP 10 9 (cA := k 9) (n := 720) (f := ah) rfl rfl (vp_in_nI hn (by decide)) hdg ?_
  rw [nI_clamp (by omega)]
  exact kk
theorem pf_s_ah (hx : p.tables.exec = Jvm.exec) (hb : c.code = cc) (hK : va_K D vwCl (pfT k) s) (hP : va_P D vwCl (pfW h k vc vP vO vG pn pD pV pB pX pY sv rc ah be wt iw hd wn) H) (hD : va_D A (pfW h k vc vP vO vG pn pD pV pB pX pY sv rc ah be wt iw hd wn)) (hS : va_S A H0 H locs) {n : Nat} {x : Int64} (hn : n < 720) (hdg : decode cc pc = .ok (.lastore, 1)) (kk : ∀ (H1 : Heap) (locs1 : List Loc), va_P D vwCl (pfW h k vc vP vO vG pn pD pV pB pX pY sv rc (vp_updL ah n x) be wt iw hd wn) H1 → va_D A (pfW h k vc vP vO vG pn pD pV pB pX pY sv rc (vp_updL ah n x) be wt iw hd wn) → va_S A H0 H1 locs1 → W p l e R s m args below meth c H1 locs1 cells slots Q (F0 m (pc + 1) ls rest)) : W p l e R s m args below meth c H locs cells slots Q (F0 m pc ls (.long x :: .int (nI n) :: .ref (h 10) :: rest)) := by
  refine va_last hx hb hK hP hD hS 10 9 (cA := k 9) (n := 720) (f := ah) rfl rfl (vp_in_nI hn (by decide)) hdg (fun H1 locs1 hP1 hD1 hS1 => ?_)
  rw [nI_clamp (by omega)] at hP1 hD1
  exact kk H1 locs1 hP1 hD1 hS1
theorem pf_l_be (hx : p.tables.exec = Jvm.exec) (hb : c.code = cc) (hK : va_K D vwCl (pfT k) s) (hP : va_P D vwCl (pfW h k vc vP vO vG pn pD pV pB pX pY sv rc ah be wt iw hd wn) H) {n : Nat} (hn : n < 6) (hdg : decode cc pc = .ok (.laload, 1)) (kk : W p l e R s m args below meth c H locs cells slots Q (F0 m (pc + 1) ls (.long (be n) :: rest))) : W p l e R s m args below meth c H locs cells slots Q (F0 m pc ls (.int (nI n) :: .ref (h 11) :: rest)) := by
  refine va_lald hx hb hK hP 11 10 (cA := k 10) (n := 6) (f := be) rfl rfl (vp_in_nI hn (by decide)) hdg ?_
  rw [nI_clamp (by omega)]
  exact kk
theorem pf_s_be (hx : p.tables.exec = Jvm.exec) (hb : c.code = cc) (hK : va_K D vwCl (pfT k) s) (hP : va_P D vwCl (pfW h k vc vP vO vG pn pD pV pB pX pY sv rc ah be wt iw hd wn) H) (hD : va_D A (pfW h k vc vP vO vG pn pD pV pB pX pY sv rc ah be wt iw hd wn)) (hS : va_S A H0 H locs) {n : Nat} {x : Int64} (hn : n < 6) (hdg : decode cc pc = .ok (.lastore, 1)) (kk : ∀ (H1 : Heap) (locs1 : List Loc), va_P D vwCl (pfW h k vc vP vO vG pn pD pV pB pX pY sv rc ah (vp_updL be n x) wt iw hd wn) H1 → va_D A (pfW h k vc vP vO vG pn pD pV pB pX pY sv rc ah (vp_updL be n x) wt iw hd wn) → va_S A H0 H1 locs1 → W p l e R s m args below meth c H1 locs1 cells slots Q (F0 m (pc + 1) ls rest)) : W p l e R s m args below meth c H locs cells slots Q (F0 m pc ls (.long x :: .int (nI n) :: .ref (h 11) :: rest)) := by
  refine va_last hx hb hK hP hD hS 11 10 (cA := k 10) (n := 6) (f := be) rfl rfl (vp_in_nI hn (by decide)) hdg (fun H1 locs1 hP1 hD1 hS1 => ?_)
  rw [nI_clamp (by omega)] at hP1 hD1
  exact kk H1 locs1 hP1 hD1 hS1
theorem pf_l_wt (hx : p.tables.exec = Jvm.exec) (hb : c.code = cc) (hK : va_K D vwCl (pfT k) s) (hP : va_P D vwCl (pfW h k vc vP vO vG pn pD pV pB pX pY sv rc ah be wt iw hd wn) H) {n : Nat} (hn : n < 120) (hdg : decode cc pc = .ok (.iaload, 1)) (kk : W p l e R s m args below meth c H locs cells slots Q (F0 m (pc + 1) ls (.int (wt n) :: rest))) : W p l e R s m args below meth c H locs cells slots Q (F0 m pc ls (.int (nI n) :: .ref (h 12) :: rest)) := by
  refine va_iald hx hb hK hP 12 11 (cA := k 11) (n := 120) (f := wt) rfl rfl (vp_in_nI hn (by decide)) hdg ?_
  rw [nI_clamp (by omega)]
  exact kk
theorem pf_s_wt (hx : p.tables.exec = Jvm.exec) (hb : c.code = cc) (hK : va_K D vwCl (pfT k) s) (hP : va_P D vwCl (pfW h k vc vP vO vG pn pD pV pB pX pY sv rc ah be wt iw hd wn) H) (hD : va_D A (pfW h k vc vP vO vG pn pD pV pB pX pY sv rc ah be wt iw hd wn)) (hS : va_S A H0 H locs) {n : Nat} {x : Int32} (hn : n < 120) (hdg : decode cc pc = .ok (.iastore, 1)) (kk : ∀ (H1 : Heap) (locs1 : List Loc), va_P D vwCl (pfW h k vc vP vO vG pn pD pV pB pX pY sv rc ah be (upd wt n x) iw hd wn) H1 → va_D A (pfW h k vc vP vO vG pn pD pV pB pX pY sv rc ah be (upd wt n x) iw hd wn) → va_S A H0 H1 locs1 → W p l e R s m args below meth c H1 locs1 cells slots Q (F0 m (pc + 1) ls rest)) : W p l e R s m args below meth c H locs cells slots Q (F0 m pc ls (.int x :: .int (nI n) :: .ref (h 12) :: rest)) := by
  refine va_iast hx hb hK hP hD hS 12 11 (cA := k 11) (n := 120) (f := wt) rfl rfl (vp_in_nI hn (by decide)) hdg (fun H1 locs1 hP1 hD1 hS1 => ?_)
  rw [nI_clamp (by omega)] at hP1 hD1
  exact kk H1 locs1 hP1 hD1 hS1
theorem pf_l_iw (hx : p.tables.exec = Jvm.exec) (hb : c.code = cc) (hK : va_K D vwCl (pfT k) s) (hP : va_P D vwCl (pfW h k vc vP vO vG pn pD pV pB pX pY sv rc ah be wt iw hd wn) H) {n : Nat} (hn : n < 120) (hdg : decode cc pc = .ok (.baload, 1)) (kk : W p l e R s m args below meth c H locs cells slots Q (F0 m (pc + 1) ls (.int (iw n) :: rest))) : W p l e R s m args below meth c H locs cells slots Q (F0 m pc ls (.int (nI n) :: .ref (h 13) :: rest)) := by
  refine va_zald hx hb hK hP 13 12 (cA := k 12) (n := 120) (f := iw) rfl rfl (vp_in_nI hn (by decide)) hdg ?_
  rw [nI_clamp (by omega)]
  exact kk
theorem pf_s_iw (hx : p.tables.exec = Jvm.exec) (hb : c.code = cc) (hK : va_K D vwCl (pfT k) s) (hP : va_P D vwCl (pfW h k vc vP vO vG pn pD pV pB pX pY sv rc ah be wt iw hd wn) H) (hD : va_D A (pfW h k vc vP vO vG pn pD pV pB pX pY sv rc ah be wt iw hd wn)) (hS : va_S A H0 H locs) {n : Nat} {x : Int32} (hn : n < 120) (hdg : decode cc pc = .ok (.bastore, 1)) (hz : vp_nar .boolean x = x) (kk : ∀ (H1 : Heap) (locs1 : List Loc), va_P D vwCl (pfW h k vc vP vO vG pn pD pV pB pX pY sv rc ah be wt (upd iw n x) hd wn) H1 → va_D A (pfW h k vc vP vO vG pn pD pV pB pX pY sv rc ah be wt (upd iw n x) hd wn) → va_S A H0 H1 locs1 → W p l e R s m args below meth c H1 locs1 cells slots Q (F0 m (pc + 1) ls rest)) : W p l e R s m args below meth c H locs cells slots Q (F0 m pc ls (.int x :: .int (nI n) :: .ref (h 13) :: rest)) := by
  refine va_zast hx hb hK hP hD hS 13 12 (cA := k 12) (n := 120) (f := iw) rfl rfl (vp_in_nI hn (by decide)) hdg (fun H1 locs1 hP1 hD1 hS1 => ?_)
  rw [nI_clamp (by omega), hz] at hP1 hD1
  exact kk H1 locs1 hP1 hD1 hS1
end PFW
end
section
abbrev rm_lowBits : Room := { frames := 0, cells := 0, slots := 0, locals := 0 }
set_option maxHeartbeats 4000000 in
set_option maxRecDepth 100000 in
theorem c_lowBits {l : Launch} {D : va_G} {tys : List (ClassId × FieldType)} (x : Int32)  : ct l yX0_lowBits wsX0_lowBits rm_lowBits D vwCl tys [.int x] ([]) (qI D vwCl tys (fun (r : Int32) (u : Unit) => r = lb x) (fun _ => [])) 0 0 := by
  refine ct_of (cc := cX0_lowBits) (maxL := 1) (ret := some .int) (by decide) rfl (Nat.le_of_ble_eq_true rfl) ?_
  intro p e s m below meth c A ls hx hb hr hml hlocks hown hnm hts hA hK hP hD hS hl
  have hown : s.vm.findClass RX0 = some m.cls := hown
  have hl : lv_has ls 1 [(0, .int x)] := hl
  refine lv_iconst (v := 1) hx hb dX0_lowBits_0 (by decide) ?_
  refine lv_iload_n hx hb dX0_lowBits_1 rfl (lv_at hl 0 rfl) ?_
  refine lv_ishl hx hb dX0_lowBits_2 ?_
  refine lv_iconst (v := 1) hx hb dX0_lowBits_3 (by decide) ?_
  refine lv_isub hx hb dX0_lowBits_4 ?_
  exact ret_i hx hb hr hlocks hK hP hD hS dX0_lowBits_5 () rfl (rfl)

abbrev rm_canBeNext : Room := { frames := 0, cells := 0, slots := 0, locals := 0 }
set_option maxHeartbeats 4000000 in
set_option maxRecDepth 100000 in
theorem c_canBeNext {l : Launch} {D : va_G} {tys : List (ClassId × FieldType)} (x : Int32)  : ct l yX0_canBeNext wsX0_canBeNext rm_canBeNext D vwCl tys [.int x] ([]) (qI D vwCl tys (fun (r : Int32) (u : Unit) => (r = 1 ∧ ¬ x < (-1) ∧ ¬ 120 ≤ x) ∨ (r = 0 ∧ ¬ (¬ x < (-1) ∧ ¬ 120 ≤ x))) (fun _ => [])) 0 0 := by
  refine ct_of (cc := cX0_canBeNext) (maxL := 1) (ret := some .boolean) (by decide) rfl (Nat.le_of_ble_eq_true rfl) ?_
  intro p e s m below meth c A ls hx hb hr hml hlocks hown hnm hts hA hK hP hD hS hl
  have hown : s.vm.findClass RX0 = some m.cls := hown
  have hl : lv_has ls 1 [(0, .int x)] := hl
  refine lv_iload_n hx hb dX0_canBeNext_0 rfl (lv_at hl 0 rfl) ?_
  refine lv_iconst (v := (-1)) hx hb dX0_canBeNext_1 (by decide) ?_
  refine lv_icmp_lt (tgt := 15) hx hb dX0_canBeNext_2 (by decide) (fun c2 => ?_) (fun c2 => ?_)
  · -- 2 t lt 
    refine lv_iconst (v := 0) hx hb dX0_canBeNext_15 (by decide) ?_
    exact ret_z hx hb hr hlocks hK hP hD hS dX0_canBeNext_16 () rfl (by decide) (Or.inr ⟨rfl, fun q => q.1 c2⟩)
  · -- 2 f lt 
    refine lv_iload_n hx hb dX0_canBeNext_5 rfl (lv_at hl 0 rfl) ?_
    refine lv_bipush (v := 120) hx hb dX0_canBeNext_6 (by decide) ?_
    refine lv_icmp_ge (tgt := 15) hx hb dX0_canBeNext_8 (by decide) (fun c8 => ?_) (fun c8 => ?_)
    · -- 8 t ge 
      refine lv_iconst (v := 0) hx hb dX0_canBeNext_15 (by decide) ?_
      exact ret_z hx hb hr hlocks hK hP hD hS dX0_canBeNext_16 () rfl (by decide) (Or.inr ⟨rfl, fun q => q.2 c8⟩)
    · -- 8 f ge 
      refine lv_iconst (v := 1) hx hb dX0_canBeNext_11 (by decide) ?_
      refine lv_goto (tgt := 16) hx hb dX0_canBeNext_12 (by decide) ?_
      exact ret_z hx hb hr hlocks hK hP hD hS dX0_canBeNext_16 () rfl (by decide) (Or.inl ⟨rfl, c2, c8⟩)

abbrev rm_isOfSomeParts : Room := { frames := 0, cells := 0, slots := 0, locals := 0 }
set_option maxHeartbeats 4000000 in
set_option maxRecDepth 100000 in
theorem c_isOfSomeParts {l : Launch} {D : va_G} {tys : List (ClassId × FieldType)} (x : Int32)  : ct l yX0_isOfSomeParts wsX0_isOfSomeParts rm_isOfSomeParts D vwCl tys [.int x] ([]) (qI D vwCl tys (fun (r : Int32) (u : Unit) => (r = 1 ∧ (x = 1 ∨ x = 2 ∨ x = 3)) ∨ (r = 0 ∧ ¬ (x = 1 ∨ x = 2 ∨ x = 3))) (fun _ => [])) 0 0 := by
  refine ct_of (cc := cX0_isOfSomeParts) (maxL := 1) (ret := some .boolean) (by decide) rfl (Nat.le_of_ble_eq_true rfl) ?_
  intro p e s m below meth c A ls hx hb hr hml hlocks hown hnm hts hA hK hP hD hS hl
  have hown : s.vm.findClass RX0 = some m.cls := hown
  have hl : lv_has ls 1 [(0, .int x)] := hl
  refine lv_iload_n hx hb dX0_isOfSomeParts_0 rfl (lv_at hl 0 rfl) ?_
  refine lv_iconst (v := 1) hx hb dX0_isOfSomeParts_1 (by decide) ?_
  refine lv_icmp_eq (tgt := 15) hx hb dX0_isOfSomeParts_2 (by decide) (fun c2 => ?_) (fun c2 => ?_)
  · -- 2 t eq 
    refine lv_iconst (v := 1) hx hb dX0_isOfSomeParts_15 (by decide) ?_
    refine lv_goto (tgt := 20) hx hb dX0_isOfSomeParts_16 (by decide) ?_
    exact ret_z hx hb hr hlocks hK hP hD hS dX0_isOfSomeParts_20 () rfl (by decide) (Or.inl ⟨rfl, Or.inl c2⟩)
  · -- 2 f eq 
    refine lv_iload_n hx hb dX0_isOfSomeParts_5 rfl (lv_at hl 0 rfl) ?_
    refine lv_iconst (v := 2) hx hb dX0_isOfSomeParts_6 (by decide) ?_
    refine lv_icmp_eq (tgt := 15) hx hb dX0_isOfSomeParts_7 (by decide) (fun c7 => ?_) (fun c7 => ?_)
    · -- 7 t eq 
      refine lv_iconst (v := 1) hx hb dX0_isOfSomeParts_15 (by decide) ?_
      refine lv_goto (tgt := 20) hx hb dX0_isOfSomeParts_16 (by decide) ?_
      exact ret_z hx hb hr hlocks hK hP hD hS dX0_isOfSomeParts_20 () rfl (by decide) (Or.inl ⟨rfl, Or.inr (Or.inl c7)⟩)
    · -- 7 f eq 
      refine lv_iload_n hx hb dX0_isOfSomeParts_10 rfl (lv_at hl 0 rfl) ?_
      refine lv_iconst (v := 3) hx hb dX0_isOfSomeParts_11 (by decide) ?_
      refine lv_icmp_ne (tgt := 19) hx hb dX0_isOfSomeParts_12 (by decide) (fun c12 => ?_) (fun c12 => ?_)
      · -- 12 t ne 
        refine lv_iconst (v := 0) hx hb dX0_isOfSomeParts_19 (by decide) ?_
        exact ret_z hx hb hr hlocks hK hP hD hS dX0_isOfSomeParts_20 () rfl (by decide) (Or.inr ⟨rfl, fun q => q.elim c2 (fun q => q.elim c7 c12)⟩)
      · -- 12 f ne 
        refine lv_iconst (v := 1) hx hb dX0_isOfSomeParts_15 (by decide) ?_
        refine lv_goto (tgt := 20) hx hb dX0_isOfSomeParts_16 (by decide) ?_
        exact ret_z hx hb hr hlocks hK hP hD hS dX0_isOfSomeParts_20 () rfl (by decide) (Or.inl ⟨rfl, Or.inr (Or.inr c12)⟩)

abbrev rm_wordOf : Room := { frames := 0, cells := 0, slots := 0, locals := 0 }
set_option maxHeartbeats 4000000 in
set_option maxRecDepth 100000 in
theorem c_wordOf {l : Launch} {D : va_G} {tys : List (ClassId × FieldType)} (n : Nat) (hn : n < 2 ^ 31) : ct l yX0_wordOf wsX0_wordOf rm_wordOf D vwCl tys [.int (nI n)] ([]) (qI D vwCl tys (fun (r : Int32) (u : Unit) => r = nI (n / 8)) (fun _ => [])) 0 0 := by
  refine ct_of (cc := cX0_wordOf) (maxL := 1) (ret := some .int) (by decide) rfl (Nat.le_of_ble_eq_true rfl) ?_
  intro p e s m below meth c A ls hx hb hr hml hlocks hown hnm hts hA hK hP hD hS hl
  have hown : s.vm.findClass RX0 = some m.cls := hown
  have hl : lv_has ls 1 [(0, .int (nI n))] := hl
  refine lv_iload_n hx hb dX0_wordOf_0 rfl (lv_at hl 0 rfl) ?_
  refine lv_bipush (v := 8) hx hb dX0_wordOf_1 (by decide) ?_
  refine lv_idiv hx hb dX0_wordOf_3 (by decide) ?_
  exact ret_i hx hb hr hlocks hK hP hD hS dX0_wordOf_4 () rfl (pk_div hn (by decide) (by decide))

abbrev rm_shiftOf : Room := { frames := 0, cells := 0, slots := 0, locals := 0 }
set_option maxHeartbeats 4000000 in
set_option maxRecDepth 100000 in
theorem c_shiftOf {l : Launch} {D : va_G} {tys : List (ClassId × FieldType)} (n : Nat) (hn : n < 2 ^ 31) : ct l yX0_shiftOf wsX0_shiftOf rm_shiftOf D vwCl tys [.int (nI n)] ([]) (qI D vwCl tys (fun (r : Int32) (u : Unit) => r = nI (n % 8 * 8)) (fun _ => [])) 0 0 := by
  refine ct_of (cc := cX0_shiftOf) (maxL := 1) (ret := some .int) (by decide) rfl (Nat.le_of_ble_eq_true rfl) ?_
  intro p e s m below meth c A ls hx hb hr hml hlocks hown hnm hts hA hK hP hD hS hl
  have hown : s.vm.findClass RX0 = some m.cls := hown
  have hl : lv_has ls 1 [(0, .int (nI n))] := hl
  refine lv_iload_n hx hb dX0_shiftOf_0 rfl (lv_at hl 0 rfl) ?_
  refine lv_bipush (v := 8) hx hb dX0_shiftOf_1 (by decide) ?_
  refine lv_irem hx hb dX0_shiftOf_3 (by decide) ?_
  refine lv_topi (fun x_1 ex_1 => ?_)
  obtain rfl : x_1 = nI (n % 8) := ex_1.trans (pk_rem hn (by decide) (by decide))
  refine lv_bipush (v := 8) hx hb dX0_shiftOf_4 (by decide) ?_
  refine lv_imul hx hb dX0_shiftOf_6 ?_
  refine lv_topi (fun x_2 ex_2 => ?_)
  obtain rfl : x_2 = nI ((n % 8) * 8) := ex_2.trans (pk_mul (n % 8) 8)
  exact ret_i hx hb hr hlocks hK hP hD hS dX0_shiftOf_7 () rfl (rfl)

abbrev rm_inWord : Room := { frames := 1, cells := 0, slots := 0, locals := 20 }
theorem cp_inWord_shiftOf : cpS wsX0_inWord RX0 113 yX0_shiftOf wsX0_shiftOf cX0_shiftOf 1 (some .int) 1 := ⟨gX0_inWord_X0_shiftOf, ⟨_, rfl⟩, by decide +kernel⟩
set_option maxHeartbeats 4000000 in
set_option maxRecDepth 100000 in
theorem c_inWord {l : Launch} {D : va_G} {tys : List (ClassId × FieldType)} (n b : Nat) (hn : n < 2 ^ 31) (hb9 : b < 2 ^ 31) : ct l yX0_inWord wsX0_inWord rm_inWord D vwCl tys [.int (nI n), .int (nI b)] ([]) (qL D vwCl tys (fun (r : Int64) (u : Unit) => r = mkw n b) (fun _ => [])) 0 0 := by
  refine ct_of (cc := cX0_inWord) (maxL := 2) (ret := some .long) (by decide) rfl (Nat.le_of_ble_eq_true rfl) ?_
  intro p e s m below meth c A ls hx hb hr hml hlocks hown hnm hts hA hK hP hD hS hl
  have hown : s.vm.findClass RX0 = some m.cls := hown
  have hl : lv_has ls 2 [(0, .int (nI n)), (1, .int (nI b))] := hl
  refine lv_iload_n hx hb dX0_inWord_0 rfl (lv_at hl 1 rfl) ?_
  refine lv_i2l (v := (nI b).toInt64) hx hb dX0_inWord_1 rfl ?_
  refine lv_iload_n hx hb dX0_inWord_2 rfl (lv_at hl 0 rfl) ?_
  refine call_si (As := [.int (nI n)]) (rest := [.long ((nI b).toInt64)]) ⟨hx, hb, hml, hown, hts⟩ (c_shiftOf n hn) cp_inWord_shiftOf ⟨rfl, rfl⟩ ⟨Nat.le_of_ble_eq_true rfl, Nat.le_of_ble_eq_true rfl⟩ rfl hl.1 rfl (Nat.le_of_ble_eq_true rfl) dX0_inWord_3 ⟨Nat.zero_le _, Nat.zero_le _⟩ hK hP hS hA (fun r3 u H locs p3 hP hS => ?_)
  try dsimp only at p3
  obtain rfl := p3
  refine lv_lshl (v := ((nI b).toInt64) <<< ((nI (n % 8 * 8)).toInt64 &&& 63)) hx hb dX0_inWord_6 rfl ?_
  exact ret_l hx hb hr hlocks hK hP hD hS dX0_inWord_7 () rfl (mkw_of hb9)

abbrev rm_isPoint : Room := { frames := 0, cells := 0, slots := 0, locals := 0 }
theorem in_isPoint : ∀ w ∈ u_ws RX0 TX0 18, w ∈ wsX0_isPoint := by decide +kernel
set_option maxHeartbeats 4000000 in
set_option maxRecDepth 100000 in
theorem c_isPoint {l : Launch} {D : va_G} {h : Nat → Nat} {k : Nat → ClassId} {vc pn sv hd wn : Int32} {vP vO vG pD pV pB pX pY rc wt iw : Nat → Int32} {ah be : Nat → Int64} (x : Int32)  : ct l yX0_isPoint wsX0_isPoint rm_isPoint D vwCl (pfT k) [.ref (h 0), .int x] (pfW h k vc vP vO vG pn pD pV pB pX pY sv rc ah be wt iw hd wn) (qI D vwCl (pfT k) (fun (r : Int32) (u : Unit) => (r = 1 ∧ ¬ x < 0 ∧ ¬ pn ≤ x) ∨ (r = 0 ∧ ¬ (¬ x < 0 ∧ ¬ pn ≤ x))) (fun _ => pfW h k vc vP vO vG pn pD pV pB pX pY sv rc ah be wt iw hd wn)) 0 0 := by
  refine ct_of (cc := cX0_isPoint) (maxL := 2) (ret := some .boolean) (by decide) rfl (Nat.le_of_ble_eq_true rfl) ?_
  intro p e s m below meth c A ls hx hb hr hml hlocks hown hnm hts hA hK hP hD hS hl
  have hown : s.vm.findClass RX0 = some m.cls := hown
  have hin := in_isPoint
  have hl : lv_has ls 2 [(0, .ref (h 0)), (1, .int x)] := hl
  refine lv_iload_n hx hb dX0_isPoint_0 rfl (lv_at hl 1 rfl) ?_
  refine lv_if_lt (tgt := 16) hx hb dX0_isPoint_1 (by decide) (fun c1 => ?_) (fun c1 => ?_)
  · -- 1 t lt 
    refine lv_iconst (v := 0) hx hb dX0_isPoint_16 (by decide) ?_
    exact ret_z hx hb hr hlocks hK hP hD hS dX0_isPoint_17 () rfl (by decide) (Or.inr ⟨rfl, fun q => q.1 c1⟩)
  · -- 1 f lt 
    refine lv_iload_n hx hb dX0_isPoint_4 rfl (lv_at hl 1 rfl) ?_
    refine lv_aload_n hx hb dX0_isPoint_5 rfl (lv_at hl 0 rfl) ?_
    refine pf_g_pn hx hb hts hin hown hK hP (by decide +kernel) dX0_isPoint_6 ?_
    refine lv_icmp_ge (tgt := 16) hx hb dX0_isPoint_9 (by decide) (fun c9 => ?_) (fun c9 => ?_)
    · -- 9 t ge 
      refine lv_iconst (v := 0) hx hb dX0_isPoint_16 (by decide) ?_
      exact ret_z hx hb hr hlocks hK hP hD hS dX0_isPoint_17 () rfl (by decide) (Or.inr ⟨rfl, fun q => q.2 c9⟩)
    · -- 9 f ge 
      refine lv_iconst (v := 1) hx hb dX0_isPoint_12 (by decide) ?_
      refine lv_goto (tgt := 17) hx hb dX0_isPoint_13 (by decide) ?_
      exact ret_z hx hb hr hlocks hK hP hD hS dX0_isPoint_17 () rfl (by decide) (Or.inl ⟨rfl, c1, c9⟩)

abbrev rm_isVariable : Room := { frames := 0, cells := 0, slots := 0, locals := 0 }
theorem in_isVariable : ∀ w ∈ u_ws RX0 TX0 18, w ∈ wsX0_isVariable := by decide +kernel
set_option maxHeartbeats 4000000 in
set_option maxRecDepth 100000 in
theorem c_isVariable {l : Launch} {D : va_G} {h : Nat → Nat} {k : Nat → ClassId} {vc pn sv hd wn : Int32} {vP vO vG pD pV pB pX pY rc wt iw : Nat → Int32} {ah be : Nat → Int64} (x : Int32)  : ct l yX0_isVariable wsX0_isVariable rm_isVariable D vwCl (pfT k) [.ref (h 0), .int x] (pfW h k vc vP vO vG pn pD pV pB pX pY sv rc ah be wt iw hd wn) (qI D vwCl (pfT k) (fun (r : Int32) (u : Unit) => (r = 1 ∧ ¬ x < 0 ∧ ¬ vc ≤ x) ∨ (r = 0 ∧ ¬ (¬ x < 0 ∧ ¬ vc ≤ x))) (fun _ => pfW h k vc vP vO vG pn pD pV pB pX pY sv rc ah be wt iw hd wn)) 0 0 := by
  refine ct_of (cc := cX0_isVariable) (maxL := 2) (ret := some .boolean) (by decide) rfl (Nat.le_of_ble_eq_true rfl) ?_
  intro p e s m below meth c A ls hx hb hr hml hlocks hown hnm hts hA hK hP hD hS hl
  have hown : s.vm.findClass RX0 = some m.cls := hown
  have hin := in_isVariable
  have hl : lv_has ls 2 [(0, .ref (h 0)), (1, .int x)] := hl
  refine lv_iload_n hx hb dX0_isVariable_0 rfl (lv_at hl 1 rfl) ?_
  refine lv_if_lt (tgt := 16) hx hb dX0_isVariable_1 (by decide) (fun c1 => ?_) (fun c1 => ?_)
  · -- 1 t lt 
    refine lv_iconst (v := 0) hx hb dX0_isVariable_16 (by decide) ?_
    exact ret_z hx hb hr hlocks hK hP hD hS dX0_isVariable_17 () rfl (by decide) (Or.inr ⟨rfl, fun q => q.1 c1⟩)
  · -- 1 f lt 
    refine lv_iload_n hx hb dX0_isVariable_4 rfl (lv_at hl 1 rfl) ?_
    refine lv_aload_n hx hb dX0_isVariable_5 rfl (lv_at hl 0 rfl) ?_
    refine pf_g_vc hx hb hts hin hown hK hP (by decide +kernel) dX0_isVariable_6 ?_
    refine lv_icmp_ge (tgt := 16) hx hb dX0_isVariable_9 (by decide) (fun c9 => ?_) (fun c9 => ?_)
    · -- 9 t ge 
      refine lv_iconst (v := 0) hx hb dX0_isVariable_16 (by decide) ?_
      exact ret_z hx hb hr hlocks hK hP hD hS dX0_isVariable_17 () rfl (by decide) (Or.inr ⟨rfl, fun q => q.2 c9⟩)
    · -- 9 f ge 
      refine lv_iconst (v := 1) hx hb dX0_isVariable_12 (by decide) ?_
      refine lv_goto (tgt := 17) hx hb dX0_isVariable_13 (by decide) ?_
      exact ret_z hx hb hr hlocks hK hP hD hS dX0_isVariable_17 () rfl (by decide) (Or.inl ⟨rfl, c1, c9⟩)

abbrev rm_allParts : Room := { frames := 1, cells := 0, slots := 0, locals := 20 }
theorem in_allParts : ∀ w ∈ u_ws RX0 TX0 18, w ∈ wsX0_allParts := by decide +kernel
theorem cp_allParts_lowBits : cpS wsX0_allParts RX0 107 yX0_lowBits wsX0_lowBits cX0_lowBits 1 (some .int) 1 := ⟨gX0_allParts_X0_lowBits, ⟨_, rfl⟩, by decide +kernel⟩
set_option maxHeartbeats 4000000 in
set_option maxRecDepth 100000 in
theorem c_allParts {l : Launch} {D : va_G} {h : Nat → Nat} {k : Nat → ClassId} {vc pn sv hd wn : Int32} {vP vO vG pD pV pB pX pY rc wt iw : Nat → Int32} {ah be : Nat → Int64} (n : Nat) (hn : n < 20) : ct l yX0_allParts wsX0_allParts rm_allParts D vwCl (pfT k) [.ref (h 0), .int (nI n)] (pfW h k vc vP vO vG pn pD pV pB pX pY sv rc ah be wt iw hd wn) (qI D vwCl (pfT k) (fun (r : Int32) (u : Unit) => r = lb (vP n)) (fun _ => pfW h k vc vP vO vG pn pD pV pB pX pY sv rc ah be wt iw hd wn)) 0 0 := by
  refine ct_of (cc := cX0_allParts) (maxL := 2) (ret := some .int) (by decide) rfl (Nat.le_of_ble_eq_true rfl) ?_
  intro p e s m below meth c A ls hx hb hr hml hlocks hown hnm hts hA hK hP hD hS hl
  have hown : s.vm.findClass RX0 = some m.cls := hown
  have hin := in_allParts
  have hl : lv_has ls 2 [(0, .ref (h 0)), (1, .int (nI n))] := hl
  refine lv_aload_n hx hb dX0_allParts_0 rfl (lv_at hl 0 rfl) ?_
  refine pf_g_vP hx hb hts hin hown hK hP (by decide +kernel) dX0_allParts_1 ?_
  refine lv_iload_n hx hb dX0_allParts_4 rfl (lv_at hl 1 rfl) ?_
  refine pf_l_vP (n := n) hx hb hK hP (by omega) dX0_allParts_5 ?_
  refine call_si (As := [.int (vP n)]) (rest := []) ⟨hx, hb, hml, hown, hts⟩ (c_lowBits (vP n)) cp_allParts_lowBits ⟨rfl, rfl⟩ ⟨Nat.le_of_ble_eq_true rfl, Nat.le_of_ble_eq_true rfl⟩ rfl hl.1 rfl (Nat.le_of_ble_eq_true rfl) dX0_allParts_6 ⟨Nat.zero_le _, Nat.zero_le _⟩ hK hP hS hA (fun r6 u H locs p6 hP hS => ?_)
  try dsimp only at p6
  exact ret_i hx hb hr hlocks hK hP hD hS dX0_allParts_9 () rfl (p6)
end
section
abbrev rm_addWaiting : Room := { frames := 0, cells := 0, slots := 0, locals := 0 }
theorem in_addWaiting : ∀ w ∈ u_ws RX0 TX0 18, w ∈ wsX0_addWaiting := by decide +kernel
set_option maxHeartbeats 4000000 in
set_option maxRecDepth 100000 in
theorem c_addWaiting {l : Launch} {D : va_G} {h : Nat → Nat} {k : Nat → ClassId} {vc pn sv : Int32} {vP vO vG pD pV pB pX pY rc wt iw : Nat → Int32} {ah be : Nat → Int64} (j hN wN : Nat) (hj : j < 120) (hh : hN < 120) (hw : wN ≤ 120) : ct l yX0_addWaiting wsX0_addWaiting rm_addWaiting D vwCl (pfT k) [.ref (h 0), .int (nI j)] (pfW h k vc vP vO vG pn pD pV pB pX pY sv rc ah be wt iw (nI hN) (nI wN)) (qV D vwCl (pfT k) (fun (u : (Nat → Int32) × (Nat → Int32) × Nat) => Aw iw wt hN wN j u.1 u.2.1 u.2.2) (fun u => pfW h k vc vP vO vG pn pD pV pB pX pY sv rc ah be u.2.1 u.1 (nI hN) (nI u.2.2))) 0 0 := by
  refine ct_of (cc := cX0_addWaiting) (maxL := 2) (ret := none) (by decide) rfl (Nat.le_of_ble_eq_true rfl) ?_
  intro p e s m below meth c A ls hx hb hr hml hlocks hown hnm hts hA hK hP hD hS hl
  have hown : s.vm.findClass RX0 = some m.cls := hown
  have hin := in_addWaiting
  have hl : lv_has ls 2 [(0, .ref (h 0)), (1, .int (nI j))] := hl
  refine lv_aload_n hx hb dX0_addWaiting_0 rfl (lv_at hl 0 rfl) ?_
  refine pf_g_iw hx hb hts hin hown hK hP (by decide +kernel) dX0_addWaiting_1 ?_
  refine lv_iload_n hx hb dX0_addWaiting_4 rfl (lv_at hl 1 rfl) ?_
  refine pf_l_iw (n := j) hx hb hK hP (hj) dX0_addWaiting_5 ?_
  refine lv_if_ne (tgt := 18) hx hb dX0_addWaiting_6 (by decide) (fun c6 => ?_) (fun c6 => ?_)
  · -- 6 t ne 
    exact ret_v hx hb hr hlocks hK hP hD hS dX0_addWaiting_18 (iw, wt, wN) rfl (Or.inl ⟨Or.inl c6, rfl, rfl, rfl⟩)
  · -- 6 f ne 
    refine lv_aload_n hx hb dX0_addWaiting_9 rfl (lv_at hl 0 rfl) ?_
    refine pf_g_wn hx hb hts hin hown hK hP (by decide +kernel) dX0_addWaiting_10 ?_
    refine lv_bipush (v := 120) hx hb dX0_addWaiting_13 (by decide) ?_
    refine lv_icmp_lt (tgt := 19) hx hb dX0_addWaiting_15 (by decide) (fun c15 => ?_) (fun c15 => ?_)
    · -- 15 t lt 
      have n15 : wN < 120 := (nI_ltI (by omega) (by decide)).mp c15
      refine lv_aload_n hx hb dX0_addWaiting_19 rfl (lv_at hl 0 rfl) ?_
      refine pf_g_iw hx hb hts hin hown hK hP (by decide +kernel) dX0_addWaiting_20 ?_
      refine lv_iload_n hx hb dX0_addWaiting_23 rfl (lv_at hl 1 rfl) ?_
      refine lv_iconst (v := 1) hx hb dX0_addWaiting_24 (by decide) ?_
      refine pf_s_iw (n := j) (x := 1) hx hb hK hP hD hS (hj) dX0_addWaiting_25 (by decide) (fun H locs hP hD hS => ?_)
      refine lv_aload_n hx hb dX0_addWaiting_26 rfl (lv_at hl 0 rfl) ?_
      refine pf_g_wt hx hb hts hin hown hK hP (by decide +kernel) dX0_addWaiting_27 ?_
      refine lv_aload_n hx hb dX0_addWaiting_30 rfl (lv_at hl 0 rfl) ?_
      refine pf_g_hd hx hb hts hin hown hK hP (by decide +kernel) dX0_addWaiting_31 ?_
      refine lv_aload_n hx hb dX0_addWaiting_34 rfl (lv_at hl 0 rfl) ?_
      refine pf_g_wn hx hb hts hin hown hK hP (by decide +kernel) dX0_addWaiting_35 ?_
      refine lv_iadd hx hb dX0_addWaiting_38 ?_
      refine lv_topi (fun x_1 ex_1 => ?_)
      obtain rfl : x_1 = nI (hN + wN) := ex_1.trans (nI_add hN wN)
      refine lv_bipush (v := 120) hx hb dX0_addWaiting_39 (by decide) ?_
      refine lv_irem hx hb dX0_addWaiting_41 (by decide) ?_
      refine lv_topi (fun x_2 ex_2 => ?_)
      obtain rfl : x_2 = nI ((hN + wN) % 120) := ex_2.trans (pk_rem (by omega) (by decide) (by decide))
      refine lv_iload_n hx hb dX0_addWaiting_42 rfl (lv_at hl 1 rfl) ?_
      refine pf_s_wt (n := ((hN + wN) % 120)) (x := nI j) hx hb hK hP hD hS (Nat.mod_lt _ (by decide)) dX0_addWaiting_43 (fun H locs hP hD hS => ?_)
      refine lv_aload_n hx hb dX0_addWaiting_44 rfl (lv_at hl 0 rfl) ?_
      refine lv_dup hx hb dX0_addWaiting_45 rfl ?_
      refine pf_g_wn hx hb hts hin hown hK hP (by decide +kernel) dX0_addWaiting_46 ?_
      refine lv_iconst (v := 1) hx hb dX0_addWaiting_49 (by decide) ?_
      refine lv_iadd hx hb dX0_addWaiting_50 ?_
      refine lv_topi (fun x_3 ex_3 => ?_)
      obtain rfl : x_3 = nI (wN + 1) := ex_3.trans (nI_add wN 1)
      refine pf_p_wn hx hb hts hin hown hK hP hD hS (by decide +kernel) dX0_addWaiting_51 (fun H locs hP hD hS => ?_)
      exact ret_v hx hb hr hlocks hK hP hD hS dX0_addWaiting_54 (upd iw j 1, upd wt ((hN + wN) % 120) (nI j), wN + 1) rfl (Or.inr ⟨c6, n15, rfl, rfl, rfl⟩)
    · -- 15 f lt 
      have n15 : ¬ wN < 120 := fun q => c15 ((nI_ltI (by omega) (by decide)).mpr q)
      exact ret_v hx hb hr hlocks hK hP hD hS dX0_addWaiting_18 (iw, wt, wN) rfl (Or.inl ⟨Or.inr (by omega), rfl, rfl, rfl⟩)

abbrev rm_takeWaiting : Room := { frames := 0, cells := 0, slots := 0, locals := 0 }
theorem in_takeWaiting : ∀ w ∈ u_ws RX0 TX0 18, w ∈ wsX0_takeWaiting := by decide +kernel
set_option maxHeartbeats 4000000 in
set_option maxRecDepth 100000 in
theorem c_takeWaiting {l : Launch} {D : va_G} {h : Nat → Nat} {k : Nat → ClassId} {vc pn sv : Int32} {vP vO vG pD pV pB pX pY rc wt iw : Nat → Int32} {ah be : Nat → Int64} (j hN wN : Nat) (hj : j < 120) (hh : hN < 120) (hw : 0 < wN) (hw2 : wN ≤ 120) (hwt : wt hN = nI j) : ct l yX0_takeWaiting wsX0_takeWaiting rm_takeWaiting D vwCl (pfT k) [.ref (h 0)] (pfW h k vc vP vO vG pn pD pV pB pX pY sv rc ah be wt iw (nI hN) (nI wN)) (qI D vwCl (pfT k) (fun (r : Int32) (u : (Nat → Int32) × Nat × Nat) => r = nI j ∧ u.1 = upd iw j 0 ∧ u.2.1 = (hN + 1) % 120 ∧ u.2.2 = wN - 1) (fun u => pfW h k vc vP vO vG pn pD pV pB pX pY sv rc ah be wt u.1 (nI u.2.1) (nI u.2.2))) 0 0 := by
  refine ct_of (cc := cX0_takeWaiting) (maxL := 2) (ret := some .int) (by decide) rfl (Nat.le_of_ble_eq_true rfl) ?_
  intro p e s m below meth c A ls hx hb hr hml hlocks hown hnm hts hA hK hP hD hS hl
  have hown : s.vm.findClass RX0 = some m.cls := hown
  have hin := in_takeWaiting
  have hl : lv_has ls 2 [(0, .ref (h 0))] := hl
  refine lv_aload_n hx hb dX0_takeWaiting_0 rfl (lv_at hl 0 rfl) ?_
  refine pf_g_wt hx hb hts hin hown hK hP (by decide +kernel) dX0_takeWaiting_1 ?_
  refine lv_aload_n hx hb dX0_takeWaiting_4 rfl (lv_at hl 0 rfl) ?_
  refine pf_g_hd hx hb hts hin hown hK hP (by decide +kernel) dX0_takeWaiting_5 ?_
  refine pf_l_wt (n := hN) hx hb hK hP (hh) dX0_takeWaiting_8 ?_
  refine lv_topi (fun x_1 ex_1 => ?_)
  obtain rfl : x_1 = nI j := ex_1.trans (hwt)
  refine lv_istore_n (lv' := [(1, .int (nI j)), (0, .ref (h 0))]) hx hb dX0_takeWaiting_9 rfl hl (by decide) rfl (fun ls hl => ?_)
  refine lv_aload_n hx hb dX0_takeWaiting_10 rfl (lv_at hl 1 rfl) ?_
  refine lv_aload_n hx hb dX0_takeWaiting_11 rfl (lv_at hl 1 rfl) ?_
  refine pf_g_hd hx hb hts hin hown hK hP (by decide +kernel) dX0_takeWaiting_12 ?_
  refine lv_iconst (v := 1) hx hb dX0_takeWaiting_15 (by decide) ?_
  refine lv_iadd hx hb dX0_takeWaiting_16 ?_
  refine lv_topi (fun x_2 ex_2 => ?_)
  obtain rfl : x_2 = nI (hN + 1) := ex_2.trans (nI_add hN 1)
  refine lv_bipush (v := 120) hx hb dX0_takeWaiting_17 (by decide) ?_
  refine lv_irem hx hb dX0_takeWaiting_19 (by decide) ?_
  refine lv_topi (fun x_3 ex_3 => ?_)
  obtain rfl : x_3 = nI ((hN + 1) % 120) := ex_3.trans (pk_rem (by omega) (by decide) (by decide))
  refine pf_p_hd hx hb hts hin hown hK hP hD hS (by decide +kernel) dX0_takeWaiting_20 (fun H locs hP hD hS => ?_)
  refine lv_aload_n hx hb dX0_takeWaiting_23 rfl (lv_at hl 1 rfl) ?_
  refine lv_dup hx hb dX0_takeWaiting_24 rfl ?_
  refine pf_g_wn hx hb hts hin hown hK hP (by decide +kernel) dX0_takeWaiting_25 ?_
  refine lv_iconst (v := 1) hx hb dX0_takeWaiting_28 (by decide) ?_
  refine lv_isub hx hb dX0_takeWaiting_29 ?_
  refine lv_topi (fun x_4 ex_4 => ?_)
  obtain rfl : x_4 = nI (wN - 1) := ex_4.trans (pk_sub (a := wN) (b := 1) (by omega))
  refine pf_p_wn hx hb hts hin hown hK hP hD hS (by decide +kernel) dX0_takeWaiting_30 (fun H locs hP hD hS => ?_)
  refine lv_aload_n hx hb dX0_takeWaiting_33 rfl (lv_at hl 1 rfl) ?_
  refine pf_g_iw hx hb hts hin hown hK hP (by decide +kernel) dX0_takeWaiting_34 ?_
  refine lv_iload_n hx hb dX0_takeWaiting_37 rfl (lv_at hl 0 rfl) ?_
  refine lv_iconst (v := 0) hx hb dX0_takeWaiting_38 (by decide) ?_
  refine pf_s_iw (n := j) (x := 0) hx hb hK hP hD hS (hj) dX0_takeWaiting_39 (by decide) (fun H locs hP hD hS => ?_)
  refine lv_iload_n hx hb dX0_takeWaiting_40 rfl (lv_at hl 0 rfl) ?_
  exact ret_i hx hb hr hlocks hK hP hD hS dX0_takeWaiting_41 (upd iw j 0, (hN + 1) % 120, wN - 1) rfl (⟨rfl, rfl, rfl, rfl⟩)

abbrev rm_passThrough : Room := { frames := 2, cells := 0, slots := 0, locals := 41 }
theorem in_passThrough : ∀ w ∈ u_ws RX0 TX0 18, w ∈ wsX0_passThrough := by decide +kernel
set_option maxHeartbeats 4000000 in
set_option maxRecDepth 100000 in
theorem lp_pass {p : Program} {l : Launch} {e : Env} {s : State} {m : MethodId} {args : Array Value} {below : List Frame} {meth : Method} {c : Code} {A : Nat → Prop} {Q : State → Prop} {D : va_G} {h : Nat → Nat} {k : Nat → ClassId} {vc pn sv hd wn : Int32} {vP vO vG pD pV pB pX pY rc wt iw : Nat → Int32} {ah : Nat → Int64} {j : Nat} (hx : p.tables.exec = Jvm.exec) (hb : c.code = cX0_passThrough) (hml : c.maxLocals = 10) (hown : s.vm.findClass RX0 = some m.cls) (hts : ∀ w ∈ wsX0_passThrough, w.before args s = true) (hA : ∀ q : Nat, s.heap.size ≤ q → A q) (hK : va_K D vwCl (pfT k) s) (hj : j < 120)
    (kk : ∀ (i : Nat) (be : Nat → Int64) (H : Heap) (locs : List Loc) (ls : Array Slot), (∀ w, w < 6 → be w = ah (j * 6 + w)) → va_P D vwCl (pfW h k vc vP vO vG pn pD pV pB pX pY sv rc ah be wt iw hd wn) H → va_D A (pfW h k vc vP vO vG pn pD pV pB pX pY sv rc ah be wt iw hd wn) → va_S A s.heap H locs → lv_has ls 10 [(0, .ref (h 0)), (1, .int (nI j)), (2, .int (nI (j * 6))), (3, .int (nI i))] → W p l e rm_passThrough s m args below meth c H locs 0 0 Q (F0 m 33 ls [])) :
    ∀ (n : Nat) (i : Nat) (be : Nat → Int64) (H : Heap) (locs : List Loc) (ls : Array Slot), (i ≤ 6) → (∀ w, w < i → be w = ah (j * 6 + w)) → 6 - i < n → va_P D vwCl (pfW h k vc vP vO vG pn pD pV pB pX pY sv rc ah be wt iw hd wn) H → va_D A (pfW h k vc vP vO vG pn pD pV pB pX pY sv rc ah be wt iw hd wn) → va_S A s.heap H locs → lv_has ls 10 [(0, .ref (h 0)), (1, .int (nI j)), (2, .int (nI (j * 6))), (3, .int (nI i))] → W p l e rm_passThrough s m args below meth c H locs 0 0 Q (F0 m 7 ls []) := by
  have hin := in_passThrough
  intro n
  induction n with
  | zero =>
    intro i be H locs ls hi hbe hmz
    exact absurd hmz (Nat.not_lt_zero _)
  | succ n ih =>
    intro i be H locs ls hi hbe hmz hP hD hS hl
    refine lv_iload_n hx hb dX0_passThrough_7 rfl (lv_at hl 3 rfl) ?_
    refine lv_bipush (v := 6) hx hb dX0_passThrough_8 (by decide) ?_
    refine lv_icmp_ge (tgt := 33) hx hb dX0_passThrough_10 (by decide) (fun c10 => ?_) (fun c10 => ?_)
    · -- 10 t ge 
      have n10 : 6 ≤ i := (nI_leI (by decide) (by omega)).mp c10
      exact kk i be H locs ls (fun w hw => hbe w (by omega)) hP hD hS (lv_sub hl [0, 1, 2, 3] rfl)
    · -- 10 f ge 
      have n10 : ¬ 6 ≤ i := fun q => c10 ((nI_leI (by decide) (by omega)).mpr q)
      refine lv_aload_n hx hb dX0_passThrough_13 rfl (lv_at hl 0 rfl) ?_
      refine pf_g_be hx hb hts hin hown hK hP (by decide +kernel) dX0_passThrough_14 ?_
      refine lv_iload_n hx hb dX0_passThrough_17 rfl (lv_at hl 3 rfl) ?_
      refine lv_aload_n hx hb dX0_passThrough_18 rfl (lv_at hl 0 rfl) ?_
      refine pf_g_ah hx hb hts hin hown hK hP (by decide +kernel) dX0_passThrough_19 ?_
      refine lv_iload_n hx hb dX0_passThrough_22 rfl (lv_at hl 2 rfl) ?_
      refine lv_iload_n hx hb dX0_passThrough_23 rfl (lv_at hl 3 rfl) ?_
      refine lv_iadd hx hb dX0_passThrough_24 ?_
      refine lv_topi (fun x_1 ex_1 => ?_)
      obtain rfl : x_1 = nI ((j * 6) + i) := ex_1.trans (nI_add (j * 6) i)
      refine pf_l_ah (n := ((j * 6) + i)) hx hb hK hP (by omega) dX0_passThrough_25 ?_
      refine pf_s_be (n := i) (x := ah ((j * 6) + i)) hx hb hK hP hD hS (by omega) dX0_passThrough_26 (fun H locs hP hD hS => ?_)
      refine lv_iinc (v := nI (i + 1)) (lv' := [(3, .int (nI (i + 1))), (0, .ref (h 0)), (1, .int (nI j)), (2, .int (nI (j * 6)))]) hx hb dX0_passThrough_27 hl (k := 3) rfl (nI_add i 1) (by decide) rfl (fun ls hl => ?_)
      refine lv_goto (tgt := 7) hx hb dX0_passThrough_30 (by decide) ?_
      exact ih (i + 1) (vp_updL be i (ah ((j * 6) + i))) H locs ls (by omega) (cp_s hbe) (by omega) hP hD hS (lv_sub hl [1, 2, 3, 0] rfl)

theorem cp_passThrough_inWord : cpS wsX0_passThrough RX0 145 yX0_inWord wsX0_inWord cX0_inWord 2 (some .long) 2 := ⟨gX0_passThrough_X0_inWord, ⟨_, rfl⟩, by decide +kernel⟩
theorem cp_passThrough_wordOf : cpS wsX0_passThrough RX0 119 yX0_wordOf wsX0_wordOf cX0_wordOf 1 (some .int) 1 := ⟨gX0_passThrough_X0_wordOf, ⟨_, rfl⟩, by decide +kernel⟩
set_option maxHeartbeats 4000000 in
set_option maxRecDepth 100000 in
theorem c_passThrough {l : Launch} {D : va_G} {h : Nat → Nat} {k : Nat → ClassId} {vc pn sv hd wn : Int32} {vP vO vG pD pV pB pX pY rc wt iw : Nat → Int32} {ah be : Nat → Int64} (j : Nat) (hj : j < 120) (hv : pV j = nI (tN (pV j))) (hv2 : tN (pV j) < 20) (hbt : pB j = nI (tN (pB j))) (hbt2 : tN (pB j) < 256) : ct l yX0_passThrough wsX0_passThrough rm_passThrough D vwCl (pfT k) [.ref (h 0), .int (nI j)] (pfW h k vc vP vO vG pn pD pV pB pX pY sv rc ah be wt iw hd wn) (qV D vwCl (pfT k) (fun (u : Nat → Int64) => ∀ w, w < 6 → u w = Tw (pD j) (tN (pV j)) (tN (pB j)) w (ah (j * 6 + w))) (fun u => pfW h k vc vP vO vG pn pD pV pB pX pY sv rc ah u wt iw hd wn)) 0 0 := by
  refine ct_of (cc := cX0_passThrough) (maxL := 10) (ret := none) (by decide) rfl (Nat.le_of_ble_eq_true rfl) ?_
  intro p e s m below meth c A ls hx hb hr hml hlocks hown hnm hts hA hK hP hD hS hl
  have hown : s.vm.findClass RX0 = some m.cls := hown
  have hin := in_passThrough
  have hl : lv_has ls 10 [(0, .ref (h 0)), (1, .int (nI j))] := hl
  refine lv_iload_n hx hb dX0_passThrough_0 rfl (lv_at hl 1 rfl) ?_
  refine lv_bipush (v := 6) hx hb dX0_passThrough_1 (by decide) ?_
  refine lv_imul hx hb dX0_passThrough_3 ?_
  refine lv_topi (fun x_1 ex_1 => ?_)
  obtain rfl : x_1 = nI (j * 6) := ex_1.trans (pk_mul j 6)
  refine lv_istore_n (lv' := [(2, .int (nI (j * 6))), (0, .ref (h 0)), (1, .int (nI j))]) hx hb dX0_passThrough_4 rfl hl (by decide) rfl (fun ls hl => ?_)
  refine lv_iconst (v := nI 0) hx hb dX0_passThrough_5 (by decide) ?_
  refine lv_istore_n (lv' := [(3, .int (nI 0)), (2, .int (nI (j * 6))), (0, .ref (h 0)), (1, .int (nI j))]) hx hb dX0_passThrough_6 rfl hl (by decide) rfl (fun ls hl => ?_)
  refine lp_pass hx hb hml hown hts hA hK hj ?_ _ 0 be _ _ ls (Nat.zero_le _) (fun w hw => absurd hw (Nat.not_lt_zero w)) (Nat.lt_succ_self _) hP hD hS (lv_sub hl [2, 3, 1, 0] rfl)
  intro i be H locs ls hbe hP hD hS hl
  refine lv_aload_n hx hb dX0_passThrough_33 rfl (lv_at hl 0 rfl) ?_
  refine pf_g_pD hx hb hts hin hown hK hP (by decide +kernel) dX0_passThrough_34 ?_
  refine lv_iload_n hx hb dX0_passThrough_37 rfl (lv_at hl 1 rfl) ?_
  refine pf_l_pD (n := j) hx hb hK hP (hj) dX0_passThrough_38 ?_
  refine lv_istore_n (lv' := [(3, .int (pD j)), (0, .ref (h 0)), (1, .int (nI j)), (2, .int (nI (j * 6)))]) hx hb dX0_passThrough_39 rfl hl (by decide) rfl (fun ls hl => ?_)
  refine lv_iload_n hx hb dX0_passThrough_40 rfl (lv_at hl 0 rfl) ?_
  refine lv_if_eq (tgt := 49) hx hb dX0_passThrough_41 (by decide) (fun c41 => ?_) (fun c41 => ?_)
  · -- 41 t eq 
    exact ret_v hx hb hr hlocks hK hP hD hS dX0_passThrough_49 be rfl (fun w hw => by rw [hbe w hw]; unfold Tw; rw [if_pos (Or.inl c41)])
  · -- 41 f eq 
    refine lv_iload_n hx hb dX0_passThrough_44 rfl (lv_at hl 0 rfl) ?_
    refine lv_iconst (v := 3) hx hb dX0_passThrough_45 (by decide) ?_
    refine lv_icmp_ne (tgt := 50) hx hb dX0_passThrough_46 (by decide) (fun c46 => ?_) (fun c46 => ?_)
    · -- 46 t ne 
      refine lv_aload_n hx hb dX0_passThrough_50 rfl (lv_at hl 1 rfl) ?_
      refine pf_g_pV hx hb hts hin hown hK hP (by decide +kernel) dX0_passThrough_51 ?_
      refine lv_iload_n hx hb dX0_passThrough_54 rfl (lv_at hl 2 rfl) ?_
      refine pf_l_pV (n := j) hx hb hK hP (hj) dX0_passThrough_55 ?_
      refine lv_topi (fun x_2 ex_2 => ?_)
      obtain rfl : x_2 = nI (tN (pV j)) := ex_2.trans (hv)
      refine lv_istore (lv' := [(4, .int (nI (tN (pV j)))), (3, .int (pD j)), (0, .ref (h 0)), (1, .int (nI j)), (2, .int (nI (j * 6)))]) hx hb dX0_passThrough_56 hl (by decide) rfl (fun ls hl => ?_)
      refine lv_iload hx hb dX0_passThrough_58 (lv_at hl 0 rfl) ?_
      refine lv_aload_n hx hb dX0_passThrough_60 rfl (lv_at hl 2 rfl) ?_
      refine pf_g_pB hx hb hts hin hown hK hP (by decide +kernel) dX0_passThrough_61 ?_
      refine lv_iload_n hx hb dX0_passThrough_64 rfl (lv_at hl 3 rfl) ?_
      refine pf_l_pB (n := j) hx hb hK hP (hj) dX0_passThrough_65 ?_
      refine lv_topi (fun x_3 ex_3 => ?_)
      obtain rfl : x_3 = nI (tN (pB j)) := ex_3.trans (hbt)
      refine call_sl (As := [.int (nI (tN (pV j))), .int (nI (tN (pB j)))]) (rest := []) ⟨hx, hb, hml, hown, hts⟩ (c_inWord (tN (pV j)) (tN (pB j)) (by omega) (by omega)) cp_passThrough_inWord ⟨rfl, rfl⟩ ⟨Nat.le_of_ble_eq_true rfl, Nat.le_of_ble_eq_true rfl⟩ rfl hl.1 rfl (Nat.le_of_ble_eq_true rfl) dX0_passThrough_66 ⟨Nat.zero_le _, Nat.zero_le _⟩ hK hP hS hA (fun r66 u H locs p66 hP hS => ?_)
      try dsimp only at p66
      obtain rfl := p66
      refine lv_lstore (lv' := [(5, .long (mkw (tN (pV j)) (tN (pB j)))), (4, .int (nI (tN (pV j)))), (3, .int (pD j)), (0, .ref (h 0)), (1, .int (nI j)), (2, .int (nI (j * 6)))]) hx hb dX0_passThrough_69 hl (by decide) rfl (fun ls hl => ?_)
      refine lv_iload hx hb dX0_passThrough_71 (lv_at hl 1 rfl) ?_
      refine call_si (As := [.int (nI (tN (pV j)))]) (rest := []) ⟨hx, hb, hml, hown, hts⟩ (c_wordOf (tN (pV j)) (by omega)) cp_passThrough_wordOf ⟨rfl, rfl⟩ ⟨Nat.le_of_ble_eq_true rfl, Nat.le_of_ble_eq_true rfl⟩ rfl hl.1 rfl (Nat.le_of_ble_eq_true rfl) dX0_passThrough_73 ⟨Nat.zero_le _, Nat.zero_le _⟩ hK hP hS hA (fun r73 u H locs p73 hP hS => ?_)
      try dsimp only at p73
      obtain rfl := p73
      refine lv_istore (lv' := [(7, .int (nI (tN (pV j) / 8))), (5, .long (mkw (tN (pV j)) (tN (pB j)))), (4, .int (nI (tN (pV j)))), (3, .int (pD j)), (0, .ref (h 0)), (1, .int (nI j)), (2, .int (nI (j * 6)))]) hx hb dX0_passThrough_76 hl (by decide) rfl (fun ls hl => ?_)
      refine lv_iload_n hx hb dX0_passThrough_78 rfl (lv_at hl 3 rfl) ?_
      refine lv_iconst (v := 1) hx hb dX0_passThrough_79 (by decide) ?_
      refine lv_icmp_ne (tgt := 87) hx hb dX0_passThrough_80 (by decide) (fun c80 => ?_) (fun c80 => ?_)
      · -- 80 t ne 
        refine lv_iconst (v := nI 0) hx hb dX0_passThrough_87 (by decide) ?_
        refine lv_istore (lv' := [(8, .int (nI 0)), (7, .int (nI (tN (pV j) / 8))), (5, .long (mkw (tN (pV j)) (tN (pB j)))), (4, .int (nI (tN (pV j)))), (3, .int (pD j)), (0, .ref (h 0)), (1, .int (nI j)), (2, .int (nI (j * 6)))]) hx hb dX0_passThrough_88 hl (by decide) rfl (fun ls hl => ?_)
        refine lv_iload_n hx hb dX0_passThrough_90 rfl (lv_at hl 4 rfl) ?_
        refine lv_iconst (v := 1) hx hb dX0_passThrough_91 (by decide) ?_
        refine lv_icmp_ne (tgt := 99) hx hb dX0_passThrough_92 (by decide) (fun c92 => ?_) (fun c92 => ?_)
        · -- 92 t ne 
          refine lv_iconst (v := nI 3) hx hb dX0_passThrough_99 (by decide) ?_
          refine lv_istore (lv' := [(9, .int (nI 3)), (8, .int (nI 0)), (7, .int (nI (tN (pV j) / 8))), (5, .long (mkw (tN (pV j)) (tN (pB j)))), (4, .int (nI (tN (pV j)))), (3, .int (pD j)), (0, .ref (h 0)), (1, .int (nI j)), (2, .int (nI (j * 6)))]) hx hb dX0_passThrough_100 hl (by decide) rfl (fun ls hl => ?_)
          refine lv_aload_n hx hb dX0_passThrough_102 rfl (lv_at hl 6 rfl) ?_
          refine pf_g_be hx hb hts hin hown hK hP (by decide +kernel) dX0_passThrough_103 ?_
          refine lv_iload hx hb dX0_passThrough_106 (lv_at hl 1 rfl) ?_
          refine lv_iload hx hb dX0_passThrough_108 (lv_at hl 2 rfl) ?_
          refine lv_iadd hx hb dX0_passThrough_110 ?_
          refine lv_topi (fun x_4 ex_4 => ?_)
          obtain rfl : x_4 = nI (0 + (tN (pV j) / 8)) := ex_4.trans (nI_add 0 (tN (pV j) / 8))
          refine lv_dup2_11 hx hb dX0_passThrough_111 rfl rfl ?_
          refine pf_l_be (n := (0 + (tN (pV j) / 8))) hx hb hK hP (by omega) dX0_passThrough_112 ?_
          refine lv_lload hx hb dX0_passThrough_113 (lv_at hl 3 rfl) ?_
          refine lv_lor hx hb dX0_passThrough_115 ?_
          refine pf_s_be (n := (0 + (tN (pV j) / 8))) (x := (be (0 + (tN (pV j) / 8))) ||| (mkw (tN (pV j)) (tN (pB j)))) hx hb hK hP hD hS (by omega) dX0_passThrough_116 (fun H locs hP hD hS => ?_)
          refine lv_aload_n hx hb dX0_passThrough_117 rfl (lv_at hl 6 rfl) ?_
          refine pf_g_be hx hb hts hin hown hK hP (by decide +kernel) dX0_passThrough_118 ?_
          refine lv_iload hx hb dX0_passThrough_121 (lv_at hl 0 rfl) ?_
          refine lv_iload hx hb dX0_passThrough_123 (lv_at hl 2 rfl) ?_
          refine lv_iadd hx hb dX0_passThrough_125 ?_
          refine lv_topi (fun x_5 ex_5 => ?_)
          obtain rfl : x_5 = nI (3 + (tN (pV j) / 8)) := ex_5.trans (nI_add 3 (tN (pV j) / 8))
          refine lv_dup2_11 hx hb dX0_passThrough_126 rfl rfl ?_
          refine pf_l_be (n := (3 + (tN (pV j) / 8))) hx hb hK hP (by omega) dX0_passThrough_127 ?_
          refine lv_lload hx hb dX0_passThrough_128 (lv_at hl 3 rfl) ?_
          refine lv_ldc2 (v := (-1)) hx hb hown (hts (.constantLong RX0 149 (-1)) (by decide +kernel)) dX0_passThrough_130 ?_
          refine lv_lxor hx hb dX0_passThrough_133 ?_
          refine lv_land hx hb dX0_passThrough_134 ?_
          refine pf_s_be (n := (3 + (tN (pV j) / 8))) (x := ((vp_updL be (0 + (tN (pV j) / 8)) ((be (0 + (tN (pV j) / 8))) ||| (mkw (tN (pV j)) (tN (pB j))))) (3 + (tN (pV j) / 8))) &&& ((mkw (tN (pV j)) (tN (pB j))) ^^^ (-1))) hx hb hK hP hD hS (by omega) dX0_passThrough_135 (fun H locs hP hD hS => ?_)
          exact ret_v hx hb hr hlocks hK hP hD hS dX0_passThrough_136 (vp_updL (vp_updL be (0 + (tN (pV j) / 8)) ((be (0 + (tN (pV j) / 8))) ||| (mkw (tN (pV j)) (tN (pB j))))) (3 + (tN (pV j) / 8)) (((vp_updL be (0 + (tN (pV j) / 8)) ((be (0 + (tN (pV j) / 8))) ||| (mkw (tN (pV j)) (tN (pB j))))) (3 + (tN (pV j) / 8))) &&& ((mkw (tN (pV j)) (tN (pB j))) ^^^ (-1)))) rfl (pt_end hbe (fun q => q.elim c41 c46) hv2 (by rw [if_neg c80]) (by rw [if_neg c80]))
        · -- 92 f ne 
          exact absurd c92 c80
      · -- 80 f ne 
        refine lv_iconst (v := nI 3) hx hb dX0_passThrough_83 (by decide) ?_
        refine lv_goto (tgt := 88) hx hb dX0_passThrough_84 (by decide) ?_
        refine lv_istore (lv' := [(8, .int (nI 3)), (7, .int (nI (tN (pV j) / 8))), (5, .long (mkw (tN (pV j)) (tN (pB j)))), (4, .int (nI (tN (pV j)))), (3, .int (pD j)), (0, .ref (h 0)), (1, .int (nI j)), (2, .int (nI (j * 6)))]) hx hb dX0_passThrough_88 hl (by decide) rfl (fun ls hl => ?_)
        refine lv_iload_n hx hb dX0_passThrough_90 rfl (lv_at hl 4 rfl) ?_
        refine lv_iconst (v := 1) hx hb dX0_passThrough_91 (by decide) ?_
        refine lv_icmp_ne (tgt := 99) hx hb dX0_passThrough_92 (by decide) (fun c92 => ?_) (fun c92 => ?_)
        · -- 92 t ne 
          exact absurd c80 c92
        · -- 92 f ne 
          refine lv_iconst (v := nI 0) hx hb dX0_passThrough_95 (by decide) ?_
          refine lv_goto (tgt := 100) hx hb dX0_passThrough_96 (by decide) ?_
          refine lv_istore (lv' := [(9, .int (nI 0)), (8, .int (nI 3)), (7, .int (nI (tN (pV j) / 8))), (5, .long (mkw (tN (pV j)) (tN (pB j)))), (4, .int (nI (tN (pV j)))), (3, .int (pD j)), (0, .ref (h 0)), (1, .int (nI j)), (2, .int (nI (j * 6)))]) hx hb dX0_passThrough_100 hl (by decide) rfl (fun ls hl => ?_)
          refine lv_aload_n hx hb dX0_passThrough_102 rfl (lv_at hl 6 rfl) ?_
          refine pf_g_be hx hb hts hin hown hK hP (by decide +kernel) dX0_passThrough_103 ?_
          refine lv_iload hx hb dX0_passThrough_106 (lv_at hl 1 rfl) ?_
          refine lv_iload hx hb dX0_passThrough_108 (lv_at hl 2 rfl) ?_
          refine lv_iadd hx hb dX0_passThrough_110 ?_
          refine lv_topi (fun x_6 ex_6 => ?_)
          obtain rfl : x_6 = nI (3 + (tN (pV j) / 8)) := ex_6.trans (nI_add 3 (tN (pV j) / 8))
          refine lv_dup2_11 hx hb dX0_passThrough_111 rfl rfl ?_
          refine pf_l_be (n := (3 + (tN (pV j) / 8))) hx hb hK hP (by omega) dX0_passThrough_112 ?_
          refine lv_lload hx hb dX0_passThrough_113 (lv_at hl 3 rfl) ?_
          refine lv_lor hx hb dX0_passThrough_115 ?_
          refine pf_s_be (n := (3 + (tN (pV j) / 8))) (x := (be (3 + (tN (pV j) / 8))) ||| (mkw (tN (pV j)) (tN (pB j)))) hx hb hK hP hD hS (by omega) dX0_passThrough_116 (fun H locs hP hD hS => ?_)
          refine lv_aload_n hx hb dX0_passThrough_117 rfl (lv_at hl 6 rfl) ?_
          refine pf_g_be hx hb hts hin hown hK hP (by decide +kernel) dX0_passThrough_118 ?_
          refine lv_iload hx hb dX0_passThrough_121 (lv_at hl 0 rfl) ?_
          refine lv_iload hx hb dX0_passThrough_123 (lv_at hl 2 rfl) ?_
          refine lv_iadd hx hb dX0_passThrough_125 ?_
          refine lv_topi (fun x_7 ex_7 => ?_)
          obtain rfl : x_7 = nI (0 + (tN (pV j) / 8)) := ex_7.trans (nI_add 0 (tN (pV j) / 8))
          refine lv_dup2_11 hx hb dX0_passThrough_126 rfl rfl ?_
          refine pf_l_be (n := (0 + (tN (pV j) / 8))) hx hb hK hP (by omega) dX0_passThrough_127 ?_
          refine lv_lload hx hb dX0_passThrough_128 (lv_at hl 3 rfl) ?_
          refine lv_ldc2 (v := (-1)) hx hb hown (hts (.constantLong RX0 149 (-1)) (by decide +kernel)) dX0_passThrough_130 ?_
          refine lv_lxor hx hb dX0_passThrough_133 ?_
          refine lv_land hx hb dX0_passThrough_134 ?_
          refine pf_s_be (n := (0 + (tN (pV j) / 8))) (x := ((vp_updL be (3 + (tN (pV j) / 8)) ((be (3 + (tN (pV j) / 8))) ||| (mkw (tN (pV j)) (tN (pB j))))) (0 + (tN (pV j) / 8))) &&& ((mkw (tN (pV j)) (tN (pB j))) ^^^ (-1))) hx hb hK hP hD hS (by omega) dX0_passThrough_135 (fun H locs hP hD hS => ?_)
          exact ret_v hx hb hr hlocks hK hP hD hS dX0_passThrough_136 (vp_updL (vp_updL be (3 + (tN (pV j) / 8)) ((be (3 + (tN (pV j) / 8))) ||| (mkw (tN (pV j)) (tN (pB j))))) (0 + (tN (pV j) / 8)) (((vp_updL be (3 + (tN (pV j) / 8)) ((be (3 + (tN (pV j) / 8))) ||| (mkw (tN (pV j)) (tN (pB j))))) (0 + (tN (pV j) / 8))) &&& ((mkw (tN (pV j)) (tN (pB j))) ^^^ (-1)))) rfl (pt_end hbe (fun q => q.elim c41 c46) hv2 (by rw [if_pos c80]) (by rw [if_pos c80]))
    · -- 46 f ne 
      exact ret_v hx hb hr hlocks hK hP hD hS dX0_passThrough_49 be rfl (fun w hw => by rw [hbe w hw]; unfold Tw; rw [if_pos (Or.inr c46)])

abbrev rm_goOnTo : Room := { frames := 1, cells := 0, slots := 0, locals := 21 }
theorem in_goOnTo : ∀ w ∈ u_ws RX0 TX0 18, w ∈ wsX0_goOnTo := by decide +kernel
set_option maxHeartbeats 4000000 in
set_option maxRecDepth 100000 in
theorem lp_go {p : Program} {l : Launch} {e : Env} {s : State} {m : MethodId} {args : Array Value} {below : List Frame} {meth : Method} {c : Code} {A : Nat → Prop} {Q : State → Prop} {D : va_G} {h : Nat → Nat} {k : Nat → ClassId} {vc pn sv hd wn : Int32} {vP vO vG pD pV pB pX pY rc wt iw : Nat → Int32} {be : Nat → Int64} {j : Nat} {ah0 : Nat → Int64} {c0 : Int32} (hx : p.tables.exec = Jvm.exec) (hb : c.code = cX0_goOnTo) (hml : c.maxLocals = 7) (hown : s.vm.findClass RX0 = some m.cls) (hts : ∀ w ∈ wsX0_goOnTo, w.before args s = true) (hA : ∀ q : Nat, s.heap.size ≤ q → A q) (hK : va_K D vwCl (pfT k) s) (hj : j < 120)
    (kk : ∀ (i : Nat) (ch : Int32) (ah : Nat → Int64) (H : Heap) (locs : List Loc) (ls : Array Slot), (Jp be ah0 j 6 ah) → (Jc be ah0 j 6 c0 ch) → va_P D vwCl (pfW h k vc vP vO vG pn pD pV pB pX pY sv rc ah be wt iw hd wn) H → va_D A (pfW h k vc vP vO vG pn pD pV pB pX pY sv rc ah be wt iw hd wn) → va_S A s.heap H locs → lv_has ls 7 [(0, .ref (h 0)), (1, .int (nI j)), (2, .int ch), (3, .int (nI (j * 6))), (4, .int (nI i))] → W p l e rm_goOnTo s m args below meth c H locs 0 0 Q (F0 m 107 ls [])) :
    ∀ (n : Nat) (i : Nat) (ch : Int32) (ah : Nat → Int64) (H : Heap) (locs : List Loc) (ls : Array Slot), (i ≤ 6) → (Jp be ah0 j i ah) → (Jc be ah0 j i c0 ch) → 6 - i < n → va_P D vwCl (pfW h k vc vP vO vG pn pD pV pB pX pY sv rc ah be wt iw hd wn) H → va_D A (pfW h k vc vP vO vG pn pD pV pB pX pY sv rc ah be wt iw hd wn) → va_S A s.heap H locs → lv_has ls 7 [(0, .ref (h 0)), (1, .int (nI j)), (2, .int ch), (3, .int (nI (j * 6))), (4, .int (nI i))] → W p l e rm_goOnTo s m args below meth c H locs 0 0 Q (F0 m 39 ls []) := by
  have hin := in_goOnTo
  intro n
  induction n with
  | zero =>
    intro i ch ah H locs ls hi hJ hC hmz
    exact absurd hmz (Nat.not_lt_zero _)
  | succ n ih =>
    intro i ch ah H locs ls hi hJ hC hmz hP hD hS hl
    refine lv_iload hx hb dX0_goOnTo_39 (lv_at hl 4 rfl) ?_
    refine lv_bipush (v := 6) hx hb dX0_goOnTo_41 (by decide) ?_
    refine lv_icmp_ge (tgt := 107) hx hb dX0_goOnTo_43 (by decide) (fun c43 => ?_) (fun c43 => ?_)
    · -- 43 t ge 
      have n43 : i = 6 := by
        have h6 : 6 ≤ i := (nI_leI (by decide) (by omega)).mp c43
        omega
      exact kk i ch ah H locs ls (n43 ▸ hJ) (n43 ▸ hC) hP hD hS (lv_sub hl [0, 1, 2, 3, 4] rfl)
    · -- 43 f ge 
      have n43 : ¬ 6 ≤ i := fun q => c43 ((nI_leI (by decide) (by omega)).mpr q)
      refine lv_aload_n hx hb dX0_goOnTo_46 rfl (lv_at hl 0 rfl) ?_
      refine pf_g_ah hx hb hts hin hown hK hP (by decide +kernel) dX0_goOnTo_47 ?_
      refine lv_iload_n hx hb dX0_goOnTo_50 rfl (lv_at hl 3 rfl) ?_
      refine lv_iload hx hb dX0_goOnTo_51 (lv_at hl 4 rfl) ?_
      refine lv_iadd hx hb dX0_goOnTo_53 ?_
      refine lv_topi (fun x_1 ex_1 => ?_)
      obtain rfl : x_1 = nI ((j * 6) + i) := ex_1.trans (nI_add (j * 6) i)
      refine pf_l_ah (n := ((j * 6) + i)) hx hb hK hP (by omega) dX0_goOnTo_54 ?_
      refine lv_aload_n hx hb dX0_goOnTo_55 rfl (lv_at hl 0 rfl) ?_
      refine pf_g_be hx hb hts hin hown hK hP (by decide +kernel) dX0_goOnTo_56 ?_
      refine lv_iload hx hb dX0_goOnTo_59 (lv_at hl 4 rfl) ?_
      refine pf_l_be (n := i) hx hb hK hP (by omega) dX0_goOnTo_61 ?_
      refine lv_lor hx hb dX0_goOnTo_62 ?_
      refine lv_lstore (lv' := [(5, .long ((ah ((j * 6) + i)) ||| (be i))), (0, .ref (h 0)), (1, .int (nI j)), (2, .int ch), (3, .int (nI (j * 6))), (4, .int (nI i))]) hx hb dX0_goOnTo_63 hl (by decide) rfl (fun ls hl => ?_)
      refine lv_iload_n hx hb dX0_goOnTo_65 rfl (lv_at hl 3 rfl) ?_
      refine lv_if_ne (tgt := 84) hx hb dX0_goOnTo_66 (by decide) (fun c66 => ?_) (fun c66 => ?_)
      · -- 66 t ne 
        refine lv_iconst (v := 1) hx hb dX0_goOnTo_84 (by decide) ?_
        refine lv_goto (tgt := 89) hx hb dX0_goOnTo_85 (by decide) ?_
        refine lv_istore_n (lv' := [(2, .int 1), (5, .long ((ah ((j * 6) + i)) ||| (be i))), (0, .ref (h 0)), (1, .int (nI j)), (3, .int (nI (j * 6))), (4, .int (nI i))]) hx hb dX0_goOnTo_89 rfl hl (by decide) rfl (fun ls hl => ?_)
        refine lv_aload_n hx hb dX0_goOnTo_90 rfl (lv_at hl 2 rfl) ?_
        refine pf_g_ah hx hb hts hin hown hK hP (by decide +kernel) dX0_goOnTo_91 ?_
        refine lv_iload_n hx hb dX0_goOnTo_94 rfl (lv_at hl 4 rfl) ?_
        refine lv_iload hx hb dX0_goOnTo_95 (lv_at hl 5 rfl) ?_
        refine lv_iadd hx hb dX0_goOnTo_97 ?_
        refine lv_topi (fun x_2 ex_2 => ?_)
        obtain rfl : x_2 = nI ((j * 6) + i) := ex_2.trans (nI_add (j * 6) i)
        refine lv_lload hx hb dX0_goOnTo_98 (lv_at hl 1 rfl) ?_
        refine pf_s_ah (n := ((j * 6) + i)) (x := (ah ((j * 6) + i)) ||| (be i)) hx hb hK hP hD hS (by omega) dX0_goOnTo_100 (fun H locs hP hD hS => ?_)
        refine lv_iinc (v := nI (i + 1)) (lv' := [(4, .int (nI (i + 1))), (2, .int 1), (5, .long ((ah ((j * 6) + i)) ||| (be i))), (0, .ref (h 0)), (1, .int (nI j)), (3, .int (nI (j * 6)))]) hx hb dX0_goOnTo_101 hl (k := 5) rfl (nI_add i 1) (by decide) rfl (fun ls hl => ?_)
        refine lv_goto (tgt := 39) hx hb dX0_goOnTo_104 (by decide) ?_
        exact ih (i + 1) 1 (vp_updL ah ((j * 6) + i) ((ah ((j * 6) + i)) ||| (be i))) H locs ls (by omega) (Jp_s hJ) (Jc_1 hC c66) (by omega) hP hD hS (lv_sub hl [3, 4, 1, 5, 0] rfl)
      · -- 66 f ne 
        refine lv_lload hx hb dX0_goOnTo_69 (lv_at hl 0 rfl) ?_
        refine lv_aload_n hx hb dX0_goOnTo_71 rfl (lv_at hl 1 rfl) ?_
        refine pf_g_ah hx hb hts hin hown hK hP (by decide +kernel) dX0_goOnTo_72 ?_
        refine lv_iload_n hx hb dX0_goOnTo_75 rfl (lv_at hl 4 rfl) ?_
        refine lv_iload hx hb dX0_goOnTo_76 (lv_at hl 5 rfl) ?_
        refine lv_iadd hx hb dX0_goOnTo_78 ?_
        refine lv_topi (fun x_3 ex_3 => ?_)
        obtain rfl : x_3 = nI ((j * 6) + i) := ex_3.trans (nI_add (j * 6) i)
        refine pf_l_ah (n := ((j * 6) + i)) hx hb hK hP (by omega) dX0_goOnTo_79 ?_
        refine W.lcmp hx hb dX0_goOnTo_80 ?_
        refine lv_if_eq (tgt := 88) hx hb dX0_goOnTo_81 (by decide) (fun c81 => ?_) (fun c81 => ?_)
        · -- 81 t eq 
          refine lv_iconst (v := 0) hx hb dX0_goOnTo_88 (by decide) ?_
          refine lv_istore_n (lv' := [(2, .int 0), (5, .long ((ah ((j * 6) + i)) ||| (be i))), (0, .ref (h 0)), (1, .int (nI j)), (3, .int (nI (j * 6))), (4, .int (nI i))]) hx hb dX0_goOnTo_89 rfl hl (by decide) rfl (fun ls hl => ?_)
          refine lv_aload_n hx hb dX0_goOnTo_90 rfl (lv_at hl 2 rfl) ?_
          refine pf_g_ah hx hb hts hin hown hK hP (by decide +kernel) dX0_goOnTo_91 ?_
          refine lv_iload_n hx hb dX0_goOnTo_94 rfl (lv_at hl 4 rfl) ?_
          refine lv_iload hx hb dX0_goOnTo_95 (lv_at hl 5 rfl) ?_
          refine lv_iadd hx hb dX0_goOnTo_97 ?_
          refine lv_topi (fun x_4 ex_4 => ?_)
          obtain rfl : x_4 = nI ((j * 6) + i) := ex_4.trans (nI_add (j * 6) i)
          refine lv_lload hx hb dX0_goOnTo_98 (lv_at hl 1 rfl) ?_
          refine pf_s_ah (n := ((j * 6) + i)) (x := (ah ((j * 6) + i)) ||| (be i)) hx hb hK hP hD hS (by omega) dX0_goOnTo_100 (fun H locs hP hD hS => ?_)
          refine lv_iinc (v := nI (i + 1)) (lv' := [(4, .int (nI (i + 1))), (2, .int 0), (5, .long ((ah ((j * 6) + i)) ||| (be i))), (0, .ref (h 0)), (1, .int (nI j)), (3, .int (nI (j * 6)))]) hx hb dX0_goOnTo_101 hl (k := 5) rfl (nI_add i 1) (by decide) rfl (fun ls hl => ?_)
          refine lv_goto (tgt := 39) hx hb dX0_goOnTo_104 (by decide) ?_
          exact ih (i + 1) 0 (vp_updL ah ((j * 6) + i) ((ah ((j * 6) + i)) ||| (be i))) H locs ls (by omega) (Jp_s hJ) (Jc_3 hJ hC c66 c81) (by omega) hP hD hS (lv_sub hl [3, 4, 1, 5, 0] rfl)
        · -- 81 f eq 
          refine lv_iconst (v := 1) hx hb dX0_goOnTo_84 (by decide) ?_
          refine lv_goto (tgt := 89) hx hb dX0_goOnTo_85 (by decide) ?_
          refine lv_istore_n (lv' := [(2, .int 1), (5, .long ((ah ((j * 6) + i)) ||| (be i))), (0, .ref (h 0)), (1, .int (nI j)), (3, .int (nI (j * 6))), (4, .int (nI i))]) hx hb dX0_goOnTo_89 rfl hl (by decide) rfl (fun ls hl => ?_)
          refine lv_aload_n hx hb dX0_goOnTo_90 rfl (lv_at hl 2 rfl) ?_
          refine pf_g_ah hx hb hts hin hown hK hP (by decide +kernel) dX0_goOnTo_91 ?_
          refine lv_iload_n hx hb dX0_goOnTo_94 rfl (lv_at hl 4 rfl) ?_
          refine lv_iload hx hb dX0_goOnTo_95 (lv_at hl 5 rfl) ?_
          refine lv_iadd hx hb dX0_goOnTo_97 ?_
          refine lv_topi (fun x_5 ex_5 => ?_)
          obtain rfl : x_5 = nI ((j * 6) + i) := ex_5.trans (nI_add (j * 6) i)
          refine lv_lload hx hb dX0_goOnTo_98 (lv_at hl 1 rfl) ?_
          refine pf_s_ah (n := ((j * 6) + i)) (x := (ah ((j * 6) + i)) ||| (be i)) hx hb hK hP hD hS (by omega) dX0_goOnTo_100 (fun H locs hP hD hS => ?_)
          refine lv_iinc (v := nI (i + 1)) (lv' := [(4, .int (nI (i + 1))), (2, .int 1), (5, .long ((ah ((j * 6) + i)) ||| (be i))), (0, .ref (h 0)), (1, .int (nI j)), (3, .int (nI (j * 6)))]) hx hb dX0_goOnTo_101 hl (k := 5) rfl (nI_add i 1) (by decide) rfl (fun ls hl => ?_)
          refine lv_goto (tgt := 39) hx hb dX0_goOnTo_104 (by decide) ?_
          exact ih (i + 1) 1 (vp_updL ah ((j * 6) + i) ((ah ((j * 6) + i)) ||| (be i))) H locs ls (by omega) (Jp_s hJ) (Jc_2 hJ c81 (ch := ch)) (by omega) hP hD hS (lv_sub hl [3, 4, 1, 5, 0] rfl)

theorem cp_goOnTo_addWaiting : cpV wsX0_goOnTo RX0 151 RX0 yX0_addWaiting wsX0_addWaiting cX0_addWaiting 2 none 1 := ⟨gX0_goOnTo_X0_addWaiting, ⟨_, rfl⟩, by decide +kernel⟩
theorem cp_goOnTo_isPoint : cpV wsX0_goOnTo RX0 70 RX0 yX0_isPoint wsX0_isPoint cX0_isPoint 2 (some .boolean) 1 := ⟨gX0_goOnTo_X0_isPoint, ⟨_, rfl⟩, by decide +kernel⟩
set_option maxHeartbeats 4000000 in
set_option maxRecDepth 100000 in
theorem c_goOnTo {l : Launch} {D : va_G} {h : Nat → Nat} {k : Nat → ClassId} {vc sv : Int32} {vP vO vG pD pV pB pX pY rc wt iw : Nat → Int32} {ah be : Nat → Int64} (x : Int32) (np hN wN : Nat) (hn : np ≤ 120) (hh : hN < 120) (hw : wN ≤ 120) : ct l yX0_goOnTo wsX0_goOnTo rm_goOnTo D vwCl (pfT k) [.ref (h 0), .int x] (pfW h k vc vP vO vG (nI np) pD pV pB pX pY sv rc ah be wt iw (nI hN) (nI wN)) (qV D vwCl (pfT k) (fun (u : (Nat → Int32) × (Nat → Int32) × (Nat → Int32) × (Nat → Int64) × Nat) => GoX np be x rc iw wt ah hN wN u.1 u.2.1 u.2.2.1 u.2.2.2.1 u.2.2.2.2) (fun u => pfW h k vc vP vO vG (nI np) pD pV pB pX pY sv u.1 u.2.2.2.1 be u.2.2.1 u.2.1 (nI hN) (nI u.2.2.2.2))) 0 0 := by
  refine ct_of (cc := cX0_goOnTo) (maxL := 7) (ret := none) (by decide) rfl (Nat.le_of_ble_eq_true rfl) ?_
  intro p e s m below meth c A ls hx hb hr hml hlocks hown hnm hts hA hK hP hD hS hl
  have hown : s.vm.findClass RX0 = some m.cls := hown
  have hin := in_goOnTo
  have hl : lv_has ls 7 [(0, .ref (h 0)), (1, .int x)] := hl
  refine lv_aload_n hx hb dX0_goOnTo_0 rfl (lv_at hl 0 rfl) ?_
  refine lv_iload_n hx hb dX0_goOnTo_1 rfl (lv_at hl 1 rfl) ?_
  refine call_vi (As := [.int x]) (rest := []) ⟨hx, hb, hml, hown, hts⟩ (c_isPoint x) cp_goOnTo_isPoint ⟨rfl, rfl⟩ ⟨Nat.le_of_ble_eq_true rfl, Nat.le_of_ble_eq_true rfl⟩ rfl rfl 0 rfl rfl hl.1 rfl (Nat.le_of_ble_eq_true rfl) dX0_goOnTo_2 ⟨Nat.zero_le _, Nat.zero_le _⟩ hK hP hD hS hA (fun r2 u H locs p2 hP hD hS => ?_)
  try dsimp only at p2
  refine lv_if_ne (tgt := 9) hx hb dX0_goOnTo_5 (by decide) (fun c5 => ?_) (fun c5 => ?_)
  · -- 5 t ne 
    obtain ⟨j, hj, rfl⟩ := pt_in rfl hn p2 c5
    refine lv_aload_n hx hb dX0_goOnTo_9 rfl (lv_at hl 0 rfl) ?_
    refine pf_g_rc hx hb hts hin hown hK hP (by decide +kernel) dX0_goOnTo_10 ?_
    refine lv_iload_n hx hb dX0_goOnTo_13 rfl (lv_at hl 1 rfl) ?_
    refine pf_l_rc (n := j) hx hb hK hP (by omega) dX0_goOnTo_14 ?_
    refine lv_if_ne (tgt := 22) hx hb dX0_goOnTo_15 (by decide) (fun c15 => ?_) (fun c15 => ?_)
    · -- 15 t ne 
      refine lv_iconst (v := 0) hx hb dX0_goOnTo_22 (by decide) ?_
      refine lv_istore_n (lv' := [(2, .int 0), (0, .ref (h 0)), (1, .int (nI j))]) hx hb dX0_goOnTo_23 rfl hl (by decide) rfl (fun ls hl => ?_)
      refine lv_aload_n hx hb dX0_goOnTo_24 rfl (lv_at hl 1 rfl) ?_
      refine pf_g_rc hx hb hts hin hown hK hP (by decide +kernel) dX0_goOnTo_25 ?_
      refine lv_iload_n hx hb dX0_goOnTo_28 rfl (lv_at hl 2 rfl) ?_
      refine lv_iconst (v := 1) hx hb dX0_goOnTo_29 (by decide) ?_
      refine pf_s_rc (n := j) (x := 1) hx hb hK hP hD hS (by omega) dX0_goOnTo_30 (by decide) (fun H locs hP hD hS => ?_)
      refine lv_iload_n hx hb dX0_goOnTo_31 rfl (lv_at hl 2 rfl) ?_
      refine lv_bipush (v := 6) hx hb dX0_goOnTo_32 (by decide) ?_
      refine lv_imul hx hb dX0_goOnTo_34 ?_
      refine lv_topi (fun x_1 ex_1 => ?_)
      obtain rfl : x_1 = nI (j * 6) := ex_1.trans (pk_mul j 6)
      refine lv_istore_n (lv' := [(3, .int (nI (j * 6))), (2, .int 0), (0, .ref (h 0)), (1, .int (nI j))]) hx hb dX0_goOnTo_35 rfl hl (by decide) rfl (fun ls hl => ?_)
      refine lv_iconst (v := nI 0) hx hb dX0_goOnTo_36 (by decide) ?_
      refine lv_istore (lv' := [(4, .int (nI 0)), (3, .int (nI (j * 6))), (2, .int 0), (0, .ref (h 0)), (1, .int (nI j))]) hx hb dX0_goOnTo_37 hl (by decide) rfl (fun ls hl => ?_)
      refine lp_go hx hb hml hown hts hA hK (j := j) (ah0 := ah) (c0 := 0) (by omega) ?_ _ 0 0 ah _ _ ls (Nat.zero_le _) (Jp_0) (Jc_0 (by decide)) (Nat.lt_succ_self _) hP hD hS (lv_sub hl [3, 4, 2, 1, 0] rfl)
      intro i1 ch1 ah1 H locs ls hJ hC hP hD hS hl
      refine lv_iload_n hx hb dX0_goOnTo_107 rfl (lv_at hl 2 rfl) ?_
      refine lv_if_eq (tgt := 116) hx hb dX0_goOnTo_108 (by decide) (fun c108 => ?_) (fun c108 => ?_)
      · -- 108 t eq 
        exact ret_v hx hb hr hlocks hK hP hD hS dX0_goOnTo_116 (upd rc j 1, iw, wt, ah1, wN) rfl (Or.inl ⟨j, hj, rfl, Jp_Jn hJ, Or.inl ⟨Jc_no hC (fun _ => c15) c108, rfl, rfl, rfl⟩⟩)
      · -- 108 f eq 
        refine lv_aload_n hx hb dX0_goOnTo_111 rfl (lv_at hl 0 rfl) ?_
        refine lv_iload_n hx hb dX0_goOnTo_112 rfl (lv_at hl 1 rfl) ?_
        refine call_vv (As := [.int (nI j)]) (rest := []) ⟨hx, hb, hml, hown, hts⟩ (c_addWaiting j hN wN (by omega) hh hw) cp_goOnTo_addWaiting ⟨rfl, rfl⟩ ⟨Nat.le_of_ble_eq_true rfl, Nat.le_of_ble_eq_true rfl⟩ rfl rfl 0 rfl rfl hl.1 rfl (Nat.le_of_ble_eq_true rfl) dX0_goOnTo_113 ⟨Nat.zero_le _, Nat.zero_le _⟩ hK hP hD hS hA (fun u H locs p113 hP hD hS => ?_)
        obtain ⟨iw_113, wt_113, wn_113⟩ := u
        have hP : va_P D vwCl (pfW h k vc vP vO vG (nI np) pD pV pB pX pY sv (upd rc j 1) ah1 be wt_113 iw_113 (nI hN) (nI wn_113)) H := hP
        have hD : va_D A (pfW h k vc vP vO vG (nI np) pD pV pB pX pY sv (upd rc j 1) ah1 be wt_113 iw_113 (nI hN) (nI wn_113)) := hD
        try dsimp only at p113
        exact ret_v hx hb hr hlocks hK hP hD hS dX0_goOnTo_116 (upd rc j 1, iw_113, wt_113, ah1, wn_113) rfl (Or.inl ⟨j, hj, rfl, Jp_Jn hJ, Or.inr ⟨Jc_yes hC (fun z => absurd z (by decide)) c108, p113⟩⟩)
    · -- 15 f ne 
      refine lv_iconst (v := 1) hx hb dX0_goOnTo_18 (by decide) ?_
      refine lv_goto (tgt := 23) hx hb dX0_goOnTo_19 (by decide) ?_
      refine lv_istore_n (lv' := [(2, .int 1), (0, .ref (h 0)), (1, .int (nI j))]) hx hb dX0_goOnTo_23 rfl hl (by decide) rfl (fun ls hl => ?_)
      refine lv_aload_n hx hb dX0_goOnTo_24 rfl (lv_at hl 1 rfl) ?_
      refine pf_g_rc hx hb hts hin hown hK hP (by decide +kernel) dX0_goOnTo_25 ?_
      refine lv_iload_n hx hb dX0_goOnTo_28 rfl (lv_at hl 2 rfl) ?_
      refine lv_iconst (v := 1) hx hb dX0_goOnTo_29 (by decide) ?_
      refine pf_s_rc (n := j) (x := 1) hx hb hK hP hD hS (by omega) dX0_goOnTo_30 (by decide) (fun H locs hP hD hS => ?_)
      refine lv_iload_n hx hb dX0_goOnTo_31 rfl (lv_at hl 2 rfl) ?_
      refine lv_bipush (v := 6) hx hb dX0_goOnTo_32 (by decide) ?_
      refine lv_imul hx hb dX0_goOnTo_34 ?_
      refine lv_topi (fun x_2 ex_2 => ?_)
      obtain rfl : x_2 = nI (j * 6) := ex_2.trans (pk_mul j 6)
      refine lv_istore_n (lv' := [(3, .int (nI (j * 6))), (2, .int 1), (0, .ref (h 0)), (1, .int (nI j))]) hx hb dX0_goOnTo_35 rfl hl (by decide) rfl (fun ls hl => ?_)
      refine lv_iconst (v := nI 0) hx hb dX0_goOnTo_36 (by decide) ?_
      refine lv_istore (lv' := [(4, .int (nI 0)), (3, .int (nI (j * 6))), (2, .int 1), (0, .ref (h 0)), (1, .int (nI j))]) hx hb dX0_goOnTo_37 hl (by decide) rfl (fun ls hl => ?_)
      refine lp_go hx hb hml hown hts hA hK (j := j) (ah0 := ah) (c0 := 1) (by omega) ?_ _ 0 1 ah _ _ ls (Nat.zero_le _) (Jp_0) (Jc_0 (by decide)) (Nat.lt_succ_self _) hP hD hS (lv_sub hl [3, 4, 2, 1, 0] rfl)
      intro i1 ch1 ah1 H locs ls hJ hC hP hD hS hl
      refine lv_iload_n hx hb dX0_goOnTo_107 rfl (lv_at hl 2 rfl) ?_
      refine lv_if_eq (tgt := 116) hx hb dX0_goOnTo_108 (by decide) (fun c108 => ?_) (fun c108 => ?_)
      · -- 108 t eq 
        exact ret_v hx hb hr hlocks hK hP hD hS dX0_goOnTo_116 (upd rc j 1, iw, wt, ah1, wN) rfl (Or.inl ⟨j, hj, rfl, Jp_Jn hJ, Or.inl ⟨Jc_no hC (fun z => absurd z (by decide)) c108, rfl, rfl, rfl⟩⟩)
      · -- 108 f eq 
        refine lv_aload_n hx hb dX0_goOnTo_111 rfl (lv_at hl 0 rfl) ?_
        refine lv_iload_n hx hb dX0_goOnTo_112 rfl (lv_at hl 1 rfl) ?_
        refine call_vv (As := [.int (nI j)]) (rest := []) ⟨hx, hb, hml, hown, hts⟩ (c_addWaiting j hN wN (by omega) hh hw) cp_goOnTo_addWaiting ⟨rfl, rfl⟩ ⟨Nat.le_of_ble_eq_true rfl, Nat.le_of_ble_eq_true rfl⟩ rfl rfl 0 rfl rfl hl.1 rfl (Nat.le_of_ble_eq_true rfl) dX0_goOnTo_113 ⟨Nat.zero_le _, Nat.zero_le _⟩ hK hP hD hS hA (fun u H locs p113 hP hD hS => ?_)
        obtain ⟨iw_113, wt_113, wn_113⟩ := u
        have hP : va_P D vwCl (pfW h k vc vP vO vG (nI np) pD pV pB pX pY sv (upd rc j 1) ah1 be wt_113 iw_113 (nI hN) (nI wn_113)) H := hP
        have hD : va_D A (pfW h k vc vP vO vG (nI np) pD pV pB pX pY sv (upd rc j 1) ah1 be wt_113 iw_113 (nI hN) (nI wn_113)) := hD
        try dsimp only at p113
        exact ret_v hx hb hr hlocks hK hP hD hS dX0_goOnTo_116 (upd rc j 1, iw_113, wt_113, ah1, wn_113) rfl (Or.inl ⟨j, hj, rfl, Jp_Jn hJ, Or.inr ⟨Jc_yes hC (fun _ => c15) c108, p113⟩⟩)
  · -- 5 f ne 
    exact ret_v hx hb hr hlocks hK hP hD hS dX0_goOnTo_8 (rc, iw, wt, ah, wN) rfl (Or.inr ⟨pt_out rfl hn p2 c5, rfl, rfl, rfl, rfl, rfl⟩)
end
section
abbrev rm_forgetFlow : Room := { frames := 0, cells := 0, slots := 0, locals := 0 }
theorem in_forgetFlow : ∀ w ∈ u_ws RX0 TX0 18, w ∈ wsX0_forgetFlow := by decide +kernel
set_option maxHeartbeats 4000000 in
set_option maxRecDepth 100000 in
theorem lp_fo1 {p : Program} {l : Launch} {e : Env} {s : State} {m : MethodId} {args : Array Value} {below : List Frame} {meth : Method} {c : Code} {A : Nat → Prop} {Q : State → Prop} {D : va_G} {h : Nat → Nat} {k : Nat → ClassId} {vc sv hd wn : Int32} {vP vO vG pD pV pB pX pY wt : Nat → Int32} {ah be : Nat → Int64} {np : Nat} {rc0 iw0 : Nat → Int32} (hx : p.tables.exec = Jvm.exec) (hb : c.code = cX0_forgetFlow) (hml : c.maxLocals = 2) (hown : s.vm.findClass RX0 = some m.cls) (hts : ∀ w ∈ wsX0_forgetFlow, w.before args s = true) (hA : ∀ q : Nat, s.heap.size ≤ q → A q) (hK : va_K D vwCl (pfT k) s) (hn : np ≤ 120)
    (kk : ∀ (i : Nat) (rc : Nat → Int32) (iw : Nat → Int32) (H : Heap) (locs : List Loc) (ls : Array Slot), ((∀ q, q < np → rc q = 0) ∧ ∀ q, np ≤ q → rc q = rc0 q) → ((∀ q, q < np → iw q = 0) ∧ ∀ q, np ≤ q → iw q = iw0 q) → va_P D vwCl (pfW h k vc vP vO vG (nI np) pD pV pB pX pY sv rc ah be wt iw hd wn) H → va_D A (pfW h k vc vP vO vG (nI np) pD pV pB pX pY sv rc ah be wt iw hd wn) → va_S A s.heap H locs → lv_has ls 2 [(0, .ref (h 0)), (1, .int (nI i))] → W p l e rm_forgetFlow s m args below meth c H locs 0 0 Q (F0 m 40 ls [])) :
    ∀ (n : Nat) (i : Nat) (rc : Nat → Int32) (iw : Nat → Int32) (H : Heap) (locs : List Loc) (ls : Array Slot), (i ≤ np) → ((∀ q, q < i → rc q = 0) ∧ ∀ q, i ≤ q → rc q = rc0 q) → ((∀ q, q < i → iw q = 0) ∧ ∀ q, i ≤ q → iw q = iw0 q) → np - i < n → va_P D vwCl (pfW h k vc vP vO vG (nI np) pD pV pB pX pY sv rc ah be wt iw hd wn) H → va_D A (pfW h k vc vP vO vG (nI np) pD pV pB pX pY sv rc ah be wt iw hd wn) → va_S A s.heap H locs → lv_has ls 2 [(0, .ref (h 0)), (1, .int (nI i))] → W p l e rm_forgetFlow s m args below meth c H locs 0 0 Q (F0 m 12 ls []) := by
  have hin := in_forgetFlow
  intro n
  induction n with
  | zero =>
    intro i rc iw H locs ls hi hr9 hw hmz
    exact absurd hmz (Nat.not_lt_zero _)
  | succ n ih =>
    intro i rc iw H locs ls hi hr9 hw hmz hP hD hS hl
    refine lv_iload_n hx hb dX0_forgetFlow_12 rfl (lv_at hl 1 rfl) ?_
    refine lv_aload_n hx hb dX0_forgetFlow_13 rfl (lv_at hl 0 rfl) ?_
    refine pf_g_pn hx hb hts hin hown hK hP (by decide +kernel) dX0_forgetFlow_14 ?_
    refine lv_icmp_ge (tgt := 40) hx hb dX0_forgetFlow_17 (by decide) (fun c17 => ?_) (fun c17 => ?_)
    · -- 17 t ge 
      have n17 : np ≤ i := (nI_leI (a := np) (b := i) (by omega) (by omega)).mp c17
      exact kk i rc iw H locs ls ((show i = np by omega) ▸ hr9) ((show i = np by omega) ▸ hw) hP hD hS (lv_sub hl [0, 1] rfl)
    · -- 17 f ge 
      have n17 : ¬ np ≤ i := fun q => c17 ((nI_leI (a := np) (b := i) (by omega) (by omega)).mpr q)
      refine lv_aload_n hx hb dX0_forgetFlow_20 rfl (lv_at hl 0 rfl) ?_
      refine pf_g_rc hx hb hts hin hown hK hP (by decide +kernel) dX0_forgetFlow_21 ?_
      refine lv_iload_n hx hb dX0_forgetFlow_24 rfl (lv_at hl 1 rfl) ?_
      refine lv_iconst (v := 0) hx hb dX0_forgetFlow_25 (by decide) ?_
      refine pf_s_rc (n := i) (x := 0) hx hb hK hP hD hS (by omega) dX0_forgetFlow_26 (by decide) (fun H locs hP hD hS => ?_)
      refine lv_aload_n hx hb dX0_forgetFlow_27 rfl (lv_at hl 0 rfl) ?_
      refine pf_g_iw hx hb hts hin hown hK hP (by decide +kernel) dX0_forgetFlow_28 ?_
      refine lv_iload_n hx hb dX0_forgetFlow_31 rfl (lv_at hl 1 rfl) ?_
      refine lv_iconst (v := 0) hx hb dX0_forgetFlow_32 (by decide) ?_
      refine pf_s_iw (n := i) (x := 0) hx hb hK hP hD hS (by omega) dX0_forgetFlow_33 (by decide) (fun H locs hP hD hS => ?_)
      refine lv_iinc (v := nI (i + 1)) (lv' := [(1, .int (nI (i + 1))), (0, .ref (h 0))]) hx hb dX0_forgetFlow_34 hl (k := 1) rfl (nI_add i 1) (by decide) rfl (fun ls hl => ?_)
      refine lv_goto (tgt := 12) hx hb dX0_forgetFlow_37 (by decide) ?_
      exact ih (i + 1) (upd rc i 0) (upd iw i 0) H locs ls (by omega) (zi_s hr9) (zi_s hw) (by omega) hP hD hS (lv_sub hl [1, 0] rfl)

set_option maxHeartbeats 4000000 in
set_option maxRecDepth 100000 in
theorem lp_fo2 {p : Program} {l : Launch} {e : Env} {s : State} {m : MethodId} {args : Array Value} {below : List Frame} {meth : Method} {c : Code} {A : Nat → Prop} {Q : State → Prop} {D : va_G} {h : Nat → Nat} {k : Nat → ClassId} {vc sv hd wn : Int32} {vP vO vG pD pV pB pX pY rc wt iw : Nat → Int32} {be : Nat → Int64} {np : Nat} (hx : p.tables.exec = Jvm.exec) (hb : c.code = cX0_forgetFlow) (hml : c.maxLocals = 2) (hown : s.vm.findClass RX0 = some m.cls) (hts : ∀ w ∈ wsX0_forgetFlow, w.before args s = true) (hA : ∀ q : Nat, s.heap.size ≤ q → A q) (hK : va_K D vwCl (pfT k) s) (hn : np ≤ 120)
    (kk : ∀ (i : Nat) (ah : Nat → Int64) (H : Heap) (locs : List Loc) (ls : Array Slot), (∀ w, w < np * 6 → ah w = 0) → va_P D vwCl (pfW h k vc vP vO vG (nI np) pD pV pB pX pY sv rc ah be wt iw hd wn) H → va_D A (pfW h k vc vP vO vG (nI np) pD pV pB pX pY sv rc ah be wt iw hd wn) → va_S A s.heap H locs → lv_has ls 2 [(0, .ref (h 0)), (1, .int (nI i))] → W p l e rm_forgetFlow s m args below meth c H locs 0 0 Q (F0 m 66 ls [])) :
    ∀ (n : Nat) (i : Nat) (ah : Nat → Int64) (H : Heap) (locs : List Loc) (ls : Array Slot), (i ≤ np * 6) → (∀ w, w < i → ah w = 0) → np * 6 - i < n → va_P D vwCl (pfW h k vc vP vO vG (nI np) pD pV pB pX pY sv rc ah be wt iw hd wn) H → va_D A (pfW h k vc vP vO vG (nI np) pD pV pB pX pY sv rc ah be wt iw hd wn) → va_S A s.heap H locs → lv_has ls 2 [(0, .ref (h 0)), (1, .int (nI i))] → W p l e rm_forgetFlow s m args below meth c H locs 0 0 Q (F0 m 42 ls []) := by
  have hin := in_forgetFlow
  intro n
  induction n with
  | zero =>
    intro i ah H locs ls hi ha hmz
    exact absurd hmz (Nat.not_lt_zero _)
  | succ n ih =>
    intro i ah H locs ls hi ha hmz hP hD hS hl
    refine lv_iload_n hx hb dX0_forgetFlow_42 rfl (lv_at hl 1 rfl) ?_
    refine lv_aload_n hx hb dX0_forgetFlow_43 rfl (lv_at hl 0 rfl) ?_
    refine pf_g_pn hx hb hts hin hown hK hP (by decide +kernel) dX0_forgetFlow_44 ?_
    refine lv_bipush (v := 6) hx hb dX0_forgetFlow_47 (by decide) ?_
    refine lv_imul hx hb dX0_forgetFlow_49 ?_
    refine lv_topi (fun x_1 ex_1 => ?_)
    obtain rfl : x_1 = nI (np * 6) := ex_1.trans (pk_mul np 6)
    refine lv_icmp_ge (tgt := 66) hx hb dX0_forgetFlow_50 (by decide) (fun c50 => ?_) (fun c50 => ?_)
    · -- 50 t ge 
      have n50 : np * 6 ≤ i := (nI_leI (a := np * 6) (b := i) (by omega) (by omega)).mp c50
      exact kk i ah H locs ls (fun w hw => ha w (by omega)) hP hD hS (lv_sub hl [0, 1] rfl)
    · -- 50 f ge 
      have n50 : ¬ np * 6 ≤ i := fun q => c50 ((nI_leI (a := np * 6) (b := i) (by omega) (by omega)).mpr q)
      refine lv_aload_n hx hb dX0_forgetFlow_53 rfl (lv_at hl 0 rfl) ?_
      refine pf_g_ah hx hb hts hin hown hK hP (by decide +kernel) dX0_forgetFlow_54 ?_
      refine lv_iload_n hx hb dX0_forgetFlow_57 rfl (lv_at hl 1 rfl) ?_
      refine lv_lconst (v := 0) hx hb dX0_forgetFlow_58 (by decide) ?_
      refine pf_s_ah (n := i) (x := 0) hx hb hK hP hD hS (by omega) dX0_forgetFlow_59 (fun H locs hP hD hS => ?_)
      refine lv_iinc (v := nI (i + 1)) (lv' := [(1, .int (nI (i + 1))), (0, .ref (h 0))]) hx hb dX0_forgetFlow_60 hl (k := 1) rfl (nI_add i 1) (by decide) rfl (fun ls hl => ?_)
      refine lv_goto (tgt := 42) hx hb dX0_forgetFlow_63 (by decide) ?_
      exact ih (i + 1) (vp_updL ah i 0) H locs ls (by omega) (z_s ha) (by omega) hP hD hS (lv_sub hl [1, 0] rfl)

set_option maxHeartbeats 4000000 in
set_option maxRecDepth 100000 in
theorem c_forgetFlow {l : Launch} {D : va_G} {h : Nat → Nat} {k : Nat → ClassId} {vc sv hd wn : Int32} {vP vO vG pD pV pB pX pY rc wt iw : Nat → Int32} {ah be : Nat → Int64} (np : Nat) (hn : np ≤ 120) : ct l yX0_forgetFlow wsX0_forgetFlow rm_forgetFlow D vwCl (pfT k) [.ref (h 0)] (pfW h k vc vP vO vG (nI np) pD pV pB pX pY sv rc ah be wt iw hd wn) (qV D vwCl (pfT k) (fun (u : (Nat → Int32) × (Nat → Int32) × (Nat → Int64)) => ((∀ q, q < np → u.1 q = 0) ∧ ∀ q, np ≤ q → u.1 q = rc q) ∧ ((∀ q, q < np → u.2.1 q = 0) ∧ ∀ q, np ≤ q → u.2.1 q = iw q) ∧ ∀ w, w < np * 6 → u.2.2 w = 0) (fun u => pfW h k vc vP vO vG (nI np) pD pV pB pX pY sv u.1 u.2.2 be wt u.2.1 (nI 0) (nI 0))) 0 0 := by
  refine ct_of (cc := cX0_forgetFlow) (maxL := 2) (ret := none) (by decide) rfl (Nat.le_of_ble_eq_true rfl) ?_
  intro p e s m below meth c A ls hx hb hr hml hlocks hown hnm hts hA hK hP hD hS hl
  have hown : s.vm.findClass RX0 = some m.cls := hown
  have hin := in_forgetFlow
  have hl : lv_has ls 2 [(0, .ref (h 0))] := hl
  refine lv_aload_n hx hb dX0_forgetFlow_0 rfl (lv_at hl 0 rfl) ?_
  refine lv_iconst (v := nI 0) hx hb dX0_forgetFlow_1 (by decide) ?_
  refine pf_p_hd hx hb hts hin hown hK hP hD hS (by decide +kernel) dX0_forgetFlow_2 (fun H locs hP hD hS => ?_)
  refine lv_aload_n hx hb dX0_forgetFlow_5 rfl (lv_at hl 0 rfl) ?_
  refine lv_iconst (v := nI 0) hx hb dX0_forgetFlow_6 (by decide) ?_
  refine pf_p_wn hx hb hts hin hown hK hP hD hS (by decide +kernel) dX0_forgetFlow_7 (fun H locs hP hD hS => ?_)
  refine lv_iconst (v := nI 0) hx hb dX0_forgetFlow_10 (by decide) ?_
  refine lv_istore_n (lv' := [(1, .int (nI 0)), (0, .ref (h 0))]) hx hb dX0_forgetFlow_11 rfl hl (by decide) rfl (fun ls hl => ?_)
  refine lp_fo1 hx hb hml hown hts hA hK hn (rc0 := rc) (iw0 := iw) ?_ _ 0 rc iw _ _ ls (Nat.zero_le _) (⟨fun q hq => absurd hq (Nat.not_lt_zero q), fun _ _ => rfl⟩) (⟨fun q hq => absurd hq (Nat.not_lt_zero q), fun _ _ => rfl⟩) (Nat.lt_succ_self _) hP hD hS (lv_sub hl [1, 0] rfl)
  intro i1 rc1 iw1 H locs ls hr9 hw hP hD hS hl
  refine lv_iconst (v := nI 0) hx hb dX0_forgetFlow_40 (by decide) ?_
  refine lv_istore_n (lv' := [(1, .int (nI 0)), (0, .ref (h 0))]) hx hb dX0_forgetFlow_41 rfl hl (by decide) rfl (fun ls hl => ?_)
  refine lp_fo2 hx hb hml hown hts hA hK hn ?_ _ 0 ah _ _ ls (Nat.zero_le _) (fun w hw => absurd hw (Nat.not_lt_zero w)) (Nat.lt_succ_self _) hP hD hS (lv_sub hl [1, 0] rfl)
  intro i2 ah1 H locs ls ha hP hD hS hl
  exact ret_v hx hb hr hlocks hK hP hD hS dX0_forgetFlow_66 (rc1, iw1, ah1) rfl (⟨hr9, hw, ha⟩)

abbrev rm_beginWays : Room := { frames := 2, cells := 0, slots := 0, locals := 47 }
theorem in_beginWays : ∀ w ∈ u_ws RX0 TX0 18, w ∈ wsX0_beginWays := by decide +kernel
set_option maxHeartbeats 4000000 in
set_option maxRecDepth 100000 in
theorem lp_be1 {p : Program} {l : Launch} {e : Env} {s : State} {m : MethodId} {args : Array Value} {below : List Frame} {meth : Method} {c : Code} {A : Nat → Prop} {Q : State → Prop} {D : va_G} {h : Nat → Nat} {k : Nat → ClassId} {vc pn sv hd wn : Int32} {vP vO vG pD pV pB pX pY rc wt iw : Nat → Int32} {ah : Nat → Int64}  (hx : p.tables.exec = Jvm.exec) (hb : c.code = cX0_beginWays) (hml : c.maxLocals = 3) (hown : s.vm.findClass RX0 = some m.cls) (hts : ∀ w ∈ wsX0_beginWays, w.before args s = true) (hA : ∀ q : Nat, s.heap.size ≤ q → A q) (hK : va_K D vwCl (pfT k) s) 
    (kk : ∀ (i : Nat) (be : Nat → Int64) (H : Heap) (locs : List Loc) (ls : Array Slot), (∀ w, w < 6 → be w = 0) → va_P D vwCl (pfW h k vc vP vO vG pn pD pV pB pX pY sv rc ah be wt iw hd wn) H → va_D A (pfW h k vc vP vO vG pn pD pV pB pX pY sv rc ah be wt iw hd wn) → va_S A s.heap H locs → lv_has ls 3 [(0, .ref (h 0)), (1, .int (nI i))] → W p l e rm_beginWays s m args below meth c H locs 0 0 Q (F0 m 21 ls [])) :
    ∀ (n : Nat) (i : Nat) (be : Nat → Int64) (H : Heap) (locs : List Loc) (ls : Array Slot), (i ≤ 6) → (∀ w, w < i → be w = 0) → 6 - i < n → va_P D vwCl (pfW h k vc vP vO vG pn pD pV pB pX pY sv rc ah be wt iw hd wn) H → va_D A (pfW h k vc vP vO vG pn pD pV pB pX pY sv rc ah be wt iw hd wn) → va_S A s.heap H locs → lv_has ls 3 [(0, .ref (h 0)), (1, .int (nI i))] → W p l e rm_beginWays s m args below meth c H locs 0 0 Q (F0 m 2 ls []) := by
  have hin := in_beginWays
  intro n
  induction n with
  | zero =>
    intro i be H locs ls hi hb6 hmz
    exact absurd hmz (Nat.not_lt_zero _)
  | succ n ih =>
    intro i be H locs ls hi hb6 hmz hP hD hS hl
    refine lv_iload_n hx hb dX0_beginWays_2 rfl (lv_at hl 1 rfl) ?_
    refine lv_bipush (v := 6) hx hb dX0_beginWays_3 (by decide) ?_
    refine lv_icmp_ge (tgt := 21) hx hb dX0_beginWays_5 (by decide) (fun c5 => ?_) (fun c5 => ?_)
    · -- 5 t ge 
      have n5 : 6 ≤ i := (nI_leI (a := 6) (b := i) (by omega) (by omega)).mp c5
      exact kk i be H locs ls (fun w hw => hb6 w (by omega)) hP hD hS (lv_sub hl [0, 1] rfl)
    · -- 5 f ge 
      have n5 : ¬ 6 ≤ i := fun q => c5 ((nI_leI (a := 6) (b := i) (by omega) (by omega)).mpr q)
      refine lv_aload_n hx hb dX0_beginWays_8 rfl (lv_at hl 0 rfl) ?_
      refine pf_g_be hx hb hts hin hown hK hP (by decide +kernel) dX0_beginWays_9 ?_
      refine lv_iload_n hx hb dX0_beginWays_12 rfl (lv_at hl 1 rfl) ?_
      refine lv_lconst (v := 0) hx hb dX0_beginWays_13 (by decide) ?_
      refine pf_s_be (n := i) (x := 0) hx hb hK hP hD hS (by omega) dX0_beginWays_14 (fun H locs hP hD hS => ?_)
      refine lv_iinc (v := nI (i + 1)) (lv' := [(1, .int (nI (i + 1))), (0, .ref (h 0))]) hx hb dX0_beginWays_15 hl (k := 1) rfl (nI_add i 1) (by decide) rfl (fun ls hl => ?_)
      refine lv_goto (tgt := 2) hx hb dX0_beginWays_18 (by decide) ?_
      exact ih (i + 1) (vp_updL be i 0) H locs ls (by omega) (z_s hb6) (by omega) hP hD hS (lv_sub hl [1, 0] rfl)

theorem cp_beginWays_allParts : cpV wsX0_beginWays RX0 110 RX0 yX0_allParts wsX0_allParts cX0_allParts 2 (some .int) 1 := ⟨gX0_beginWays_X0_allParts, ⟨_, rfl⟩, by decide +kernel⟩
theorem cp_beginWays_inWord : cpS wsX0_beginWays RX0 145 yX0_inWord wsX0_inWord cX0_inWord 2 (some .long) 2 := ⟨gX0_beginWays_X0_inWord, ⟨_, rfl⟩, by decide +kernel⟩
theorem cp_beginWays_wordOf : cpS wsX0_beginWays RX0 119 yX0_wordOf wsX0_wordOf cX0_wordOf 1 (some .int) 1 := ⟨gX0_beginWays_X0_wordOf, ⟨_, rfl⟩, by decide +kernel⟩
set_option maxHeartbeats 4000000 in
set_option maxRecDepth 100000 in
theorem lp_be2 {p : Program} {l : Launch} {e : Env} {s : State} {m : MethodId} {args : Array Value} {below : List Frame} {meth : Method} {c : Code} {A : Nat → Prop} {Q : State → Prop} {D : va_G} {h : Nat → Nat} {k : Nat → ClassId} {pn sv hd wn : Int32} {vP vO vG pD pV pB pX pY rc wt iw : Nat → Int32} {ah : Nat → Int64} {nv : Nat} (hx : p.tables.exec = Jvm.exec) (hb : c.code = cX0_beginWays) (hml : c.maxLocals = 3) (hown : s.vm.findClass RX0 = some m.cls) (hts : ∀ w ∈ wsX0_beginWays, w.before args s = true) (hA : ∀ q : Nat, s.heap.size ≤ q → A q) (hK : va_K D vwCl (pfT k) s) (hnv : nv ≤ 20) (hvp : ∀ v, v < nv → lb (vP v) = nI (tN (lb (vP v))) ∧ tN (lb (vP v)) < 256)
    (kk : ∀ (i : Nat) (be : Nat → Int64) (H : Heap) (locs : List Loc) (ls : Array Slot), (∀ w t, w < 6 → t < 64 → (bl (be w) t = true ↔ b0P vP vG nv w t)) → va_P D vwCl (pfW h k (nI nv) vP vO vG pn pD pV pB pX pY sv rc ah be wt iw hd wn) H → va_D A (pfW h k (nI nv) vP vO vG pn pD pV pB pX pY sv rc ah be wt iw hd wn) → va_S A s.heap H locs → lv_has ls 3 [(0, .ref (h 0)), (1, .int (nI i))] → W p l e rm_beginWays s m args below meth c H locs 0 0 Q (F0 m 75 ls [])) :
    ∀ (n : Nat) (i : Nat) (be : Nat → Int64) (H : Heap) (locs : List Loc) (ls : Array Slot), (i ≤ nv) → (∀ w t, w < 6 → t < 64 → (bl (be w) t = true ↔ b0P vP vG i w t)) → nv - i < n → va_P D vwCl (pfW h k (nI nv) vP vO vG pn pD pV pB pX pY sv rc ah be wt iw hd wn) H → va_D A (pfW h k (nI nv) vP vO vG pn pD pV pB pX pY sv rc ah be wt iw hd wn) → va_S A s.heap H locs → lv_has ls 3 [(0, .ref (h 0)), (1, .int (nI i))] → W p l e rm_beginWays s m args below meth c H locs 0 0 Q (F0 m 23 ls []) := by
  have hin := in_beginWays
  intro n
  induction n with
  | zero =>
    intro i be H locs ls hi hbi hmz
    exact absurd hmz (Nat.not_lt_zero _)
  | succ n ih =>
    intro i be H locs ls hi hbi hmz hP hD hS hl
    refine lv_iload_n hx hb dX0_beginWays_23 rfl (lv_at hl 1 rfl) ?_
    refine lv_aload_n hx hb dX0_beginWays_24 rfl (lv_at hl 0 rfl) ?_
    refine pf_g_vc hx hb hts hin hown hK hP (by decide +kernel) dX0_beginWays_25 ?_
    refine lv_icmp_ge (tgt := 75) hx hb dX0_beginWays_28 (by decide) (fun c28 => ?_) (fun c28 => ?_)
    · -- 28 t ge 
      have n28 : nv ≤ i := (nI_leI (a := nv) (b := i) (by omega) (by omega)).mp c28
      exact kk i be H locs ls ((show i = nv by omega) ▸ hbi) hP hD hS (lv_sub hl [0, 1] rfl)
    · -- 28 f ge 
      have n28 : ¬ nv ≤ i := fun q => c28 ((nI_leI (a := nv) (b := i) (by omega) (by omega)).mpr q)
      refine lv_aload_n hx hb dX0_beginWays_31 rfl (lv_at hl 0 rfl) ?_
      refine pf_g_vG hx hb hts hin hown hK hP (by decide +kernel) dX0_beginWays_32 ?_
      refine lv_iload_n hx hb dX0_beginWays_35 rfl (lv_at hl 1 rfl) ?_
      refine pf_l_vG (n := i) hx hb hK hP (by omega) dX0_beginWays_36 ?_
      refine lv_if_eq (tgt := 44) hx hb dX0_beginWays_37 (by decide) (fun c37 => ?_) (fun c37 => ?_)
      · -- 37 t eq 
        refine lv_iconst (v := nI 0) hx hb dX0_beginWays_44 (by decide) ?_
        refine lv_istore_n (lv' := [(2, .int (nI 0)), (0, .ref (h 0)), (1, .int (nI i))]) hx hb dX0_beginWays_45 rfl hl (by decide) rfl (fun ls hl => ?_)
        refine lv_aload_n hx hb dX0_beginWays_46 rfl (lv_at hl 1 rfl) ?_
        refine pf_g_be hx hb hts hin hown hK hP (by decide +kernel) dX0_beginWays_47 ?_
        refine lv_iload_n hx hb dX0_beginWays_50 rfl (lv_at hl 0 rfl) ?_
        refine lv_iload_n hx hb dX0_beginWays_51 rfl (lv_at hl 2 rfl) ?_
        refine call_si (As := [.int (nI i)]) (rest := [.int (nI 0), .ref (h 11)]) ⟨hx, hb, hml, hown, hts⟩ (c_wordOf i (by omega)) cp_beginWays_wordOf ⟨rfl, rfl⟩ ⟨Nat.le_of_ble_eq_true rfl, Nat.le_of_ble_eq_true rfl⟩ rfl hl.1 rfl (Nat.le_of_ble_eq_true rfl) dX0_beginWays_52 ⟨Nat.zero_le _, Nat.zero_le _⟩ hK hP hS hA (fun r52 u H locs p52 hP hS => ?_)
        try dsimp only at p52
        obtain rfl := p52
        refine lv_iadd hx hb dX0_beginWays_55 ?_
        refine lv_topi (fun x_1 ex_1 => ?_)
        obtain rfl : x_1 = nI (0 + (i / 8)) := ex_1.trans (nI_add 0 (i / 8))
        refine lv_dup2_11 hx hb dX0_beginWays_56 rfl rfl ?_
        refine pf_l_be (n := (0 + (i / 8))) hx hb hK hP (by omega) dX0_beginWays_57 ?_
        refine lv_iload_n hx hb dX0_beginWays_58 rfl (lv_at hl 2 rfl) ?_
        refine lv_aload_n hx hb dX0_beginWays_59 rfl (lv_at hl 1 rfl) ?_
        refine lv_iload_n hx hb dX0_beginWays_60 rfl (lv_at hl 2 rfl) ?_
        refine call_vi (As := [.int (nI i)]) (rest := [.int (nI i), .long (be (0 + (i / 8))), .int (nI (0 + (i / 8))), .ref (h 11)]) ⟨hx, hb, hml, hown, hts⟩ (c_allParts i (by omega)) cp_beginWays_allParts ⟨rfl, rfl⟩ ⟨Nat.le_of_ble_eq_true rfl, Nat.le_of_ble_eq_true rfl⟩ rfl rfl 0 rfl rfl hl.1 rfl (Nat.le_of_ble_eq_true rfl) dX0_beginWays_61 ⟨Nat.zero_le _, Nat.zero_le _⟩ hK hP hD hS hA (fun r61 u H locs p61 hP hD hS => ?_)
        try dsimp only at p61
        obtain rfl := p61.trans (hvp i (by omega)).1
        refine call_sl (As := [.int (nI i), .int (nI (tN (lb (vP i))))]) (rest := [.long (be (0 + (i / 8))), .int (nI (0 + (i / 8))), .ref (h 11)]) ⟨hx, hb, hml, hown, hts⟩ (c_inWord i (tN (lb (vP i))) (by omega) (by have := (hvp i (by omega)).2; omega)) cp_beginWays_inWord ⟨rfl, rfl⟩ ⟨Nat.le_of_ble_eq_true rfl, Nat.le_of_ble_eq_true rfl⟩ rfl hl.1 rfl (Nat.le_of_ble_eq_true rfl) dX0_beginWays_64 ⟨Nat.zero_le _, Nat.zero_le _⟩ hK hP hS hA (fun r64 u H locs p64 hP hS => ?_)
        try dsimp only at p64
        obtain rfl := p64
        refine lv_lor hx hb dX0_beginWays_67 ?_
        refine pf_s_be (n := (0 + (i / 8))) (x := (be (0 + (i / 8))) ||| (mkw i (tN (lb (vP i))))) hx hb hK hP hD hS (by omega) dX0_beginWays_68 (fun H locs hP hD hS => ?_)
        refine lv_iinc (v := nI (i + 1)) (lv' := [(1, .int (nI (i + 1))), (2, .int (nI 0)), (0, .ref (h 0))]) hx hb dX0_beginWays_69 hl (k := 2) rfl (nI_add i 1) (by decide) rfl (fun ls hl => ?_)
        refine lv_goto (tgt := 23) hx hb dX0_beginWays_72 (by decide) ?_
        exact ih (i + 1) (vp_updL be (0 + (i / 8)) ((be (0 + (i / 8))) ||| (mkw i (tN (lb (vP i)))))) H locs ls (by omega) (b0_s (by rw [if_pos c37]) hbi) (by omega) hP hD hS (lv_sub hl [2, 0] rfl)
      · -- 37 f eq 
        refine lv_iconst (v := nI 3) hx hb dX0_beginWays_40 (by decide) ?_
        refine lv_goto (tgt := 45) hx hb dX0_beginWays_41 (by decide) ?_
        refine lv_istore_n (lv' := [(2, .int (nI 3)), (0, .ref (h 0)), (1, .int (nI i))]) hx hb dX0_beginWays_45 rfl hl (by decide) rfl (fun ls hl => ?_)
        refine lv_aload_n hx hb dX0_beginWays_46 rfl (lv_at hl 1 rfl) ?_
        refine pf_g_be hx hb hts hin hown hK hP (by decide +kernel) dX0_beginWays_47 ?_
        refine lv_iload_n hx hb dX0_beginWays_50 rfl (lv_at hl 0 rfl) ?_
        refine lv_iload_n hx hb dX0_beginWays_51 rfl (lv_at hl 2 rfl) ?_
        refine call_si (As := [.int (nI i)]) (rest := [.int (nI 3), .ref (h 11)]) ⟨hx, hb, hml, hown, hts⟩ (c_wordOf i (by omega)) cp_beginWays_wordOf ⟨rfl, rfl⟩ ⟨Nat.le_of_ble_eq_true rfl, Nat.le_of_ble_eq_true rfl⟩ rfl hl.1 rfl (Nat.le_of_ble_eq_true rfl) dX0_beginWays_52 ⟨Nat.zero_le _, Nat.zero_le _⟩ hK hP hS hA (fun r52 u H locs p52 hP hS => ?_)
        try dsimp only at p52
        obtain rfl := p52
        refine lv_iadd hx hb dX0_beginWays_55 ?_
        refine lv_topi (fun x_2 ex_2 => ?_)
        obtain rfl : x_2 = nI (3 + (i / 8)) := ex_2.trans (nI_add 3 (i / 8))
        refine lv_dup2_11 hx hb dX0_beginWays_56 rfl rfl ?_
        refine pf_l_be (n := (3 + (i / 8))) hx hb hK hP (by omega) dX0_beginWays_57 ?_
        refine lv_iload_n hx hb dX0_beginWays_58 rfl (lv_at hl 2 rfl) ?_
        refine lv_aload_n hx hb dX0_beginWays_59 rfl (lv_at hl 1 rfl) ?_
        refine lv_iload_n hx hb dX0_beginWays_60 rfl (lv_at hl 2 rfl) ?_
        refine call_vi (As := [.int (nI i)]) (rest := [.int (nI i), .long (be (3 + (i / 8))), .int (nI (3 + (i / 8))), .ref (h 11)]) ⟨hx, hb, hml, hown, hts⟩ (c_allParts i (by omega)) cp_beginWays_allParts ⟨rfl, rfl⟩ ⟨Nat.le_of_ble_eq_true rfl, Nat.le_of_ble_eq_true rfl⟩ rfl rfl 0 rfl rfl hl.1 rfl (Nat.le_of_ble_eq_true rfl) dX0_beginWays_61 ⟨Nat.zero_le _, Nat.zero_le _⟩ hK hP hD hS hA (fun r61 u H locs p61 hP hD hS => ?_)
        try dsimp only at p61
        obtain rfl := p61.trans (hvp i (by omega)).1
        refine call_sl (As := [.int (nI i), .int (nI (tN (lb (vP i))))]) (rest := [.long (be (3 + (i / 8))), .int (nI (3 + (i / 8))), .ref (h 11)]) ⟨hx, hb, hml, hown, hts⟩ (c_inWord i (tN (lb (vP i))) (by omega) (by have := (hvp i (by omega)).2; omega)) cp_beginWays_inWord ⟨rfl, rfl⟩ ⟨Nat.le_of_ble_eq_true rfl, Nat.le_of_ble_eq_true rfl⟩ rfl hl.1 rfl (Nat.le_of_ble_eq_true rfl) dX0_beginWays_64 ⟨Nat.zero_le _, Nat.zero_le _⟩ hK hP hS hA (fun r64 u H locs p64 hP hS => ?_)
        try dsimp only at p64
        obtain rfl := p64
        refine lv_lor hx hb dX0_beginWays_67 ?_
        refine pf_s_be (n := (3 + (i / 8))) (x := (be (3 + (i / 8))) ||| (mkw i (tN (lb (vP i))))) hx hb hK hP hD hS (by omega) dX0_beginWays_68 (fun H locs hP hD hS => ?_)
        refine lv_iinc (v := nI (i + 1)) (lv' := [(1, .int (nI (i + 1))), (2, .int (nI 3)), (0, .ref (h 0))]) hx hb dX0_beginWays_69 hl (k := 2) rfl (nI_add i 1) (by decide) rfl (fun ls hl => ?_)
        refine lv_goto (tgt := 23) hx hb dX0_beginWays_72 (by decide) ?_
        exact ih (i + 1) (vp_updL be (3 + (i / 8)) ((be (3 + (i / 8))) ||| (mkw i (tN (lb (vP i)))))) H locs ls (by omega) (b0_s (by rw [if_neg c37]) hbi) (by omega) hP hD hS (lv_sub hl [2, 0] rfl)

theorem cp_beginWays_goOnTo : cpV wsX0_beginWays RX0 139 RX0 yX0_goOnTo wsX0_goOnTo cX0_goOnTo 7 none 1 := ⟨gX0_beginWays_X0_goOnTo, ⟨_, rfl⟩, by decide +kernel⟩
set_option maxHeartbeats 4000000 in
set_option maxRecDepth 100000 in
theorem c_beginWays {l : Launch} {D : va_G} {h : Nat → Nat} {k : Nat → ClassId} {sv : Int32} {vP vO vG pD pV pB pX pY rc wt iw : Nat → Int32} {ah be : Nat → Int64} (nv np : Nat) (hnv : nv ≤ 20) (hvp : ∀ v, v < nv → lb (vP v) = nI (tN (lb (vP v))) ∧ tN (lb (vP v)) < 256) (hn : np ≤ 120) : ct l yX0_beginWays wsX0_beginWays rm_beginWays D vwCl (pfT k) [.ref (h 0)] (pfW h k (nI nv) vP vO vG (nI np) pD pV pB pX pY sv rc ah be wt iw (nI 0) (nI 0)) (qV D vwCl (pfT k) (fun (u : (Nat → Int64) × (Nat → Int32) × (Nat → Int32) × (Nat → Int32) × (Nat → Int64) × Nat) => (∀ w t, w < 6 → t < 64 → (bl (u.1 w) t = true ↔ b0P vP vG nv w t)) ∧ GoX np u.1 0 rc iw wt ah 0 0 u.2.1 u.2.2.1 u.2.2.2.1 u.2.2.2.2.1 u.2.2.2.2.2) (fun u => pfW h k (nI nv) vP vO vG (nI np) pD pV pB pX pY sv u.2.1 u.2.2.2.2.1 u.1 u.2.2.2.1 u.2.2.1 (nI 0) (nI u.2.2.2.2.2))) 0 0 := by
  refine ct_of (cc := cX0_beginWays) (maxL := 3) (ret := none) (by decide) rfl (Nat.le_of_ble_eq_true rfl) ?_
  intro p e s m below meth c A ls hx hb hr hml hlocks hown hnm hts hA hK hP hD hS hl
  have hown : s.vm.findClass RX0 = some m.cls := hown
  have hin := in_beginWays
  have hl : lv_has ls 3 [(0, .ref (h 0))] := hl
  refine lv_iconst (v := nI 0) hx hb dX0_beginWays_0 (by decide) ?_
  refine lv_istore_n (lv' := [(1, .int (nI 0)), (0, .ref (h 0))]) hx hb dX0_beginWays_1 rfl hl (by decide) rfl (fun ls hl => ?_)
  refine lp_be1 hx hb hml hown hts hA hK  ?_ _ 0 be _ _ ls (Nat.zero_le _) (fun w hw => absurd hw (Nat.not_lt_zero w)) (Nat.lt_succ_self _) hP hD hS (lv_sub hl [1, 0] rfl)
  intro i1 be1 H locs ls hb6 hP hD hS hl
  refine lv_iconst (v := nI 0) hx hb dX0_beginWays_21 (by decide) ?_
  refine lv_istore_n (lv' := [(1, .int (nI 0)), (0, .ref (h 0))]) hx hb dX0_beginWays_22 rfl hl (by decide) rfl (fun ls hl => ?_)
  refine lp_be2 hx hb hml hown hts hA hK hnv hvp ?_ _ 0 be1 _ _ ls (Nat.zero_le _) (b0_0 hb6) (Nat.lt_succ_self _) hP hD hS (lv_sub hl [1, 0] rfl)
  intro i2 be2 H locs ls hbi hP hD hS hl
  refine lv_aload_n hx hb dX0_beginWays_75 rfl (lv_at hl 0 rfl) ?_
  refine lv_iconst (v := 0) hx hb dX0_beginWays_76 (by decide) ?_
  refine call_vv (As := [.int 0]) (rest := []) ⟨hx, hb, hml, hown, hts⟩ (c_goOnTo 0 np 0 0 hn (by decide) (by decide)) cp_beginWays_goOnTo ⟨rfl, rfl⟩ ⟨Nat.le_of_ble_eq_true rfl, Nat.le_of_ble_eq_true rfl⟩ rfl rfl 0 rfl rfl hl.1 rfl (Nat.le_of_ble_eq_true rfl) dX0_beginWays_77 ⟨Nat.zero_le _, Nat.zero_le _⟩ hK hP hD hS hA (fun u H locs p77 hP hD hS => ?_)
  obtain ⟨rc_77, iw_77, wt_77, ah_77, wn_77⟩ := u
  have hP : va_P D vwCl (pfW h k (nI nv) vP vO vG (nI np) pD pV pB pX pY sv rc_77 ah_77 be2 wt_77 iw_77 (nI 0) (nI wn_77)) H := hP
  have hD : va_D A (pfW h k (nI nv) vP vO vG (nI np) pD pV pB pX pY sv rc_77 ah_77 be2 wt_77 iw_77 (nI 0) (nI wn_77)) := hD
  try dsimp only at p77
  exact ret_v hx hb hr hlocks hK hP hD hS dX0_beginWays_80 (be2, rc_77, iw_77, wt_77, ah_77, wn_77) rfl (⟨hbi, p77⟩)

abbrev rm_solve : Room := { frames := 3, cells := 0, slots := 0, locals := 70 }
theorem in_solve : ∀ w ∈ u_ws RX0 TX0 18, w ∈ wsX0_solve := by decide +kernel
theorem cp_solve_goOnTo : cpV wsX0_solve RX0 139 RX0 yX0_goOnTo wsX0_goOnTo cX0_goOnTo 7 none 1 := ⟨gX0_solve_X0_goOnTo, ⟨_, rfl⟩, by decide +kernel⟩
theorem cp_solve_passThrough : cpV wsX0_solve RX0 135 RX0 yX0_passThrough wsX0_passThrough cX0_passThrough 10 none 1 := ⟨gX0_solve_X0_passThrough, ⟨_, rfl⟩, by decide +kernel⟩
theorem cp_solve_takeWaiting : cpV wsX0_solve RX0 132 RX0 yX0_takeWaiting wsX0_takeWaiting cX0_takeWaiting 2 (some .int) 0 := ⟨gX0_solve_X0_takeWaiting, ⟨_, rfl⟩, by decide +kernel⟩
set_option maxHeartbeats 4000000 in
set_option maxRecDepth 100000 in
theorem lp_sol {p : Program} {l : Launch} {e : Env} {s : State} {m : MethodId} {args : Array Value} {below : List Frame} {meth : Method} {c : Code} {A : Nat → Prop} {Q : State → Prop} {D : va_G} {h : Nat → Nat} {k : Nat → ClassId} {vc sv : Int32} {vP vO vG pD pV pB pX pY : Nat → Int32} {nv np : Nat} (hx : p.tables.exec = Jvm.exec) (hb : c.code = cX0_solve) (hml : c.maxLocals = 3) (hown : s.vm.findClass RX0 = some m.cls) (hts : ∀ w ∈ wsX0_solve, w.before args s = true) (hA : ∀ q : Nat, s.heap.size ≤ q → A q) (hK : va_K D vwCl (pfT k) s) (hn : np ≤ 120) (hpt : ∀ q, q < np → pV q = nI (tN (pV q)) ∧ tN (pV q) < 20 ∧ pB q = nI (tN (pB q)) ∧ tN (pB q) < 256)
    (kk : ∀ (tn : Nat) (hN : Nat) (wN : Nat) (rc : Nat → Int32) (iw : Nat → Int32) (wt : Nat → Int32) (ah : Nat → Int64) (be : Nat → Int64) (H : Heap) (locs : List Loc) (ls : Array Slot), (Sv np (ed pX pY np) (gnP pD pV pB) (klP pD pV pB) (b0P vP vG nv) rc iw wt ah hN wN tn (fun _ => False)) → (Bg np (b0P vP vG nv) rc ah) → (46200 ≤ tn ∨ wN = 0) → va_P D vwCl (pfW h k vc vP vO vG (nI np) pD pV pB pX pY sv rc ah be wt iw (nI hN) (nI wN)) H → va_D A (pfW h k vc vP vO vG (nI np) pD pV pB pX pY sv rc ah be wt iw (nI hN) (nI wN)) → va_S A s.heap H locs → lv_has ls 3 [(0, .ref (h 0)), (1, .int (nI tn))] → W p l e rm_solve s m args below meth c H locs 0 0 Q (F0 m 67 ls [])) :
    ∀ (n : Nat) (tn : Nat) (hN : Nat) (wN : Nat) (rc : Nat → Int32) (iw : Nat → Int32) (wt : Nat → Int32) (ah : Nat → Int64) (be : Nat → Int64) (H : Heap) (locs : List Loc) (ls : Array Slot), (Sv np (ed pX pY np) (gnP pD pV pB) (klP pD pV pB) (b0P vP vG nv) rc iw wt ah hN wN tn (fun _ => False)) → (Bg np (b0P vP vG nv) rc ah) → 46200 - tn < n → va_P D vwCl (pfW h k vc vP vO vG (nI np) pD pV pB pX pY sv rc ah be wt iw (nI hN) (nI wN)) H → va_D A (pfW h k vc vP vO vG (nI np) pD pV pB pX pY sv rc ah be wt iw (nI hN) (nI wN)) → va_S A s.heap H locs → lv_has ls 3 [(0, .ref (h 0)), (1, .int (nI tn))] → W p l e rm_solve s m args below meth c H locs 0 0 Q (F0 m 18 ls []) := by
  have hin := in_solve
  intro n
  induction n with
  | zero =>
    intro tn hN wN rc iw wt ah be H locs ls hS0 hB0 hmz
    exact absurd hmz (Nat.not_lt_zero _)
  | succ n ih =>
    intro tn hN wN rc iw wt ah be H locs ls hS0 hB0 hmz hP hD hS hl
    have hgl := gs_le rc ah
    have htw : tn + wN ≤ gs rc ah := hS0.2.2.2.2.1
    have hw120 : wN ≤ 120 := hS0.2.1.2.1
    have hh120 : hN < 120 := hS0.2.1.1
    refine lv_iload_n hx hb dX0_solve_18 rfl (lv_at hl 1 rfl) ?_
    refine lv_ldc (v := 46200) hx hb hown (hts (.constant RX0 128 46200) (by decide +kernel)) dX0_solve_19 ?_
    refine lv_icmp_ge (tgt := 67) hx hb dX0_solve_21 (by decide) (fun c21 => ?_) (fun c21 => ?_)
    · -- 21 t ge 
      have n21 : 46200 ≤ tn := (nI_leI (by decide) (by omega)).mp c21
      exact kk tn hN wN rc iw wt ah be H locs ls (hS0) (hB0) (Or.inl n21) hP hD hS (lv_sub hl [0, 1] rfl)
    · -- 21 f ge 
      have n21 : ¬ 46200 ≤ tn := fun q => c21 ((nI_leI (by decide) (by omega)).mpr q)
      refine lv_aload_n hx hb dX0_solve_24 rfl (lv_at hl 0 rfl) ?_
      refine pf_g_wn hx hb hts hin hown hK hP (by decide +kernel) dX0_solve_25 ?_
      refine lv_if_le (tgt := 67) hx hb dX0_solve_28 (by decide) (fun c28 => ?_) (fun c28 => ?_)
      · -- 28 t le 
        have n28 : wN = 0 := by
          have := (nI_leI (a := wN) (b := 0) (by omega) (by decide)).mp c28
          omega
        exact kk tn hN wN rc iw wt ah be H locs ls (hS0) (hB0) (Or.inr n28) hP hD hS (lv_sub hl [0, 1] rfl)
      · -- 28 f le 
        have n28 : 0 < wN := by
          rcases Nat.eq_zero_or_pos wN with q | q
          · subst q; exact absurd (Int32.le_refl 0) c28
          · exact q
        obtain ⟨j, hj, hwt, hiw, hRg⟩ := Rg_take hS0.2.1 hn n28
        obtain ⟨hv1, hv2, hb1, hb2⟩ := hpt j hj
        refine lv_aload_n hx hb dX0_solve_31 rfl (lv_at hl 0 rfl) ?_
        refine call_vi (As := []) (rest := []) ⟨hx, hb, hml, hown, hts⟩ (c_takeWaiting j hN wN (by omega) hh120 n28 hw120 hwt) cp_solve_takeWaiting ⟨rfl, rfl⟩ ⟨Nat.le_of_ble_eq_true rfl, Nat.le_of_ble_eq_true rfl⟩ rfl rfl 0 rfl rfl hl.1 rfl (Nat.le_of_ble_eq_true rfl) dX0_solve_32 ⟨Nat.zero_le _, Nat.zero_le _⟩ hK hP hD hS hA (fun r32 u H locs p32 hP hD hS => ?_)
        obtain ⟨iw_32, hd_32, wn_32⟩ := u
        have hP : va_P D vwCl (pfW h k vc vP vO vG (nI np) pD pV pB pX pY sv rc ah be wt iw_32 (nI hd_32) (nI wn_32)) H := hP
        have hD : va_D A (pfW h k vc vP vO vG (nI np) pD pV pB pX pY sv rc ah be wt iw_32 (nI hd_32) (nI wn_32)) := hD
        try dsimp only at p32
        obtain ⟨rfl, rfl, rfl, rfl⟩ := p32
        refine lv_istore_n (lv' := [(2, .int (nI j)), (0, .ref (h 0)), (1, .int (nI tn))]) hx hb dX0_solve_35 rfl hl (by decide) rfl (fun ls hl => ?_)
        refine lv_aload_n hx hb dX0_solve_36 rfl (lv_at hl 1 rfl) ?_
        refine lv_iload_n hx hb dX0_solve_37 rfl (lv_at hl 0 rfl) ?_
        refine call_vv (As := [.int (nI j)]) (rest := []) ⟨hx, hb, hml, hown, hts⟩ (c_passThrough j (by omega) hv1 hv2 hb1 hb2) cp_solve_passThrough ⟨rfl, rfl⟩ ⟨Nat.le_of_ble_eq_true rfl, Nat.le_of_ble_eq_true rfl⟩ rfl rfl 0 rfl rfl hl.1 rfl (Nat.le_of_ble_eq_true rfl) dX0_solve_38 ⟨Nat.zero_le _, Nat.zero_le _⟩ hK hP hD hS hA (fun u H locs p38 hP hD hS => ?_)
        obtain ⟨be_38, rfl⟩ : ∃ z, z = u := ⟨_, rfl⟩
        have hP : va_P D vwCl (pfW h k vc vP vO vG (nI np) pD pV pB pX pY sv rc ah be_38 wt (upd iw j 0) (nI ((hN + 1) % 120)) (nI (wN - 1))) H := hP
        have hD : va_D A (pfW h k vc vP vO vG (nI np) pD pV pB pX pY sv rc ah be_38 wt (upd iw j 0) (nI ((hN + 1) % 120)) (nI (wN - 1))) := hD
        try dsimp only at p38
        refine lv_aload_n hx hb dX0_solve_41 rfl (lv_at hl 1 rfl) ?_
        refine lv_aload_n hx hb dX0_solve_42 rfl (lv_at hl 1 rfl) ?_
        refine pf_g_pX hx hb hts hin hown hK hP (by decide +kernel) dX0_solve_43 ?_
        refine lv_iload_n hx hb dX0_solve_46 rfl (lv_at hl 0 rfl) ?_
        refine pf_l_pX (n := j) hx hb hK hP (by omega) dX0_solve_47 ?_
        refine call_vv (As := [.int (pX j)]) (rest := []) ⟨hx, hb, hml, hown, hts⟩ (c_goOnTo (pX j) np ((hN + 1) % 120) (wN - 1) hn (Nat.mod_lt _ (by decide)) (by omega)) cp_solve_goOnTo ⟨rfl, rfl⟩ ⟨Nat.le_of_ble_eq_true rfl, Nat.le_of_ble_eq_true rfl⟩ rfl rfl 0 rfl rfl hl.1 rfl (Nat.le_of_ble_eq_true rfl) dX0_solve_48 ⟨Nat.zero_le _, Nat.zero_le _⟩ hK hP hD hS hA (fun u H locs p48 hP hD hS => ?_)
        obtain ⟨rc_48, iw_48, wt_48, ah_48, wn_48⟩ := u
        have hP : va_P D vwCl (pfW h k vc vP vO vG (nI np) pD pV pB pX pY sv rc_48 ah_48 be_38 wt_48 iw_48 (nI ((hN + 1) % 120)) (nI wn_48)) H := hP
        have hD : va_D A (pfW h k vc vP vO vG (nI np) pD pV pB pX pY sv rc_48 ah_48 be_38 wt_48 iw_48 (nI ((hN + 1) % 120)) (nI wn_48)) := hD
        try dsimp only at p48
        have hw48 : wn_48 ≤ 120 := GoX_le hn hRg p48 hj
        refine lv_aload_n hx hb dX0_solve_51 rfl (lv_at hl 1 rfl) ?_
        refine lv_aload_n hx hb dX0_solve_52 rfl (lv_at hl 1 rfl) ?_
        refine pf_g_pY hx hb hts hin hown hK hP (by decide +kernel) dX0_solve_53 ?_
        refine lv_iload_n hx hb dX0_solve_56 rfl (lv_at hl 0 rfl) ?_
        refine pf_l_pY (n := j) hx hb hK hP (by omega) dX0_solve_57 ?_
        refine call_vv (As := [.int (pY j)]) (rest := []) ⟨hx, hb, hml, hown, hts⟩ (c_goOnTo (pY j) np ((hN + 1) % 120) wn_48 hn (Nat.mod_lt _ (by decide)) hw48) cp_solve_goOnTo ⟨rfl, rfl⟩ ⟨Nat.le_of_ble_eq_true rfl, Nat.le_of_ble_eq_true rfl⟩ rfl rfl 0 rfl rfl hl.1 rfl (Nat.le_of_ble_eq_true rfl) dX0_solve_58 ⟨Nat.zero_le _, Nat.zero_le _⟩ hK hP hD hS hA (fun u H locs p58 hP hD hS => ?_)
        obtain ⟨rc_58, iw_58, wt_58, ah_58, wn_58⟩ := u
        have hP : va_P D vwCl (pfW h k vc vP vO vG (nI np) pD pV pB pX pY sv rc_58 ah_58 be_38 wt_58 iw_58 (nI ((hN + 1) % 120)) (nI wn_58)) H := hP
        have hD : va_D A (pfW h k vc vP vO vG (nI np) pD pV pB pX pY sv rc_58 ah_58 be_38 wt_58 iw_58 (nI ((hN + 1) % 120)) (nI wn_58)) := hD
        try dsimp only at p58
        refine lv_iinc (v := nI (tn + 1)) (lv' := [(1, .int (nI (tn + 1))), (2, .int (nI j)), (0, .ref (h 0))]) hx hb dX0_solve_61 hl (k := 2) rfl (nI_add tn 1) (by decide) rfl (fun ls hl => ?_)
        refine lv_goto (tgt := 18) hx hb dX0_solve_64 (by decide) ?_
        exact ih (tn + 1) ((hN + 1) % 120) wn_58 rc_58 iw_58 wt_58 ah_58 be_38 H locs ls ((it_all hn hj hS0 hB0 hiw n28 hRg (fun w i hw hi => by rw [p38 w hw]; exact Tw_bits hv2 hi) p48 p58).1) ((it_all hn hj hS0 hB0 hiw n28 hRg (fun w i hw hi => by rw [p38 w hw]; exact Tw_bits hv2 hi) p48 p58).2) (by omega) hP hD hS (lv_sub hl [2, 0] rfl)

theorem cp_solve_beginWays : cpV wsX0_solve RX0 125 RX0 yX0_beginWays wsX0_beginWays cX0_beginWays 3 none 0 := ⟨gX0_solve_X0_beginWays, ⟨_, rfl⟩, by decide +kernel⟩
theorem cp_solve_forgetFlow : cpV wsX0_solve RX0 122 RX0 yX0_forgetFlow wsX0_forgetFlow cX0_forgetFlow 2 none 0 := ⟨gX0_solve_X0_forgetFlow, ⟨_, rfl⟩, by decide +kernel⟩
set_option maxHeartbeats 4000000 in
set_option maxRecDepth 100000 in
theorem c_solve {l : Launch} {D : va_G} {h : Nat → Nat} {k : Nat → ClassId} {sv : Int32} {vP vO vG pD pV pB pX pY rc wt iw : Nat → Int32} {ah be : Nat → Int64} (nv np hN wN : Nat) (hg : GI nv np vP pV pB) (hz : ZI nv np vP vG pD pV pB pX pY sv rc iw ah) : ct l yX0_solve wsX0_solve rm_solve D vwCl (pfT k) [.ref (h 0)] (pfW h k (nI nv) vP vO vG (nI np) pD pV pB pX pY sv rc ah be wt iw (nI hN) (nI wN)) (qV D vwCl (pfT k) (fun (u : Int32 × (Nat → Int32) × (Nat → Int32) × (Nat → Int32) × (Nat → Int64) × (Nat → Int64) × Nat × Nat) => SP nv np vP vG pD pV pB pX pY u.1 u.2.1 u.2.2.1 u.2.2.2.2.1) (fun u => pfW h k (nI nv) vP vO vG (nI np) pD pV pB pX pY u.1 u.2.1 u.2.2.2.2.1 u.2.2.2.2.2.1 u.2.2.2.1 u.2.2.1 (nI u.2.2.2.2.2.2.1) (nI u.2.2.2.2.2.2.2))) 0 0 := by
  refine ct_of (cc := cX0_solve) (maxL := 3) (ret := none) (by decide) rfl (Nat.le_of_ble_eq_true rfl) ?_
  intro p e s m below meth c A ls hx hb hr hml hlocks hown hnm hts hA hK hP hD hS hl
  have hown : s.vm.findClass RX0 = some m.cls := hown
  have hin := in_solve
  have hl : lv_has ls 3 [(0, .ref (h 0))] := hl
  obtain ⟨hnv, hn, hvp, hpt⟩ := hg
  refine lv_aload_n hx hb dX0_solve_0 rfl (lv_at hl 0 rfl) ?_
  refine pf_g_sv hx hb hts hin hown hK hP (by decide +kernel) dX0_solve_1 ?_
  refine lv_if_eq (tgt := 8) hx hb dX0_solve_4 (by decide) (fun c4 => ?_) (fun c4 => ?_)
  · -- 4 t eq 
    refine lv_aload_n hx hb dX0_solve_8 rfl (lv_at hl 0 rfl) ?_
    refine call_vv (As := []) (rest := []) ⟨hx, hb, hml, hown, hts⟩ (c_forgetFlow np hn) cp_solve_forgetFlow ⟨rfl, rfl⟩ ⟨Nat.le_of_ble_eq_true rfl, Nat.le_of_ble_eq_true rfl⟩ rfl rfl 0 rfl rfl hl.1 rfl (Nat.le_of_ble_eq_true rfl) dX0_solve_9 ⟨Nat.zero_le _, Nat.zero_le _⟩ hK hP hD hS hA (fun u H locs p9 hP hD hS => ?_)
    obtain ⟨rc_9, iw_9, ah_9⟩ := u
    have hP : va_P D vwCl (pfW h k (nI nv) vP vO vG (nI np) pD pV pB pX pY sv rc_9 ah_9 be wt iw_9 (nI 0) (nI 0)) H := hP
    have hD : va_D A (pfW h k (nI nv) vP vO vG (nI np) pD pV pB pX pY sv rc_9 ah_9 be wt iw_9 (nI 0) (nI 0)) := hD
    try dsimp only at p9
    refine lv_aload_n hx hb dX0_solve_12 rfl (lv_at hl 0 rfl) ?_
    refine call_vv (As := []) (rest := []) ⟨hx, hb, hml, hown, hts⟩ (c_beginWays nv np hnv hvp hn) cp_solve_beginWays ⟨rfl, rfl⟩ ⟨Nat.le_of_ble_eq_true rfl, Nat.le_of_ble_eq_true rfl⟩ rfl rfl 0 rfl rfl hl.1 rfl (Nat.le_of_ble_eq_true rfl) dX0_solve_13 ⟨Nat.zero_le _, Nat.zero_le _⟩ hK hP hD hS hA (fun u H locs p13 hP hD hS => ?_)
    obtain ⟨be_13, rc_13, iw_13, wt_13, ah_13, wn_13⟩ := u
    have hP : va_P D vwCl (pfW h k (nI nv) vP vO vG (nI np) pD pV pB pX pY sv rc_13 ah_13 be_13 wt_13 iw_13 (nI 0) (nI wn_13)) H := hP
    have hD : va_D A (pfW h k (nI nv) vP vO vG (nI np) pD pV pB pX pY sv rc_13 ah_13 be_13 wt_13 iw_13 (nI 0) (nI wn_13)) := hD
    try dsimp only at p13
    have sol := it_begin (pX := pX) (pY := pY) (gn := gnP pD pV pB) (kl := klP pD pV pB) hn (rz_01 p9.1 hz.2.1) p9.1.1 (iz_0 p9.2.1 hz.1) p9.2.2 p13.1 p13.2
    refine lv_iconst (v := nI 0) hx hb dX0_solve_16 (by decide) ?_
    refine lv_istore_n (lv' := [(1, .int (nI 0)), (0, .ref (h 0))]) hx hb dX0_solve_17 rfl hl (by decide) rfl (fun ls hl => ?_)
    refine lp_sol hx hb hml hown hts hA hK hn hpt ?_ _ 0 0 wn_13 rc_13 iw_13 wt_13 ah_13 be_13 _ _ ls (sol.1) (sol.2) (Nat.lt_succ_self _) hP hD hS (lv_sub hl [1, 0] rfl)
    intro tn9 hN9 wN9 rc9 iw9 wt9 ah9 be9 H locs ls hS9 hB9 hex hP hD hS hl
    obtain ⟨hDn, hiw9, hw9⟩ := it_end hn hS9 hB9 hex
    refine lv_aload_n hx hb dX0_solve_67 rfl (lv_at hl 0 rfl) ?_
    refine lv_iconst (v := 1) hx hb dX0_solve_68 (by decide) ?_
    refine pf_p_sv hx hb hts hin hown hK hP hD hS (by decide +kernel) dX0_solve_69 (by decide) (by decide) (fun H locs hP hD hS => ?_)
    exact ret_v hx hb hr hlocks hK hP hD hS dX0_solve_72 (1, rc9, iw9, wt9, ah9, be9, hN9, wN9) rfl (⟨rfl, hDn, hiw9, hS9.1⟩)
  · -- 4 f eq 
    exact ret_v hx hb hr hlocks hK hP hD hS dX0_solve_7 (sv, rc, iw, wt, ah, be, hN, wN) rfl (⟨sv1 hz.2.2 c4, sv2 hz.2.2 c4, hz.1, hz.2.1⟩)
end
section
abbrev rm_isDoing : Room := { frames := 1, cells := 0, slots := 0, locals := 21 }
theorem in_isDoing : ∀ w ∈ u_ws RX0 TX0 18, w ∈ wsX0_isDoing := by decide +kernel
theorem cp_isDoing_isOfSomeParts : cpS wsX0_isDoing RX0 104 yX0_isOfSomeParts wsX0_isOfSomeParts cX0_isOfSomeParts 1 (some .boolean) 1 := ⟨gX0_isDoing_X0_isOfSomeParts, ⟨_, rfl⟩, by decide +kernel⟩
theorem cp_isDoing_isVariable : cpV wsX0_isDoing RX0 101 RX0 yX0_isVariable wsX0_isVariable cX0_isVariable 2 (some .boolean) 1 := ⟨gX0_isDoing_X0_isVariable, ⟨_, rfl⟩, by decide +kernel⟩
set_option maxHeartbeats 4000000 in
set_option maxRecDepth 100000 in
theorem c_isDoing {l : Launch} {D : va_G} {h : Nat → Nat} {k : Nat → ClassId} {pn sv hd wn : Int32} {vP vO vG pD pV pB pX pY rc wt iw : Nat → Int32} {ah be : Nat → Int64} (nv : Nat) (d x a b : Int32) (hnv : nv ≤ 20) : ct l yX0_isDoing wsX0_isDoing rm_isDoing D vwCl (pfT k) [.ref (h 0), .int d, .int x, .int a, .int b] (pfW h k (nI nv) vP vO vG pn pD pV pB pX pY sv rc ah be wt iw hd wn) (qI D vwCl (pfT k) (fun (r : Int32) (u : Unit) => (r = 1 ∧ dOK (nI nv) vP d x a b) ∨ (r = 0 ∧ ¬ dOK (nI nv) vP d x a b)) (fun _ => pfW h k (nI nv) vP vO vG pn pD pV pB pX pY sv rc ah be wt iw hd wn)) 0 0 := by
  refine ct_of (cc := cX0_isDoing) (maxL := 5) (ret := some .boolean) (by decide) rfl (Nat.le_of_ble_eq_true rfl) ?_
  intro p e s m below meth c A ls hx hb hr hml hlocks hown hnm hts hA hK hP hD hS hl
  have hown : s.vm.findClass RX0 = some m.cls := hown
  have hin := in_isDoing
  have hl : lv_has ls 5 [(0, .ref (h 0)), (1, .int d), (2, .int x), (3, .int a), (4, .int b)] := hl
  refine lv_iload_n hx hb dX0_isDoing_0 rfl (lv_at hl 1 rfl) ?_
  refine lv_if_lt (tgt := 9) hx hb dX0_isDoing_1 (by decide) (fun c1 => ?_) (fun c1 => ?_)
  · -- 1 t lt 
    refine lv_iconst (v := 0) hx hb dX0_isDoing_9 (by decide) ?_
    exact ret_z hx hb hr hlocks hK hP hD hS dX0_isDoing_10 () rfl (by decide) (Or.inr ⟨rfl, fun q => q.1 c1⟩)
  · -- 1 f lt 
    refine lv_iload_n hx hb dX0_isDoing_4 rfl (lv_at hl 1 rfl) ?_
    refine lv_iconst (v := 5) hx hb dX0_isDoing_5 (by decide) ?_
    refine lv_icmp_le (tgt := 11) hx hb dX0_isDoing_6 (by decide) (fun c6 => ?_) (fun c6 => ?_)
    · -- 6 t le 
      refine lv_iload_n hx hb dX0_isDoing_11 rfl (lv_at hl 1 rfl) ?_
      refine lv_if_ne (tgt := 17) hx hb dX0_isDoing_12 (by decide) (fun c12 => ?_) (fun c12 => ?_)
      · -- 12 t ne 
        refine lv_aload_n hx hb dX0_isDoing_17 rfl (lv_at hl 0 rfl) ?_
        refine lv_iload_n hx hb dX0_isDoing_18 rfl (lv_at hl 2 rfl) ?_
        refine call_vi (As := [.int x]) (rest := []) ⟨hx, hb, hml, hown, hts⟩ (c_isVariable x) cp_isDoing_isVariable ⟨rfl, rfl⟩ ⟨Nat.le_of_ble_eq_true rfl, Nat.le_of_ble_eq_true rfl⟩ rfl rfl 0 rfl rfl hl.1 rfl (Nat.le_of_ble_eq_true rfl) dX0_isDoing_19 ⟨Nat.zero_le _, Nat.zero_le _⟩ hK hP hD hS hA (fun r19 u H locs p19 hP hD hS => ?_)
        try dsimp only at p19
        refine lv_if_ne (tgt := 27) hx hb dX0_isDoing_22 (by decide) (fun c22 => ?_) (fun c22 => ?_)
        · -- 22 t ne 
          obtain ⟨v, hv, rfl⟩ := pt_in rfl (by omega) p19 c22
          refine lv_iload_n hx hb dX0_isDoing_27 rfl (lv_at hl 1 rfl) ?_
          refine call_si (As := [.int d]) (rest := []) ⟨hx, hb, hml, hown, hts⟩ (c_isOfSomeParts d) cp_isDoing_isOfSomeParts ⟨rfl, rfl⟩ ⟨Nat.le_of_ble_eq_true rfl, Nat.le_of_ble_eq_true rfl⟩ rfl hl.1 rfl (Nat.le_of_ble_eq_true rfl) dX0_isDoing_28 ⟨Nat.zero_le _, Nat.zero_le _⟩ hK hP hS hA (fun r28 u H locs p28 hP hS => ?_)
          try dsimp only at p28
          refine lv_if_eq (tgt := 57) hx hb dX0_isDoing_31 (by decide) (fun c31 => ?_) (fun c31 => ?_)
          · -- 31 t eq 
            refine lv_iconst (v := 1) hx hb dX0_isDoing_57 (by decide) ?_
            refine lv_goto (tgt := 62) hx hb dX0_isDoing_58 (by decide) ?_
            exact ret_z hx hb hr hlocks hK hP hD hS dX0_isDoing_62 () rfl (by decide) (Or.inl ⟨rfl, c1, c6, Or.inr ⟨yn_yes p19 c22, Or.inl (yn_no p28 c31)⟩⟩)
          · -- 31 f eq 
            refine lv_iload_n hx hb dX0_isDoing_34 rfl (lv_at hl 3 rfl) ?_
            refine lv_if_lt (tgt := 61) hx hb dX0_isDoing_35 (by decide) (fun c35 => ?_) (fun c35 => ?_)
            · -- 35 t lt 
              refine lv_iconst (v := 0) hx hb dX0_isDoing_61 (by decide) ?_
              exact ret_z hx hb hr hlocks hK hP hD hS dX0_isDoing_62 () rfl (by decide) (Or.inr ⟨rfl, fun q => q.2.2.elim c12 (fun z => z.2.elim (fun n => n (yn_yes p28 c31)) (fun z => z.1 c35))⟩)
            · -- 35 f lt 
              refine lv_iload hx hb dX0_isDoing_38 (lv_at hl 4 rfl) ?_
              refine lv_iconst (v := 1) hx hb dX0_isDoing_40 (by decide) ?_
              refine lv_icmp_lt (tgt := 61) hx hb dX0_isDoing_41 (by decide) (fun c41 => ?_) (fun c41 => ?_)
              · -- 41 t lt 
                refine lv_iconst (v := 0) hx hb dX0_isDoing_61 (by decide) ?_
                exact ret_z hx hb hr hlocks hK hP hD hS dX0_isDoing_62 () rfl (by decide) (Or.inr ⟨rfl, fun q => q.2.2.elim c12 (fun z => z.2.elim (fun n => n (yn_yes p28 c31)) (fun z => z.2.1 c41))⟩)
              · -- 41 f lt 
                refine lv_iload_n hx hb dX0_isDoing_44 rfl (lv_at hl 3 rfl) ?_
                refine lv_aload_n hx hb dX0_isDoing_45 rfl (lv_at hl 0 rfl) ?_
                refine pf_g_vP hx hb hts hin hown hK hP (by decide +kernel) dX0_isDoing_46 ?_
                refine lv_iload_n hx hb dX0_isDoing_49 rfl (lv_at hl 2 rfl) ?_
                refine pf_l_vP (n := v) hx hb hK hP (by omega) dX0_isDoing_50 ?_
                refine lv_iload hx hb dX0_isDoing_51 (lv_at hl 4 rfl) ?_
                refine lv_isub hx hb dX0_isDoing_53 ?_
                refine lv_icmp_gt (tgt := 61) hx hb dX0_isDoing_54 (by decide) (fun c54 => ?_) (fun c54 => ?_)
                · -- 54 t gt 
                  refine lv_iconst (v := 0) hx hb dX0_isDoing_61 (by decide) ?_
                  exact ret_z hx hb hr hlocks hK hP hD hS dX0_isDoing_62 () rfl (by decide) (Or.inr ⟨rfl, fun q => q.2.2.elim c12 (fun z => z.2.elim (fun n => n (yn_yes p28 c31)) (fun z => z.2.2 (by rw [tN_nI (by omega)]; exact c54)))⟩)
                · -- 54 f gt 
                  refine lv_iconst (v := 1) hx hb dX0_isDoing_57 (by decide) ?_
                  refine lv_goto (tgt := 62) hx hb dX0_isDoing_58 (by decide) ?_
                  exact ret_z hx hb hr hlocks hK hP hD hS dX0_isDoing_62 () rfl (by decide) (Or.inl ⟨rfl, c1, c6, Or.inr ⟨yn_yes p19 c22, Or.inr ⟨c35, c41, by rw [tN_nI (by omega)]; exact c54⟩⟩⟩)
        · -- 22 f ne 
          refine lv_iconst (v := 0) hx hb dX0_isDoing_25 (by decide) ?_
          exact ret_z hx hb hr hlocks hK hP hD hS dX0_isDoing_26 () rfl (by decide) (Or.inr ⟨rfl, fun q => q.2.2.elim c12 (fun z => yn_no p19 c22 z.1)⟩)
      · -- 12 f ne 
        refine lv_iconst (v := 1) hx hb dX0_isDoing_15 (by decide) ?_
        exact ret_z hx hb hr hlocks hK hP hD hS dX0_isDoing_16 () rfl (by decide) (Or.inl ⟨rfl, c1, c6, Or.inl c12⟩)
    · -- 6 f le 
      refine lv_iconst (v := 0) hx hb dX0_isDoing_9 (by decide) ?_
      exact ret_z hx hb hr hlocks hK hP hD hS dX0_isDoing_10 () rfl (by decide) (Or.inr ⟨rfl, fun q => c6 q.2.1⟩)

abbrev rm_bitsOfDoing : Room := { frames := 2, cells := 0, slots := 0, locals := 41 }
theorem in_bitsOfDoing : ∀ w ∈ u_ws RX0 TX0 18, w ∈ wsX0_bitsOfDoing := by decide +kernel
theorem cp_bitsOfDoing_allParts : cpV wsX0_bitsOfDoing RX0 110 RX0 yX0_allParts wsX0_allParts cX0_allParts 2 (some .int) 1 := ⟨gX0_bitsOfDoing_X0_allParts, ⟨_, rfl⟩, by decide +kernel⟩
theorem cp_bitsOfDoing_isOfSomeParts : cpS wsX0_bitsOfDoing RX0 104 yX0_isOfSomeParts wsX0_isOfSomeParts cX0_isOfSomeParts 1 (some .boolean) 1 := ⟨gX0_bitsOfDoing_X0_isOfSomeParts, ⟨_, rfl⟩, by decide +kernel⟩
theorem cp_bitsOfDoing_lowBits : cpS wsX0_bitsOfDoing RX0 107 yX0_lowBits wsX0_lowBits cX0_lowBits 1 (some .int) 1 := ⟨gX0_bitsOfDoing_X0_lowBits, ⟨_, rfl⟩, by decide +kernel⟩
set_option maxHeartbeats 4000000 in
set_option maxRecDepth 100000 in
theorem c_bitsOfDoing {l : Launch} {D : va_G} {h : Nat → Nat} {k : Nat → ClassId} {vc pn sv hd wn : Int32} {vP vO vG pD pV pB pX pY rc wt iw : Nat → Int32} {ah be : Nat → Int64} (d x a b : Int32) (hx4 : ¬ d = 0 → ∃ v, v < 20 ∧ x = nI v) : ct l yX0_bitsOfDoing wsX0_bitsOfDoing rm_bitsOfDoing D vwCl (pfT k) [.ref (h 0), .int d, .int x, .int a, .int b] (pfW h k vc vP vO vG pn pD pV pB pX pY sv rc ah be wt iw hd wn) (qI D vwCl (pfT k) (fun (r : Int32) (u : Unit) => r = bod vP d x a b) (fun _ => pfW h k vc vP vO vG pn pD pV pB pX pY sv rc ah be wt iw hd wn)) 0 0 := by
  refine ct_of (cc := cX0_bitsOfDoing) (maxL := 5) (ret := some .int) (by decide) rfl (Nat.le_of_ble_eq_true rfl) ?_
  intro p e s m below meth c A ls hx hb hr hml hlocks hown hnm hts hA hK hP hD hS hl
  have hown : s.vm.findClass RX0 = some m.cls := hown
  have hin := in_bitsOfDoing
  have hl : lv_has ls 5 [(0, .ref (h 0)), (1, .int d), (2, .int x), (3, .int a), (4, .int b)] := hl
  refine lv_iload_n hx hb dX0_bitsOfDoing_0 rfl (lv_at hl 1 rfl) ?_
  refine lv_if_ne (tgt := 6) hx hb dX0_bitsOfDoing_1 (by decide) (fun c1 => ?_) (fun c1 => ?_)
  · -- 1 t ne 
    refine lv_iload_n hx hb dX0_bitsOfDoing_6 rfl (lv_at hl 1 rfl) ?_
    refine call_si (As := [.int d]) (rest := []) ⟨hx, hb, hml, hown, hts⟩ (c_isOfSomeParts d) cp_bitsOfDoing_isOfSomeParts ⟨rfl, rfl⟩ ⟨Nat.le_of_ble_eq_true rfl, Nat.le_of_ble_eq_true rfl⟩ rfl hl.1 rfl (Nat.le_of_ble_eq_true rfl) dX0_bitsOfDoing_7 ⟨Nat.zero_le _, Nat.zero_le _⟩ hK hP hS hA (fun r7 u H locs p7 hP hS => ?_)
    try dsimp only at p7
    refine lv_if_eq (tgt := 23) hx hb dX0_bitsOfDoing_10 (by decide) (fun c10 => ?_) (fun c10 => ?_)
    · -- 10 t eq 
      obtain ⟨v, hv, rfl⟩ := hx4 c1
      refine lv_aload_n hx hb dX0_bitsOfDoing_23 rfl (lv_at hl 0 rfl) ?_
      refine lv_iload_n hx hb dX0_bitsOfDoing_24 rfl (lv_at hl 2 rfl) ?_
      refine call_vi (As := [.int (nI v)]) (rest := []) ⟨hx, hb, hml, hown, hts⟩ (c_allParts v hv) cp_bitsOfDoing_allParts ⟨rfl, rfl⟩ ⟨Nat.le_of_ble_eq_true rfl, Nat.le_of_ble_eq_true rfl⟩ rfl rfl 0 rfl rfl hl.1 rfl (Nat.le_of_ble_eq_true rfl) dX0_bitsOfDoing_25 ⟨Nat.zero_le _, Nat.zero_le _⟩ hK hP hD hS hA (fun r25 u H locs p25 hP hD hS => ?_)
      try dsimp only at p25
      exact ret_i hx hb hr hlocks hK hP hD hS dX0_bitsOfDoing_28 () rfl (by unfold bod; rw [if_neg c1, if_neg (yn_no p7 c10), tN_nI (by omega)]; exact p25)
    · -- 10 f eq 
      refine lv_iload hx hb dX0_bitsOfDoing_13 (lv_at hl 4 rfl) ?_
      refine call_si (As := [.int b]) (rest := []) ⟨hx, hb, hml, hown, hts⟩ (c_lowBits b) cp_bitsOfDoing_lowBits ⟨rfl, rfl⟩ ⟨Nat.le_of_ble_eq_true rfl, Nat.le_of_ble_eq_true rfl⟩ rfl hl.1 rfl (Nat.le_of_ble_eq_true rfl) dX0_bitsOfDoing_15 ⟨Nat.zero_le _, Nat.zero_le _⟩ hK hP hS hA (fun r15 u H locs p15 hP hS => ?_)
      try dsimp only at p15
      obtain rfl := p15
      refine lv_iload_n hx hb dX0_bitsOfDoing_18 rfl (lv_at hl 3 rfl) ?_
      refine lv_ishl hx hb dX0_bitsOfDoing_19 ?_
      refine lv_goto (tgt := 28) hx hb dX0_bitsOfDoing_20 (by decide) ?_
      exact ret_i hx hb hr hlocks hK hP hD hS dX0_bitsOfDoing_28 () rfl (by unfold bod; rw [if_neg c1, if_pos (yn_yes p7 c10)])
  · -- 1 f ne 
    refine lv_iconst (v := 0) hx hb dX0_bitsOfDoing_4 (by decide) ?_
    exact ret_i hx hb hr hlocks hK hP hD hS dX0_bitsOfDoing_5 () rfl (by unfold bod; rw [if_pos c1])

abbrev rm_solvedBits : Room := { frames := 1, cells := 0, slots := 0, locals := 20 }
theorem in_solvedBits : ∀ w ∈ u_ws RX0 TX0 18, w ∈ wsX0_solvedBits := by decide +kernel
theorem cp_solvedBits_lowBits : cpS wsX0_solvedBits RX0 107 yX0_lowBits wsX0_lowBits cX0_lowBits 1 (some .int) 1 := ⟨gX0_solvedBits_X0_lowBits, ⟨_, rfl⟩, by decide +kernel⟩
theorem cp_solvedBits_shiftOf : cpS wsX0_solvedBits RX0 113 yX0_shiftOf wsX0_shiftOf cX0_shiftOf 1 (some .int) 1 := ⟨gX0_solvedBits_X0_shiftOf, ⟨_, rfl⟩, by decide +kernel⟩
theorem cp_solvedBits_wordOf : cpS wsX0_solvedBits RX0 119 yX0_wordOf wsX0_wordOf cX0_wordOf 1 (some .int) 1 := ⟨gX0_solvedBits_X0_wordOf, ⟨_, rfl⟩, by decide +kernel⟩
set_option maxHeartbeats 4000000 in
set_option maxRecDepth 100000 in
theorem c_solvedBits {l : Launch} {D : va_G} {h : Nat → Nat} {k : Nat → ClassId} {vc pn sv hd wn : Int32} {vP vO vG pD pV pB pX pY rc wt iw : Nat → Int32} {ah be : Nat → Int64} (n v kd : Nat) (hn : n < 120) (hv : v < 20) (hk : kd ≤ 3) : ct l yX0_solvedBits wsX0_solvedBits rm_solvedBits D vwCl (pfT k) [.ref (h 0), .int (nI n), .int (nI v), .int (nI kd)] (pfW h k vc vP vO vG pn pD pV pB pX pY sv rc ah be wt iw hd wn) (qI D vwCl (pfT k) (fun (r : Int32) (u : Unit) => r = sb (ah (n * 6 + kd + v / 8)) v) (fun _ => pfW h k vc vP vO vG pn pD pV pB pX pY sv rc ah be wt iw hd wn)) 0 0 := by
  refine ct_of (cc := cX0_solvedBits) (maxL := 6) (ret := some .int) (by decide) rfl (Nat.le_of_ble_eq_true rfl) ?_
  intro p e s m below meth c A ls hx hb hr hml hlocks hown hnm hts hA hK hP hD hS hl
  have hown : s.vm.findClass RX0 = some m.cls := hown
  have hin := in_solvedBits
  have hl : lv_has ls 6 [(0, .ref (h 0)), (1, .int (nI n)), (2, .int (nI v)), (3, .int (nI kd))] := hl
  refine lv_aload_n hx hb dX0_solvedBits_0 rfl (lv_at hl 0 rfl) ?_
  refine pf_g_ah hx hb hts hin hown hK hP (by decide +kernel) dX0_solvedBits_1 ?_
  refine lv_iload_n hx hb dX0_solvedBits_4 rfl (lv_at hl 1 rfl) ?_
  refine lv_bipush (v := 6) hx hb dX0_solvedBits_5 (by decide) ?_
  refine lv_imul hx hb dX0_solvedBits_7 ?_
  refine lv_topi (fun x_1 ex_1 => ?_)
  obtain rfl : x_1 = nI (n * 6) := ex_1.trans (pk_mul n 6)
  refine lv_iload_n hx hb dX0_solvedBits_8 rfl (lv_at hl 3 rfl) ?_
  refine lv_iadd hx hb dX0_solvedBits_9 ?_
  refine lv_topi (fun x_2 ex_2 => ?_)
  obtain rfl : x_2 = nI ((n * 6) + kd) := ex_2.trans (nI_add (n * 6) kd)
  refine lv_iload_n hx hb dX0_solvedBits_10 rfl (lv_at hl 2 rfl) ?_
  refine call_si (As := [.int (nI v)]) (rest := [.int (nI ((n * 6) + kd)), .ref (h 10)]) ⟨hx, hb, hml, hown, hts⟩ (c_wordOf v (by omega)) cp_solvedBits_wordOf ⟨rfl, rfl⟩ ⟨Nat.le_of_ble_eq_true rfl, Nat.le_of_ble_eq_true rfl⟩ rfl hl.1 rfl (Nat.le_of_ble_eq_true rfl) dX0_solvedBits_11 ⟨Nat.zero_le _, Nat.zero_le _⟩ hK hP hS hA (fun r11 u H locs p11 hP hS => ?_)
  try dsimp only at p11
  obtain rfl := p11
  refine lv_iadd hx hb dX0_solvedBits_14 ?_
  refine lv_topi (fun x_3 ex_3 => ?_)
  obtain rfl : x_3 = nI (((n * 6) + kd) + (v / 8)) := ex_3.trans (nI_add ((n * 6) + kd) (v / 8))
  refine pf_l_ah (n := (((n * 6) + kd) + (v / 8))) hx hb hK hP (by omega) dX0_solvedBits_15 ?_
  refine lv_lstore (lv' := [(4, .long (ah (((n * 6) + kd) + (v / 8)))), (0, .ref (h 0)), (1, .int (nI n)), (2, .int (nI v)), (3, .int (nI kd))]) hx hb dX0_solvedBits_16 hl (by decide) rfl (fun ls hl => ?_)
  refine lv_lload hx hb dX0_solvedBits_18 (lv_at hl 0 rfl) ?_
  refine lv_iload_n hx hb dX0_solvedBits_20 rfl (lv_at hl 3 rfl) ?_
  refine call_si (As := [.int (nI v)]) (rest := [.long (ah (((n * 6) + kd) + (v / 8)))]) ⟨hx, hb, hml, hown, hts⟩ (c_shiftOf v (by omega)) cp_solvedBits_shiftOf ⟨rfl, rfl⟩ ⟨Nat.le_of_ble_eq_true rfl, Nat.le_of_ble_eq_true rfl⟩ rfl hl.1 rfl (Nat.le_of_ble_eq_true rfl) dX0_solvedBits_21 ⟨Nat.zero_le _, Nat.zero_le _⟩ hK hP hS hA (fun r21 u H locs p21 hP hS => ?_)
  try dsimp only at p21
  obtain rfl := p21
  refine lv_lushr (v := ((ah (((n * 6) + kd) + (v / 8))).toUInt64 >>> ((nI (v % 8 * 8)).toInt64.toUInt64 &&& Int64.toUInt64 63)).toInt64) hx hb dX0_solvedBits_24 rfl ?_
  refine lv_l2i (v := (((ah (((n * 6) + kd) + (v / 8))).toUInt64 >>> ((nI (v % 8 * 8)).toInt64.toUInt64 &&& Int64.toUInt64 63)).toInt64).toInt32) hx hb dX0_solvedBits_25 rfl ?_
  refine lv_bipush (v := 8) hx hb dX0_solvedBits_26 (by decide) ?_
  refine call_si (As := [.int 8]) (rest := [.int ((((ah (((n * 6) + kd) + (v / 8))).toUInt64 >>> ((nI (v % 8 * 8)).toInt64.toUInt64 &&& Int64.toUInt64 63)).toInt64).toInt32)]) ⟨hx, hb, hml, hown, hts⟩ (c_lowBits 8) cp_solvedBits_lowBits ⟨rfl, rfl⟩ ⟨Nat.le_of_ble_eq_true rfl, Nat.le_of_ble_eq_true rfl⟩ rfl hl.1 rfl (Nat.le_of_ble_eq_true rfl) dX0_solvedBits_28 ⟨Nat.zero_le _, Nat.zero_le _⟩ hK hP hS hA (fun r28 u H locs p28 hP hS => ?_)
  try dsimp only at p28
  obtain rfl := p28
  refine lv_iand hx hb dX0_solvedBits_31 ?_
  exact ret_i hx hb hr hlocks hK hP hD hS dX0_solvedBits_32 () rfl (rfl)

abbrev rm_faultOfPoint : Room := { frames := 2, cells := 0, slots := 0, locals := 45 }
theorem in_faultOfPoint : ∀ w ∈ u_ws RX0 TX0 18, w ∈ wsX0_faultOfPoint := by decide +kernel
theorem cp_faultOfPoint_allParts : cpV wsX0_faultOfPoint RX0 110 RX0 yX0_allParts wsX0_allParts cX0_allParts 2 (some .int) 1 := ⟨gX0_faultOfPoint_X0_allParts, ⟨_, rfl⟩, by decide +kernel⟩
theorem cp_faultOfPoint_solvedBits : cpV wsX0_faultOfPoint RX0 116 RX0 yX0_solvedBits wsX0_solvedBits cX0_solvedBits 6 (some .int) 3 := ⟨gX0_faultOfPoint_X0_solvedBits, ⟨_, rfl⟩, by decide +kernel⟩
set_option maxHeartbeats 4000000 in
set_option maxRecDepth 100000 in
theorem c_faultOfPoint {l : Launch} {D : va_G} {h : Nat → Nat} {k : Nat → ClassId} {vc pn sv hd wn : Int32} {vP vO vG pD pV pB pX pY rc wt iw : Nat → Int32} {ah be : Nat → Int64} (j : Nat) (hj : j < 120) (hv1 : pV j = nI (tN (pV j))) (hv2 : tN (pV j) < 20) : ct l yX0_faultOfPoint wsX0_faultOfPoint rm_faultOfPoint D vwCl (pfT k) [.ref (h 0), .int (nI j)] (pfW h k vc vP vO vG pn pD pV pB pX pY sv rc ah be wt iw hd wn) (qI D vwCl (pfT k) (fun (r : Int32) (u : Unit) => r = fop vP vO pD pV pB rc ah j) (fun _ => pfW h k vc vP vO vG pn pD pV pB pX pY sv rc ah be wt iw hd wn)) 0 0 := by
  refine ct_of (cc := cX0_faultOfPoint) (maxL := 5) (ret := some .int) (by decide) rfl (Nat.le_of_ble_eq_true rfl) ?_
  intro p e s m below meth c A ls hx hb hr hml hlocks hown hnm hts hA hK hP hD hS hl
  have hown : s.vm.findClass RX0 = some m.cls := hown
  have hin := in_faultOfPoint
  have hl : lv_has ls 5 [(0, .ref (h 0)), (1, .int (nI j))] := hl
  refine lv_aload_n hx hb dX0_faultOfPoint_0 rfl (lv_at hl 0 rfl) ?_
  refine pf_g_rc hx hb hts hin hown hK hP (by decide +kernel) dX0_faultOfPoint_1 ?_
  refine lv_iload_n hx hb dX0_faultOfPoint_4 rfl (lv_at hl 1 rfl) ?_
  refine pf_l_rc (n := j) hx hb hK hP (by omega) dX0_faultOfPoint_5 ?_
  refine lv_if_ne (tgt := 11) hx hb dX0_faultOfPoint_6 (by decide) (fun c6 => ?_) (fun c6 => ?_)
  · -- 6 t ne 
    refine lv_aload_n hx hb dX0_faultOfPoint_11 rfl (lv_at hl 0 rfl) ?_
    refine pf_g_pD hx hb hts hin hown hK hP (by decide +kernel) dX0_faultOfPoint_12 ?_
    refine lv_iload_n hx hb dX0_faultOfPoint_15 rfl (lv_at hl 1 rfl) ?_
    refine pf_l_pD (n := j) hx hb hK hP (by omega) dX0_faultOfPoint_16 ?_
    refine lv_istore_n (lv' := [(2, .int (pD j)), (0, .ref (h 0)), (1, .int (nI j))]) hx hb dX0_faultOfPoint_17 rfl hl (by decide) rfl (fun ls hl => ?_)
    refine lv_aload_n hx hb dX0_faultOfPoint_18 rfl (lv_at hl 1 rfl) ?_
    refine pf_g_pV hx hb hts hin hown hK hP (by decide +kernel) dX0_faultOfPoint_19 ?_
    refine lv_iload_n hx hb dX0_faultOfPoint_22 rfl (lv_at hl 2 rfl) ?_
    refine pf_l_pV (n := j) hx hb hK hP (by omega) dX0_faultOfPoint_23 ?_
    refine lv_topi (fun x_1 ex_1 => ?_)
    obtain rfl : x_1 = nI (tN (pV j)) := ex_1.trans (hv1)
    refine lv_istore_n (lv' := [(3, .int (nI (tN (pV j)))), (2, .int (pD j)), (0, .ref (h 0)), (1, .int (nI j))]) hx hb dX0_faultOfPoint_24 rfl hl (by decide) rfl (fun ls hl => ?_)
    refine lv_iload_n hx hb dX0_faultOfPoint_25 rfl (lv_at hl 1 rfl) ?_
    refine lv_iconst (v := 2) hx hb dX0_faultOfPoint_26 (by decide) ?_
    refine lv_icmp_eq (tgt := 35) hx hb dX0_faultOfPoint_27 (by decide) (fun c27 => ?_) (fun c27 => ?_)
    · -- 27 t eq 
      refine lv_aload_n hx hb dX0_faultOfPoint_35 rfl (lv_at hl 2 rfl) ?_
      refine lv_iload_n hx hb dX0_faultOfPoint_36 rfl (lv_at hl 3 rfl) ?_
      refine lv_iload_n hx hb dX0_faultOfPoint_37 rfl (lv_at hl 0 rfl) ?_
      refine lv_iconst (v := nI 0) hx hb dX0_faultOfPoint_38 (by decide) ?_
      refine call_vi (As := [.int (nI j), .int (nI (tN (pV j))), .int (nI 0)]) (rest := []) ⟨hx, hb, hml, hown, hts⟩ (c_solvedBits j (tN (pV j)) 0 hj hv2 (by decide)) cp_faultOfPoint_solvedBits ⟨rfl, rfl⟩ ⟨Nat.le_of_ble_eq_true rfl, Nat.le_of_ble_eq_true rfl⟩ rfl rfl 0 rfl rfl hl.1 rfl (Nat.le_of_ble_eq_true rfl) dX0_faultOfPoint_39 ⟨Nat.zero_le _, Nat.zero_le _⟩ hK hP hD hS hA (fun r39 u H locs p39 hP hD hS => ?_)
      try dsimp only at p39
      obtain rfl := p39
      refine lv_aload_n hx hb dX0_faultOfPoint_42 rfl (lv_at hl 2 rfl) ?_
      refine pf_g_pB hx hb hts hin hown hK hP (by decide +kernel) dX0_faultOfPoint_43 ?_
      refine lv_iload_n hx hb dX0_faultOfPoint_46 rfl (lv_at hl 3 rfl) ?_
      refine pf_l_pB (n := j) hx hb hK hP (by omega) dX0_faultOfPoint_47 ?_
      refine lv_iand hx hb dX0_faultOfPoint_48 ?_
      refine lv_istore (lv' := [(4, .int ((sb (ah (j * 6 + 0 + tN (pV j) / 8)) (tN (pV j))) &&& (pB j))), (3, .int (nI (tN (pV j)))), (2, .int (pD j)), (0, .ref (h 0)), (1, .int (nI j))]) hx hb dX0_faultOfPoint_49 hl (by decide) rfl (fun ls hl => ?_)
      refine lv_iload hx hb dX0_faultOfPoint_51 (lv_at hl 0 rfl) ?_
      refine lv_if_eq (tgt := 60) hx hb dX0_faultOfPoint_53 (by decide) (fun c53 => ?_) (fun c53 => ?_)
      · -- 53 t eq 
        refine lv_iconst (v := 0) hx hb dX0_faultOfPoint_60 (by decide) ?_
        exact ret_i hx hb hr hlocks hK hP hD hS dX0_faultOfPoint_61 () rfl (by unfold fop; rw [if_neg c6, if_pos (Or.inl c27), if_pos c53])
      · -- 53 f eq 
        refine lv_iconst (v := 1) hx hb dX0_faultOfPoint_56 (by decide) ?_
        refine lv_goto (tgt := 61) hx hb dX0_faultOfPoint_57 (by decide) ?_
        exact ret_i hx hb hr hlocks hK hP hD hS dX0_faultOfPoint_61 () rfl (by unfold fop; rw [if_neg c6, if_pos (Or.inl c27), if_neg c53])
    · -- 27 f eq 
      refine lv_iload_n hx hb dX0_faultOfPoint_30 rfl (lv_at hl 1 rfl) ?_
      refine lv_iconst (v := 3) hx hb dX0_faultOfPoint_31 (by decide) ?_
      refine lv_icmp_ne (tgt := 62) hx hb dX0_faultOfPoint_32 (by decide) (fun c32 => ?_) (fun c32 => ?_)
      · -- 32 t ne 
        refine lv_iload_n hx hb dX0_faultOfPoint_62 rfl (lv_at hl 1 rfl) ?_
        refine lv_iconst (v := 1) hx hb dX0_faultOfPoint_63 (by decide) ?_
        refine lv_icmp_ne (tgt := 76) hx hb dX0_faultOfPoint_64 (by decide) (fun c64 => ?_) (fun c64 => ?_)
        · -- 64 t ne 
          refine lv_iconst (v := 0) hx hb dX0_faultOfPoint_76 (by decide) ?_
          exact ret_i hx hb hr hlocks hK hP hD hS dX0_faultOfPoint_77 () rfl (by unfold fop; rw [if_neg c6, if_neg (fun q => q.elim c27 c32), if_pos (Or.inl c64)])
        · -- 64 f ne 
          refine lv_aload_n hx hb dX0_faultOfPoint_67 rfl (lv_at hl 2 rfl) ?_
          refine pf_g_vO hx hb hts hin hown hK hP (by decide +kernel) dX0_faultOfPoint_68 ?_
          refine lv_iload_n hx hb dX0_faultOfPoint_71 rfl (lv_at hl 0 rfl) ?_
          refine pf_l_vO (n := (tN (pV j))) hx hb hK hP (by omega) dX0_faultOfPoint_72 ?_
          refine lv_if_ne (tgt := 78) hx hb dX0_faultOfPoint_73 (by decide) (fun c73 => ?_) (fun c73 => ?_)
          · -- 73 t ne 
            refine lv_aload_n hx hb dX0_faultOfPoint_78 rfl (lv_at hl 2 rfl) ?_
            refine pf_g_pB hx hb hts hin hown hK hP (by decide +kernel) dX0_faultOfPoint_79 ?_
            refine lv_iload_n hx hb dX0_faultOfPoint_82 rfl (lv_at hl 3 rfl) ?_
            refine pf_l_pB (n := j) hx hb hK hP (by omega) dX0_faultOfPoint_83 ?_
            refine lv_aload_n hx hb dX0_faultOfPoint_84 rfl (lv_at hl 2 rfl) ?_
            refine lv_iload_n hx hb dX0_faultOfPoint_85 rfl (lv_at hl 0 rfl) ?_
            refine call_vi (As := [.int (nI (tN (pV j)))]) (rest := [.int (pB j)]) ⟨hx, hb, hml, hown, hts⟩ (c_allParts (tN (pV j)) hv2) cp_faultOfPoint_allParts ⟨rfl, rfl⟩ ⟨Nat.le_of_ble_eq_true rfl, Nat.le_of_ble_eq_true rfl⟩ rfl rfl 0 rfl rfl hl.1 rfl (Nat.le_of_ble_eq_true rfl) dX0_faultOfPoint_86 ⟨Nat.zero_le _, Nat.zero_le _⟩ hK hP hD hS hA (fun r86 u H locs p86 hP hD hS => ?_)
            try dsimp only at p86
            obtain rfl := p86
            refine lv_icmp_eq (tgt := 94) hx hb dX0_faultOfPoint_89 (by decide) (fun c89 => ?_) (fun c89 => ?_)
            · -- 89 t eq 
              refine lv_aload_n hx hb dX0_faultOfPoint_94 rfl (lv_at hl 2 rfl) ?_
              refine lv_iload_n hx hb dX0_faultOfPoint_95 rfl (lv_at hl 3 rfl) ?_
              refine lv_iload_n hx hb dX0_faultOfPoint_96 rfl (lv_at hl 0 rfl) ?_
              refine lv_iconst (v := nI 3) hx hb dX0_faultOfPoint_97 (by decide) ?_
              refine call_vi (As := [.int (nI j), .int (nI (tN (pV j))), .int (nI 3)]) (rest := []) ⟨hx, hb, hml, hown, hts⟩ (c_solvedBits j (tN (pV j)) 3 hj hv2 (by decide)) cp_faultOfPoint_solvedBits ⟨rfl, rfl⟩ ⟨Nat.le_of_ble_eq_true rfl, Nat.le_of_ble_eq_true rfl⟩ rfl rfl 0 rfl rfl hl.1 rfl (Nat.le_of_ble_eq_true rfl) dX0_faultOfPoint_98 ⟨Nat.zero_le _, Nat.zero_le _⟩ hK hP hD hS hA (fun r98 u H locs p98 hP hD hS => ?_)
              try dsimp only at p98
              obtain rfl := p98
              refine lv_if_eq (tgt := 108) hx hb dX0_faultOfPoint_101 (by decide) (fun c101 => ?_) (fun c101 => ?_)
              · -- 101 t eq 
                refine lv_iconst (v := 0) hx hb dX0_faultOfPoint_108 (by decide) ?_
                exact ret_i hx hb hr hlocks hK hP hD hS dX0_faultOfPoint_109 () rfl (by unfold fop; rw [if_neg c6, if_neg (fun q => q.elim c27 c32), if_neg (fun q => q.elim (fun z => z c64) c73), if_neg (fun q => q c89), if_pos c101])
              · -- 101 f eq 
                refine lv_iconst (v := 2) hx hb dX0_faultOfPoint_104 (by decide) ?_
                refine lv_goto (tgt := 109) hx hb dX0_faultOfPoint_105 (by decide) ?_
                exact ret_i hx hb hr hlocks hK hP hD hS dX0_faultOfPoint_109 () rfl (by unfold fop; rw [if_neg c6, if_neg (fun q => q.elim c27 c32), if_neg (fun q => q.elim (fun z => z c64) c73), if_neg (fun q => q c89), if_neg c101])
            · -- 89 f eq 
              refine lv_iconst (v := 3) hx hb dX0_faultOfPoint_92 (by decide) ?_
              exact ret_i hx hb hr hlocks hK hP hD hS dX0_faultOfPoint_93 () rfl (by unfold fop; rw [if_neg c6, if_neg (fun q => q.elim c27 c32), if_neg (fun q => q.elim (fun z => z c64) c73), if_pos c89])
          · -- 73 f ne 
            refine lv_iconst (v := 0) hx hb dX0_faultOfPoint_76 (by decide) ?_
            exact ret_i hx hb hr hlocks hK hP hD hS dX0_faultOfPoint_77 () rfl (by unfold fop; rw [if_neg c6, if_neg (fun q => q.elim c27 c32), if_pos (Or.inr c73)])
      · -- 32 f ne 
        refine lv_aload_n hx hb dX0_faultOfPoint_35 rfl (lv_at hl 2 rfl) ?_
        refine lv_iload_n hx hb dX0_faultOfPoint_36 rfl (lv_at hl 3 rfl) ?_
        refine lv_iload_n hx hb dX0_faultOfPoint_37 rfl (lv_at hl 0 rfl) ?_
        refine lv_iconst (v := nI 0) hx hb dX0_faultOfPoint_38 (by decide) ?_
        refine call_vi (As := [.int (nI j), .int (nI (tN (pV j))), .int (nI 0)]) (rest := []) ⟨hx, hb, hml, hown, hts⟩ (c_solvedBits j (tN (pV j)) 0 hj hv2 (by decide)) cp_faultOfPoint_solvedBits ⟨rfl, rfl⟩ ⟨Nat.le_of_ble_eq_true rfl, Nat.le_of_ble_eq_true rfl⟩ rfl rfl 0 rfl rfl hl.1 rfl (Nat.le_of_ble_eq_true rfl) dX0_faultOfPoint_39 ⟨Nat.zero_le _, Nat.zero_le _⟩ hK hP hD hS hA (fun r39 u H locs p39 hP hD hS => ?_)
        try dsimp only at p39
        obtain rfl := p39
        refine lv_aload_n hx hb dX0_faultOfPoint_42 rfl (lv_at hl 2 rfl) ?_
        refine pf_g_pB hx hb hts hin hown hK hP (by decide +kernel) dX0_faultOfPoint_43 ?_
        refine lv_iload_n hx hb dX0_faultOfPoint_46 rfl (lv_at hl 3 rfl) ?_
        refine pf_l_pB (n := j) hx hb hK hP (by omega) dX0_faultOfPoint_47 ?_
        refine lv_iand hx hb dX0_faultOfPoint_48 ?_
        refine lv_istore (lv' := [(4, .int ((sb (ah (j * 6 + 0 + tN (pV j) / 8)) (tN (pV j))) &&& (pB j))), (3, .int (nI (tN (pV j)))), (2, .int (pD j)), (0, .ref (h 0)), (1, .int (nI j))]) hx hb dX0_faultOfPoint_49 hl (by decide) rfl (fun ls hl => ?_)
        refine lv_iload hx hb dX0_faultOfPoint_51 (lv_at hl 0 rfl) ?_
        refine lv_if_eq (tgt := 60) hx hb dX0_faultOfPoint_53 (by decide) (fun c53 => ?_) (fun c53 => ?_)
        · -- 53 t eq 
          refine lv_iconst (v := 0) hx hb dX0_faultOfPoint_60 (by decide) ?_
          exact ret_i hx hb hr hlocks hK hP hD hS dX0_faultOfPoint_61 () rfl (by unfold fop; rw [if_neg c6, if_pos (Or.inr c32), if_pos c53])
        · -- 53 f eq 
          refine lv_iconst (v := 1) hx hb dX0_faultOfPoint_56 (by decide) ?_
          refine lv_goto (tgt := 61) hx hb dX0_faultOfPoint_57 (by decide) ?_
          exact ret_i hx hb hr hlocks hK hP hD hS dX0_faultOfPoint_61 () rfl (by unfold fop; rw [if_neg c6, if_pos (Or.inr c32), if_neg c53])
  · -- 6 f ne 
    refine lv_iconst (v := 0) hx hb dX0_faultOfPoint_9 (by decide) ?_
    exact ret_i hx hb hr hlocks hK hP hD hS dX0_faultOfPoint_10 () rfl (by unfold fop; rw [if_pos c6])
end
section
abbrev rm_bitsAhead : Room := { frames := 4, cells := 0, slots := 0, locals := 92 }
theorem in_bitsAhead : ∀ w ∈ u_ws RX0 TX0 18, w ∈ wsX0_bitsAhead := by decide +kernel
theorem cp_bitsAhead_isPoint : cpV wsX0_bitsAhead RX0 70 RX0 yX0_isPoint wsX0_isPoint cX0_isPoint 2 (some .boolean) 1 := ⟨gX0_bitsAhead_X0_isPoint, ⟨_, rfl⟩, by decide +kernel⟩
theorem cp_bitsAhead_isVariable : cpV wsX0_bitsAhead RX0 101 RX0 yX0_isVariable wsX0_isVariable cX0_isVariable 2 (some .boolean) 1 := ⟨gX0_bitsAhead_X0_isVariable, ⟨_, rfl⟩, by decide +kernel⟩
theorem cp_bitsAhead_solve : cpV wsX0_bitsAhead RX0 77 RX0 yX0_solve wsX0_solve cX0_solve 3 none 0 := ⟨gX0_bitsAhead_X0_solve, ⟨_, rfl⟩, by decide +kernel⟩
theorem cp_bitsAhead_solvedBits : cpV wsX0_bitsAhead RX0 116 RX0 yX0_solvedBits wsX0_solvedBits cX0_solvedBits 6 (some .int) 3 := ⟨gX0_bitsAhead_X0_solvedBits, ⟨_, rfl⟩, by decide +kernel⟩
set_option maxHeartbeats 4000000 in
set_option maxRecDepth 100000 in
theorem c_bitsAhead {l : Launch} {D : va_G} {h : Nat → Nat} {k : Nat → ClassId} {sv : Int32} {vP vO vG pD pV pB pX pY rc wt iw : Nat → Int32} {ah be : Nat → Int64} (nv np hN wN : Nat) (x y : Int32) (kd : Nat) (hg : GI nv np vP pV pB) (hz : ZI nv np vP vG pD pV pB pX pY sv rc iw ah) (hk : kd ≤ 3) : ct l yX0_bitsAhead wsX0_bitsAhead rm_bitsAhead D vwCl (pfT k) [.ref (h 0), .int x, .int y, .int (nI kd)] (pfW h k (nI nv) vP vO vG (nI np) pD pV pB pX pY sv rc ah be wt iw (nI hN) (nI wN)) (qI D vwCl (pfT k) (fun (r : Int32) (u : Int32 × (Nat → Int32) × (Nat → Int32) × (Nat → Int32) × (Nat → Int64) × (Nat → Int64) × Nat × Nat) => ZI nv np vP vG pD pV pB pX pY u.1 u.2.1 u.2.2.1 u.2.2.2.2.1 ∧ ((((∀ j, j < np → ¬ x = nI j) ∨ ∀ v, v < nv → ¬ y = nI v) ∧ r = 0) ∨ ∃ j v, j < np ∧ v < nv ∧ x = nI j ∧ y = nI v ∧ DnG nv np vP vG pD pV pB pX pY u.2.1 u.2.2.2.2.1 ∧ r = sb (u.2.2.2.2.1 (j * 6 + kd + v / 8)) v)) (fun u => pfW h k (nI nv) vP vO vG (nI np) pD pV pB pX pY u.1 u.2.1 u.2.2.2.2.1 u.2.2.2.2.2.1 u.2.2.2.1 u.2.2.1 (nI u.2.2.2.2.2.2.1) (nI u.2.2.2.2.2.2.2))) 0 0 := by
  refine ct_of (cc := cX0_bitsAhead) (maxL := 4) (ret := some .int) (by decide) rfl (Nat.le_of_ble_eq_true rfl) ?_
  intro p e s m below meth c A ls hx hb hr hml hlocks hown hnm hts hA hK hP hD hS hl
  have hown : s.vm.findClass RX0 = some m.cls := hown
  have hin := in_bitsAhead
  have hl : lv_has ls 4 [(0, .ref (h 0)), (1, .int x), (2, .int y), (3, .int (nI kd))] := hl
  have hnv : nv ≤ 20 := hg.1
  have hn : np ≤ 120 := hg.2.1
  refine lv_aload_n hx hb dX0_bitsAhead_0 rfl (lv_at hl 0 rfl) ?_
  refine lv_iload_n hx hb dX0_bitsAhead_1 rfl (lv_at hl 1 rfl) ?_
  refine call_vi (As := [.int x]) (rest := []) ⟨hx, hb, hml, hown, hts⟩ (c_isPoint x) cp_bitsAhead_isPoint ⟨rfl, rfl⟩ ⟨Nat.le_of_ble_eq_true rfl, Nat.le_of_ble_eq_true rfl⟩ rfl rfl 0 rfl rfl hl.1 rfl (Nat.le_of_ble_eq_true rfl) dX0_bitsAhead_2 ⟨Nat.zero_le _, Nat.zero_le _⟩ hK hP hD hS hA (fun r2 u H locs p2 hP hD hS => ?_)
  try dsimp only at p2
  refine lv_if_eq (tgt := 16) hx hb dX0_bitsAhead_5 (by decide) (fun c5 => ?_) (fun c5 => ?_)
  · -- 5 t eq 
    refine lv_iconst (v := 0) hx hb dX0_bitsAhead_16 (by decide) ?_
    exact ret_i hx hb hr hlocks hK hP hD hS dX0_bitsAhead_17 (sv, rc, iw, wt, ah, be, hN, wN) rfl (⟨hz, Or.inl ⟨Or.inl (pt_out rfl hn p2 c5), rfl⟩⟩)
  · -- 5 f eq 
    obtain ⟨j, hj, rfl⟩ := pt_in rfl hn p2 c5
    refine lv_aload_n hx hb dX0_bitsAhead_8 rfl (lv_at hl 0 rfl) ?_
    refine lv_iload_n hx hb dX0_bitsAhead_9 rfl (lv_at hl 2 rfl) ?_
    refine call_vi (As := [.int y]) (rest := []) ⟨hx, hb, hml, hown, hts⟩ (c_isVariable y) cp_bitsAhead_isVariable ⟨rfl, rfl⟩ ⟨Nat.le_of_ble_eq_true rfl, Nat.le_of_ble_eq_true rfl⟩ rfl rfl 0 rfl rfl hl.1 rfl (Nat.le_of_ble_eq_true rfl) dX0_bitsAhead_10 ⟨Nat.zero_le _, Nat.zero_le _⟩ hK hP hD hS hA (fun r10 u H locs p10 hP hD hS => ?_)
    try dsimp only at p10
    refine lv_if_ne (tgt := 18) hx hb dX0_bitsAhead_13 (by decide) (fun c13 => ?_) (fun c13 => ?_)
    · -- 13 t ne 
      obtain ⟨v, hv, rfl⟩ := pt_in rfl (by omega) p10 c13
      refine lv_aload_n hx hb dX0_bitsAhead_18 rfl (lv_at hl 0 rfl) ?_
      refine call_vv (As := []) (rest := []) ⟨hx, hb, hml, hown, hts⟩ (c_solve nv np hN wN hg hz) cp_bitsAhead_solve ⟨rfl, rfl⟩ ⟨Nat.le_of_ble_eq_true rfl, Nat.le_of_ble_eq_true rfl⟩ rfl rfl 0 rfl rfl hl.1 rfl (Nat.le_of_ble_eq_true rfl) dX0_bitsAhead_19 ⟨Nat.zero_le _, Nat.zero_le _⟩ hK hP hD hS hA (fun u H locs p19 hP hD hS => ?_)
      obtain ⟨sv_19, rc_19, iw_19, wt_19, ah_19, be_19, hd_19, wn_19⟩ := u
      have hP : va_P D vwCl (pfW h k (nI nv) vP vO vG (nI np) pD pV pB pX pY sv_19 rc_19 ah_19 be_19 wt_19 iw_19 (nI hd_19) (nI wn_19)) H := hP
      have hD : va_D A (pfW h k (nI nv) vP vO vG (nI np) pD pV pB pX pY sv_19 rc_19 ah_19 be_19 wt_19 iw_19 (nI hd_19) (nI wn_19)) := hD
      try dsimp only at p19
      refine lv_aload_n hx hb dX0_bitsAhead_22 rfl (lv_at hl 0 rfl) ?_
      refine lv_iload_n hx hb dX0_bitsAhead_23 rfl (lv_at hl 1 rfl) ?_
      refine lv_iload_n hx hb dX0_bitsAhead_24 rfl (lv_at hl 2 rfl) ?_
      refine lv_iload_n hx hb dX0_bitsAhead_25 rfl (lv_at hl 3 rfl) ?_
      refine call_vi (As := [.int (nI j), .int (nI v), .int (nI kd)]) (rest := []) ⟨hx, hb, hml, hown, hts⟩ (c_solvedBits j v kd (by omega) (by omega) hk) cp_bitsAhead_solvedBits ⟨rfl, rfl⟩ ⟨Nat.le_of_ble_eq_true rfl, Nat.le_of_ble_eq_true rfl⟩ rfl rfl 0 rfl rfl hl.1 rfl (Nat.le_of_ble_eq_true rfl) dX0_bitsAhead_26 ⟨Nat.zero_le _, Nat.zero_le _⟩ hK hP hD hS hA (fun r26 u H locs p26 hP hD hS => ?_)
      try dsimp only at p26
      exact ret_i hx hb hr hlocks hK hP hD hS dX0_bitsAhead_29 (sv_19, rc_19, iw_19, wt_19, ah_19, be_19, hd_19, wn_19) rfl (⟨SP_ZI p19, Or.inr ⟨j, v, hj, hv, rfl, rfl, p19.2.1, p26⟩⟩)
    · -- 13 f ne 
      refine lv_iconst (v := 0) hx hb dX0_bitsAhead_16 (by decide) ?_
      exact ret_i hx hb hr hlocks hK hP hD hS dX0_bitsAhead_17 (sv, rc, iw, wt, ah, be, hN, wN) rfl (⟨hz, Or.inl ⟨Or.inr (pt_out rfl (by omega) p10 c13), rfl⟩⟩)

abbrev rm_without : Room := { frames := 5, cells := 0, slots := 0, locals := 115 }
theorem in_without : ∀ w ∈ u_ws RX0 TX0 18, w ∈ wsX0_without := by decide +kernel
theorem cp_without_bitsAhead : cpV wsX0_without RX0 80 RX0 yX0_bitsAhead wsX0_bitsAhead cX0_bitsAhead 4 (some .int) 3 := ⟨gX0_without_X0_bitsAhead, ⟨_, rfl⟩, by decide +kernel⟩
set_option maxHeartbeats 4000000 in
set_option maxRecDepth 100000 in
theorem c_without {l : Launch} {D : va_G} {h : Nat → Nat} {k : Nat → ClassId} {sv : Int32} {vP vO vG pD pV pB pX pY rc wt iw : Nat → Int32} {ah be : Nat → Int64} (nv np hN wN : Nat) (x y : Int32) (hg : GI nv np vP pV pB) (hz : ZI nv np vP vG pD pV pB pX pY sv rc iw ah) : ct l yX0_without wsX0_without rm_without D vwCl (pfT k) [.ref (h 0), .int x, .int y] (pfW h k (nI nv) vP vO vG (nI np) pD pV pB pX pY sv rc ah be wt iw (nI hN) (nI wN)) (qI D vwCl (pfT k) (fun (r : Int32) (u : Int32 × (Nat → Int32) × (Nat → Int32) × (Nat → Int32) × (Nat → Int64) × (Nat → Int64) × Nat × Nat) => ZI nv np vP vG pD pV pB pX pY u.1 u.2.1 u.2.2.1 u.2.2.2.2.1 ∧ ((((∀ j, j < np → ¬ x = nI j) ∨ ∀ v, v < nv → ¬ y = nI v) ∧ r = 0) ∨ ∃ j v, j < np ∧ v < nv ∧ x = nI j ∧ y = nI v ∧ DnG nv np vP vG pD pV pB pX pY u.2.1 u.2.2.2.2.1 ∧ r = sb (u.2.2.2.2.1 (j * 6 + 0 + v / 8)) v)) (fun u => pfW h k (nI nv) vP vO vG (nI np) pD pV pB pX pY u.1 u.2.1 u.2.2.2.2.1 u.2.2.2.2.2.1 u.2.2.2.1 u.2.2.1 (nI u.2.2.2.2.2.2.1) (nI u.2.2.2.2.2.2.2))) 0 0 := by
  refine ct_of (cc := cX0_without) (maxL := 3) (ret := some .int) (by decide) rfl (Nat.le_of_ble_eq_true rfl) ?_
  intro p e s m below meth c A ls hx hb hr hml hlocks hown hnm hts hA hK hP hD hS hl
  have hown : s.vm.findClass RX0 = some m.cls := hown
  have hin := in_without
  have hl : lv_has ls 3 [(0, .ref (h 0)), (1, .int x), (2, .int y)] := hl
  refine lv_aload_n hx hb dX0_without_0 rfl (lv_at hl 0 rfl) ?_
  refine lv_iload_n hx hb dX0_without_1 rfl (lv_at hl 1 rfl) ?_
  refine lv_iload_n hx hb dX0_without_2 rfl (lv_at hl 2 rfl) ?_
  refine lv_iconst (v := nI 0) hx hb dX0_without_3 (by decide) ?_
  refine call_vi (As := [.int x, .int y, .int (nI 0)]) (rest := []) ⟨hx, hb, hml, hown, hts⟩ (c_bitsAhead nv np hN wN x y 0 hg hz (by decide)) cp_without_bitsAhead ⟨rfl, rfl⟩ ⟨Nat.le_of_ble_eq_true rfl, Nat.le_of_ble_eq_true rfl⟩ rfl rfl 0 rfl rfl hl.1 rfl (Nat.le_of_ble_eq_true rfl) dX0_without_4 ⟨Nat.zero_le _, Nat.zero_le _⟩ hK hP hD hS hA (fun r4 u H locs p4 hP hD hS => ?_)
  obtain ⟨sv_4, rc_4, iw_4, wt_4, ah_4, be_4, hd_4, wn_4⟩ := u
  have hP : va_P D vwCl (pfW h k (nI nv) vP vO vG (nI np) pD pV pB pX pY sv_4 rc_4 ah_4 be_4 wt_4 iw_4 (nI hd_4) (nI wn_4)) H := hP
  have hD : va_D A (pfW h k (nI nv) vP vO vG (nI np) pD pV pB pX pY sv_4 rc_4 ah_4 be_4 wt_4 iw_4 (nI hd_4) (nI wn_4)) := hD
  try dsimp only at p4
  exact ret_i hx hb hr hlocks hK hP hD hS dX0_without_7 (sv_4, rc_4, iw_4, wt_4, ah_4, be_4, hd_4, wn_4) rfl (p4)

abbrev rm_having : Room := { frames := 5, cells := 0, slots := 0, locals := 115 }
theorem in_having : ∀ w ∈ u_ws RX0 TX0 18, w ∈ wsX0_having := by decide +kernel
theorem cp_having_bitsAhead : cpV wsX0_having RX0 80 RX0 yX0_bitsAhead wsX0_bitsAhead cX0_bitsAhead 4 (some .int) 3 := ⟨gX0_having_X0_bitsAhead, ⟨_, rfl⟩, by decide +kernel⟩
set_option maxHeartbeats 4000000 in
set_option maxRecDepth 100000 in
theorem c_having {l : Launch} {D : va_G} {h : Nat → Nat} {k : Nat → ClassId} {sv : Int32} {vP vO vG pD pV pB pX pY rc wt iw : Nat → Int32} {ah be : Nat → Int64} (nv np hN wN : Nat) (x y : Int32) (hg : GI nv np vP pV pB) (hz : ZI nv np vP vG pD pV pB pX pY sv rc iw ah) : ct l yX0_having wsX0_having rm_having D vwCl (pfT k) [.ref (h 0), .int x, .int y] (pfW h k (nI nv) vP vO vG (nI np) pD pV pB pX pY sv rc ah be wt iw (nI hN) (nI wN)) (qI D vwCl (pfT k) (fun (r : Int32) (u : Int32 × (Nat → Int32) × (Nat → Int32) × (Nat → Int32) × (Nat → Int64) × (Nat → Int64) × Nat × Nat) => ZI nv np vP vG pD pV pB pX pY u.1 u.2.1 u.2.2.1 u.2.2.2.2.1 ∧ ((((∀ j, j < np → ¬ x = nI j) ∨ ∀ v, v < nv → ¬ y = nI v) ∧ r = 0) ∨ ∃ j v, j < np ∧ v < nv ∧ x = nI j ∧ y = nI v ∧ DnG nv np vP vG pD pV pB pX pY u.2.1 u.2.2.2.2.1 ∧ r = sb (u.2.2.2.2.1 (j * 6 + 3 + v / 8)) v)) (fun u => pfW h k (nI nv) vP vO vG (nI np) pD pV pB pX pY u.1 u.2.1 u.2.2.2.2.1 u.2.2.2.2.2.1 u.2.2.2.1 u.2.2.1 (nI u.2.2.2.2.2.2.1) (nI u.2.2.2.2.2.2.2))) 0 0 := by
  refine ct_of (cc := cX0_having) (maxL := 3) (ret := some .int) (by decide) rfl (Nat.le_of_ble_eq_true rfl) ?_
  intro p e s m below meth c A ls hx hb hr hml hlocks hown hnm hts hA hK hP hD hS hl
  have hown : s.vm.findClass RX0 = some m.cls := hown
  have hin := in_having
  have hl : lv_has ls 3 [(0, .ref (h 0)), (1, .int x), (2, .int y)] := hl
  refine lv_aload_n hx hb dX0_having_0 rfl (lv_at hl 0 rfl) ?_
  refine lv_iload_n hx hb dX0_having_1 rfl (lv_at hl 1 rfl) ?_
  refine lv_iload_n hx hb dX0_having_2 rfl (lv_at hl 2 rfl) ?_
  refine lv_iconst (v := nI 3) hx hb dX0_having_3 (by decide) ?_
  refine call_vi (As := [.int x, .int y, .int (nI 3)]) (rest := []) ⟨hx, hb, hml, hown, hts⟩ (c_bitsAhead nv np hN wN x y 3 hg hz (by decide)) cp_having_bitsAhead ⟨rfl, rfl⟩ ⟨Nat.le_of_ble_eq_true rfl, Nat.le_of_ble_eq_true rfl⟩ rfl rfl 0 rfl rfl hl.1 rfl (Nat.le_of_ble_eq_true rfl) dX0_having_4 ⟨Nat.zero_le _, Nat.zero_le _⟩ hK hP hD hS hA (fun r4 u H locs p4 hP hD hS => ?_)
  obtain ⟨sv_4, rc_4, iw_4, wt_4, ah_4, be_4, hd_4, wn_4⟩ := u
  have hP : va_P D vwCl (pfW h k (nI nv) vP vO vG (nI np) pD pV pB pX pY sv_4 rc_4 ah_4 be_4 wt_4 iw_4 (nI hd_4) (nI wn_4)) H := hP
  have hD : va_D A (pfW h k (nI nv) vP vO vG (nI np) pD pV pB pX pY sv_4 rc_4 ah_4 be_4 wt_4 iw_4 (nI hd_4) (nI wn_4)) := hD
  try dsimp only at p4
  exact ret_i hx hb hr hlocks hK hP hD hS dX0_having_7 (sv_4, rc_4, iw_4, wt_4, ah_4, be_4, hd_4, wn_4) rfl (p4)

abbrev rm_isReached : Room := { frames := 4, cells := 0, slots := 0, locals := 92 }
theorem in_isReached : ∀ w ∈ u_ws RX0 TX0 18, w ∈ wsX0_isReached := by decide +kernel
theorem cp_isReached_isPoint : cpV wsX0_isReached RX0 70 RX0 yX0_isPoint wsX0_isPoint cX0_isPoint 2 (some .boolean) 1 := ⟨gX0_isReached_X0_isPoint, ⟨_, rfl⟩, by decide +kernel⟩
theorem cp_isReached_solve : cpV wsX0_isReached RX0 77 RX0 yX0_solve wsX0_solve cX0_solve 3 none 0 := ⟨gX0_isReached_X0_solve, ⟨_, rfl⟩, by decide +kernel⟩
set_option maxHeartbeats 4000000 in
set_option maxRecDepth 100000 in
theorem c_isReached {l : Launch} {D : va_G} {h : Nat → Nat} {k : Nat → ClassId} {sv : Int32} {vP vO vG pD pV pB pX pY rc wt iw : Nat → Int32} {ah be : Nat → Int64} (nv np hN wN : Nat) (x : Int32) (hg : GI nv np vP pV pB) (hz : ZI nv np vP vG pD pV pB pX pY sv rc iw ah) : ct l yX0_isReached wsX0_isReached rm_isReached D vwCl (pfT k) [.ref (h 0), .int x] (pfW h k (nI nv) vP vO vG (nI np) pD pV pB pX pY sv rc ah be wt iw (nI hN) (nI wN)) (qI D vwCl (pfT k) (fun (r : Int32) (u : Int32 × (Nat → Int32) × (Nat → Int32) × (Nat → Int32) × (Nat → Int64) × (Nat → Int64) × Nat × Nat) => ZI nv np vP vG pD pV pB pX pY u.1 u.2.1 u.2.2.1 u.2.2.2.2.1 ∧ (((∀ j, j < np → ¬ x = nI j) ∧ r = 0) ∨ ∃ j, j < np ∧ x = nI j ∧ DnG nv np vP vG pD pV pB pX pY u.2.1 u.2.2.2.2.1 ∧ r = u.2.1 j)) (fun u => pfW h k (nI nv) vP vO vG (nI np) pD pV pB pX pY u.1 u.2.1 u.2.2.2.2.1 u.2.2.2.2.2.1 u.2.2.2.1 u.2.2.1 (nI u.2.2.2.2.2.2.1) (nI u.2.2.2.2.2.2.2))) 0 0 := by
  refine ct_of (cc := cX0_isReached) (maxL := 2) (ret := some .boolean) (by decide) rfl (Nat.le_of_ble_eq_true rfl) ?_
  intro p e s m below meth c A ls hx hb hr hml hlocks hown hnm hts hA hK hP hD hS hl
  have hown : s.vm.findClass RX0 = some m.cls := hown
  have hin := in_isReached
  have hl : lv_has ls 2 [(0, .ref (h 0)), (1, .int x)] := hl
  have hn : np ≤ 120 := hg.2.1
  refine lv_aload_n hx hb dX0_isReached_0 rfl (lv_at hl 0 rfl) ?_
  refine lv_iload_n hx hb dX0_isReached_1 rfl (lv_at hl 1 rfl) ?_
  refine call_vi (As := [.int x]) (rest := []) ⟨hx, hb, hml, hown, hts⟩ (c_isPoint x) cp_isReached_isPoint ⟨rfl, rfl⟩ ⟨Nat.le_of_ble_eq_true rfl, Nat.le_of_ble_eq_true rfl⟩ rfl rfl 0 rfl rfl hl.1 rfl (Nat.le_of_ble_eq_true rfl) dX0_isReached_2 ⟨Nat.zero_le _, Nat.zero_le _⟩ hK hP hD hS hA (fun r2 u H locs p2 hP hD hS => ?_)
  try dsimp only at p2
  refine lv_if_ne (tgt := 10) hx hb dX0_isReached_5 (by decide) (fun c5 => ?_) (fun c5 => ?_)
  · -- 5 t ne 
    obtain ⟨j, hj, rfl⟩ := pt_in rfl hn p2 c5
    refine lv_aload_n hx hb dX0_isReached_10 rfl (lv_at hl 0 rfl) ?_
    refine call_vv (As := []) (rest := []) ⟨hx, hb, hml, hown, hts⟩ (c_solve nv np hN wN hg hz) cp_isReached_solve ⟨rfl, rfl⟩ ⟨Nat.le_of_ble_eq_true rfl, Nat.le_of_ble_eq_true rfl⟩ rfl rfl 0 rfl rfl hl.1 rfl (Nat.le_of_ble_eq_true rfl) dX0_isReached_11 ⟨Nat.zero_le _, Nat.zero_le _⟩ hK hP hD hS hA (fun u H locs p11 hP hD hS => ?_)
    obtain ⟨sv_11, rc_11, iw_11, wt_11, ah_11, be_11, hd_11, wn_11⟩ := u
    have hP : va_P D vwCl (pfW h k (nI nv) vP vO vG (nI np) pD pV pB pX pY sv_11 rc_11 ah_11 be_11 wt_11 iw_11 (nI hd_11) (nI wn_11)) H := hP
    have hD : va_D A (pfW h k (nI nv) vP vO vG (nI np) pD pV pB pX pY sv_11 rc_11 ah_11 be_11 wt_11 iw_11 (nI hd_11) (nI wn_11)) := hD
    try dsimp only at p11
    refine lv_aload_n hx hb dX0_isReached_14 rfl (lv_at hl 0 rfl) ?_
    refine pf_g_rc hx hb hts hin hown hK hP (by decide +kernel) dX0_isReached_15 ?_
    refine lv_iload_n hx hb dX0_isReached_18 rfl (lv_at hl 1 rfl) ?_
    refine pf_l_rc (n := j) hx hb hK hP (by omega) dX0_isReached_19 ?_
    exact ret_z hx hb hr hlocks hK hP hD hS dX0_isReached_20 (sv_11, rc_11, iw_11, wt_11, ah_11, be_11, hd_11, wn_11) rfl (by rcases p11.2.2.2 j (by omega) with q | q <;> rw [q] <;> rfl) (⟨SP_ZI p11, Or.inr ⟨j, hj, rfl, p11.2.1, rfl⟩⟩)
  · -- 5 f ne 
    refine lv_iconst (v := 0) hx hb dX0_isReached_8 (by decide) ?_
    exact ret_z hx hb hr hlocks hK hP hD hS dX0_isReached_9 (sv, rc, iw, wt, ah, be, hN, wN) rfl (by decide) (⟨hz, Or.inl ⟨pt_out rfl hn p2 c5, rfl⟩⟩)

abbrev rm_fault : Room := { frames := 4, cells := 0, slots := 0, locals := 92 }
theorem in_fault : ∀ w ∈ u_ws RX0 TX0 18, w ∈ wsX0_fault := by decide +kernel
theorem cp_fault_faultOfPoint : cpV wsX0_fault RX0 84 RX0 yX0_faultOfPoint wsX0_faultOfPoint cX0_faultOfPoint 5 (some .int) 1 := ⟨gX0_fault_X0_faultOfPoint, ⟨_, rfl⟩, by decide +kernel⟩
theorem cp_fault_isPoint : cpV wsX0_fault RX0 70 RX0 yX0_isPoint wsX0_isPoint cX0_isPoint 2 (some .boolean) 1 := ⟨gX0_fault_X0_isPoint, ⟨_, rfl⟩, by decide +kernel⟩
theorem cp_fault_solve : cpV wsX0_fault RX0 77 RX0 yX0_solve wsX0_solve cX0_solve 3 none 0 := ⟨gX0_fault_X0_solve, ⟨_, rfl⟩, by decide +kernel⟩
set_option maxHeartbeats 4000000 in
set_option maxRecDepth 100000 in
theorem c_fault {l : Launch} {D : va_G} {h : Nat → Nat} {k : Nat → ClassId} {sv : Int32} {vP vO vG pD pV pB pX pY rc wt iw : Nat → Int32} {ah be : Nat → Int64} (nv np hN wN : Nat) (x : Int32) (hg : GI nv np vP pV pB) (hz : ZI nv np vP vG pD pV pB pX pY sv rc iw ah) : ct l yX0_fault wsX0_fault rm_fault D vwCl (pfT k) [.ref (h 0), .int x] (pfW h k (nI nv) vP vO vG (nI np) pD pV pB pX pY sv rc ah be wt iw (nI hN) (nI wN)) (qI D vwCl (pfT k) (fun (r : Int32) (u : Int32 × (Nat → Int32) × (Nat → Int32) × (Nat → Int32) × (Nat → Int64) × (Nat → Int64) × Nat × Nat) => ZI nv np vP vG pD pV pB pX pY u.1 u.2.1 u.2.2.1 u.2.2.2.2.1 ∧ (((∀ j, j < np → ¬ x = nI j) ∧ r = -1) ∨ ∃ j, j < np ∧ x = nI j ∧ DnG nv np vP vG pD pV pB pX pY u.2.1 u.2.2.2.2.1 ∧ r = fop vP vO pD pV pB u.2.1 u.2.2.2.2.1 j)) (fun u => pfW h k (nI nv) vP vO vG (nI np) pD pV pB pX pY u.1 u.2.1 u.2.2.2.2.1 u.2.2.2.2.2.1 u.2.2.2.1 u.2.2.1 (nI u.2.2.2.2.2.2.1) (nI u.2.2.2.2.2.2.2))) 0 0 := by
  refine ct_of (cc := cX0_fault) (maxL := 2) (ret := some .int) (by decide) rfl (Nat.le_of_ble_eq_true rfl) ?_
  intro p e s m below meth c A ls hx hb hr hml hlocks hown hnm hts hA hK hP hD hS hl
  have hown : s.vm.findClass RX0 = some m.cls := hown
  have hin := in_fault
  have hl : lv_has ls 2 [(0, .ref (h 0)), (1, .int x)] := hl
  have hn : np ≤ 120 := hg.2.1
  refine lv_aload_n hx hb dX0_fault_0 rfl (lv_at hl 0 rfl) ?_
  refine lv_iload_n hx hb dX0_fault_1 rfl (lv_at hl 1 rfl) ?_
  refine call_vi (As := [.int x]) (rest := []) ⟨hx, hb, hml, hown, hts⟩ (c_isPoint x) cp_fault_isPoint ⟨rfl, rfl⟩ ⟨Nat.le_of_ble_eq_true rfl, Nat.le_of_ble_eq_true rfl⟩ rfl rfl 0 rfl rfl hl.1 rfl (Nat.le_of_ble_eq_true rfl) dX0_fault_2 ⟨Nat.zero_le _, Nat.zero_le _⟩ hK hP hD hS hA (fun r2 u H locs p2 hP hD hS => ?_)
  try dsimp only at p2
  refine lv_if_ne (tgt := 10) hx hb dX0_fault_5 (by decide) (fun c5 => ?_) (fun c5 => ?_)
  · -- 5 t ne 
    obtain ⟨j, hj, rfl⟩ := pt_in rfl hn p2 c5
    refine lv_aload_n hx hb dX0_fault_10 rfl (lv_at hl 0 rfl) ?_
    refine call_vv (As := []) (rest := []) ⟨hx, hb, hml, hown, hts⟩ (c_solve nv np hN wN hg hz) cp_fault_solve ⟨rfl, rfl⟩ ⟨Nat.le_of_ble_eq_true rfl, Nat.le_of_ble_eq_true rfl⟩ rfl rfl 0 rfl rfl hl.1 rfl (Nat.le_of_ble_eq_true rfl) dX0_fault_11 ⟨Nat.zero_le _, Nat.zero_le _⟩ hK hP hD hS hA (fun u H locs p11 hP hD hS => ?_)
    obtain ⟨sv_11, rc_11, iw_11, wt_11, ah_11, be_11, hd_11, wn_11⟩ := u
    have hP : va_P D vwCl (pfW h k (nI nv) vP vO vG (nI np) pD pV pB pX pY sv_11 rc_11 ah_11 be_11 wt_11 iw_11 (nI hd_11) (nI wn_11)) H := hP
    have hD : va_D A (pfW h k (nI nv) vP vO vG (nI np) pD pV pB pX pY sv_11 rc_11 ah_11 be_11 wt_11 iw_11 (nI hd_11) (nI wn_11)) := hD
    try dsimp only at p11
    refine lv_aload_n hx hb dX0_fault_14 rfl (lv_at hl 0 rfl) ?_
    refine lv_iload_n hx hb dX0_fault_15 rfl (lv_at hl 1 rfl) ?_
    refine call_vi (As := [.int (nI j)]) (rest := []) ⟨hx, hb, hml, hown, hts⟩ (c_faultOfPoint j (by omega) (hg.2.2.2 j hj).1 (hg.2.2.2 j hj).2.1) cp_fault_faultOfPoint ⟨rfl, rfl⟩ ⟨Nat.le_of_ble_eq_true rfl, Nat.le_of_ble_eq_true rfl⟩ rfl rfl 0 rfl rfl hl.1 rfl (Nat.le_of_ble_eq_true rfl) dX0_fault_16 ⟨Nat.zero_le _, Nat.zero_le _⟩ hK hP hD hS hA (fun r16 u H locs p16 hP hD hS => ?_)
    try dsimp only at p16
    exact ret_i hx hb hr hlocks hK hP hD hS dX0_fault_19 (sv_11, rc_11, iw_11, wt_11, ah_11, be_11, hd_11, wn_11) rfl (⟨SP_ZI p11, Or.inr ⟨j, hj, rfl, p11.2.1, p16⟩⟩)
  · -- 5 f ne 
    refine lv_iconst (v := (-1)) hx hb dX0_fault_8 (by decide) ?_
    exact ret_i hx hb hr hlocks hK hP hD hS dX0_fault_9 (sv, rc, iw, wt, ah, be, hN, wN) rfl (⟨hz, Or.inl ⟨pt_out rfl hn p2 c5, rfl⟩⟩)

abbrev rm_countReached : Room := { frames := 4, cells := 0, slots := 0, locals := 92 }
theorem in_countReached : ∀ w ∈ u_ws RX0 TX0 18, w ∈ wsX0_countReached := by decide +kernel
set_option maxHeartbeats 4000000 in
set_option maxRecDepth 100000 in
theorem lp_cr {p : Program} {l : Launch} {e : Env} {s : State} {m : MethodId} {args : Array Value} {below : List Frame} {meth : Method} {c : Code} {A : Nat → Prop} {Q : State → Prop} {D : va_G} {h : Nat → Nat} {k : Nat → ClassId} {vc sv hd wn : Int32} {vP vO vG pD pV pB pX pY rc wt iw : Nat → Int32} {ah be : Nat → Int64} {np : Nat} (hx : p.tables.exec = Jvm.exec) (hb : c.code = cX0_countReached) (hml : c.maxLocals = 3) (hown : s.vm.findClass RX0 = some m.cls) (hts : ∀ w ∈ wsX0_countReached, w.before args s = true) (hA : ∀ q : Nat, s.heap.size ≤ q → A q) (hK : va_K D vwCl (pfT k) s) (hn : np ≤ 120)
    (kk : ∀ (i : Nat) (sm : Nat) (H : Heap) (locs : List Loc) (ls : Array Slot), (sm = cnt (fun q => decide (¬ rc q = 0)) np) → va_P D vwCl (pfW h k vc vP vO vG (nI np) pD pV pB pX pY sv rc ah be wt iw hd wn) H → va_D A (pfW h k vc vP vO vG (nI np) pD pV pB pX pY sv rc ah be wt iw hd wn) → va_S A s.heap H locs → lv_has ls 3 [(0, .ref (h 0)), (1, .int (nI sm)), (2, .int (nI i))] → W p l e rm_countReached s m args below meth c H locs 0 0 Q (F0 m 34 ls [])) :
    ∀ (n : Nat) (i : Nat) (sm : Nat) (H : Heap) (locs : List Loc) (ls : Array Slot), (i ≤ np) → (sm = cnt (fun q => decide (¬ rc q = 0)) i) → np - i < n → va_P D vwCl (pfW h k vc vP vO vG (nI np) pD pV pB pX pY sv rc ah be wt iw hd wn) H → va_D A (pfW h k vc vP vO vG (nI np) pD pV pB pX pY sv rc ah be wt iw hd wn) → va_S A s.heap H locs → lv_has ls 3 [(0, .ref (h 0)), (1, .int (nI sm)), (2, .int (nI i))] → W p l e rm_countReached s m args below meth c H locs 0 0 Q (F0 m 8 ls []) := by
  have hin := in_countReached
  intro n
  induction n with
  | zero =>
    intro i sm H locs ls hi hsm hmz
    exact absurd hmz (Nat.not_lt_zero _)
  | succ n ih =>
    intro i sm H locs ls hi hsm hmz hP hD hS hl
    refine lv_iload_n hx hb dX0_countReached_8 rfl (lv_at hl 2 rfl) ?_
    refine lv_aload_n hx hb dX0_countReached_9 rfl (lv_at hl 0 rfl) ?_
    refine pf_g_pn hx hb hts hin hown hK hP (by decide +kernel) dX0_countReached_10 ?_
    refine lv_icmp_ge (tgt := 34) hx hb dX0_countReached_13 (by decide) (fun c13 => ?_) (fun c13 => ?_)
    · -- 13 t ge 
      have n13 : np ≤ i := (nI_leI (by omega) (by omega)).mp c13
      exact kk i sm H locs ls ((show i = np by omega) ▸ hsm) hP hD hS (lv_sub hl [0, 1, 2] rfl)
    · -- 13 f ge 
      have n13 : ¬ np ≤ i := fun q => c13 ((nI_leI (by omega) (by omega)).mpr q)
      refine lv_aload_n hx hb dX0_countReached_16 rfl (lv_at hl 0 rfl) ?_
      refine pf_g_rc hx hb hts hin hown hK hP (by decide +kernel) dX0_countReached_17 ?_
      refine lv_iload_n hx hb dX0_countReached_20 rfl (lv_at hl 2 rfl) ?_
      refine pf_l_rc (n := i) hx hb hK hP (by omega) dX0_countReached_21 ?_
      refine lv_if_eq (tgt := 28) hx hb dX0_countReached_22 (by decide) (fun c22 => ?_) (fun c22 => ?_)
      · -- 22 t eq 
        refine lv_iinc (v := nI (i + 1)) (lv' := [(2, .int (nI (i + 1))), (0, .ref (h 0)), (1, .int (nI sm))]) hx hb dX0_countReached_28 hl (k := 2) rfl (nI_add i 1) (by decide) rfl (fun ls hl => ?_)
        refine lv_goto (tgt := 8) hx hb dX0_countReached_31 (by decide) ?_
        exact ih (i + 1) sm H locs ls (by omega) (by rw [hsm, cnt_s0 (f := (fun q => decide (¬ rc q = 0))) (i := i) (decide_eq_false (fun z => z c22))]) (by omega) hP hD hS (lv_sub hl [1, 2, 0] rfl)
      · -- 22 f eq 
        refine lv_iinc (v := nI (sm + 1)) (lv' := [(1, .int (nI (sm + 1))), (0, .ref (h 0)), (2, .int (nI i))]) hx hb dX0_countReached_25 hl (k := 1) rfl (nI_add sm 1) (by decide) rfl (fun ls hl => ?_)
        refine lv_iinc (v := nI (i + 1)) (lv' := [(2, .int (nI (i + 1))), (1, .int (nI (sm + 1))), (0, .ref (h 0))]) hx hb dX0_countReached_28 hl (k := 2) rfl (nI_add i 1) (by decide) rfl (fun ls hl => ?_)
        refine lv_goto (tgt := 8) hx hb dX0_countReached_31 (by decide) ?_
        exact ih (i + 1) (sm + 1) H locs ls (by omega) (by rw [hsm, cnt_s1 (f := (fun q => decide (¬ rc q = 0))) (i := i) (decide_eq_true c22)]) (by omega) hP hD hS (lv_sub hl [2, 1, 0] rfl)

theorem cp_countReached_solve : cpV wsX0_countReached RX0 77 RX0 yX0_solve wsX0_solve cX0_solve 3 none 0 := ⟨gX0_countReached_X0_solve, ⟨_, rfl⟩, by decide +kernel⟩
set_option maxHeartbeats 4000000 in
set_option maxRecDepth 100000 in
theorem c_countReached {l : Launch} {D : va_G} {h : Nat → Nat} {k : Nat → ClassId} {sv : Int32} {vP vO vG pD pV pB pX pY rc wt iw : Nat → Int32} {ah be : Nat → Int64} (nv np hN wN : Nat) (hg : GI nv np vP pV pB) (hz : ZI nv np vP vG pD pV pB pX pY sv rc iw ah) : ct l yX0_countReached wsX0_countReached rm_countReached D vwCl (pfT k) [.ref (h 0)] (pfW h k (nI nv) vP vO vG (nI np) pD pV pB pX pY sv rc ah be wt iw (nI hN) (nI wN)) (qI D vwCl (pfT k) (fun (r : Int32) (u : Int32 × (Nat → Int32) × (Nat → Int32) × (Nat → Int32) × (Nat → Int64) × (Nat → Int64) × Nat × Nat) => SP nv np vP vG pD pV pB pX pY u.1 u.2.1 u.2.2.1 u.2.2.2.2.1 ∧ r = nI (cnt (fun q => decide (¬ u.2.1 q = 0)) np)) (fun u => pfW h k (nI nv) vP vO vG (nI np) pD pV pB pX pY u.1 u.2.1 u.2.2.2.2.1 u.2.2.2.2.2.1 u.2.2.2.1 u.2.2.1 (nI u.2.2.2.2.2.2.1) (nI u.2.2.2.2.2.2.2))) 0 0 := by
  refine ct_of (cc := cX0_countReached) (maxL := 3) (ret := some .int) (by decide) rfl (Nat.le_of_ble_eq_true rfl) ?_
  intro p e s m below meth c A ls hx hb hr hml hlocks hown hnm hts hA hK hP hD hS hl
  have hown : s.vm.findClass RX0 = some m.cls := hown
  have hin := in_countReached
  have hl : lv_has ls 3 [(0, .ref (h 0))] := hl
  have hn : np ≤ 120 := hg.2.1
  refine lv_aload_n hx hb dX0_countReached_0 rfl (lv_at hl 0 rfl) ?_
  refine call_vv (As := []) (rest := []) ⟨hx, hb, hml, hown, hts⟩ (c_solve nv np hN wN hg hz) cp_countReached_solve ⟨rfl, rfl⟩ ⟨Nat.le_of_ble_eq_true rfl, Nat.le_of_ble_eq_true rfl⟩ rfl rfl 0 rfl rfl hl.1 rfl (Nat.le_of_ble_eq_true rfl) dX0_countReached_1 ⟨Nat.zero_le _, Nat.zero_le _⟩ hK hP hD hS hA (fun u H locs p1 hP hD hS => ?_)
  obtain ⟨sv_1, rc_1, iw_1, wt_1, ah_1, be_1, hd_1, wn_1⟩ := u
  have hP : va_P D vwCl (pfW h k (nI nv) vP vO vG (nI np) pD pV pB pX pY sv_1 rc_1 ah_1 be_1 wt_1 iw_1 (nI hd_1) (nI wn_1)) H := hP
  have hD : va_D A (pfW h k (nI nv) vP vO vG (nI np) pD pV pB pX pY sv_1 rc_1 ah_1 be_1 wt_1 iw_1 (nI hd_1) (nI wn_1)) := hD
  try dsimp only at p1
  refine lv_iconst (v := nI 0) hx hb dX0_countReached_4 (by decide) ?_
  refine lv_istore_n (lv' := [(1, .int (nI 0)), (0, .ref (h 0))]) hx hb dX0_countReached_5 rfl hl (by decide) rfl (fun ls hl => ?_)
  refine lv_iconst (v := nI 0) hx hb dX0_countReached_6 (by decide) ?_
  refine lv_istore_n (lv' := [(2, .int (nI 0)), (1, .int (nI 0)), (0, .ref (h 0))]) hx hb dX0_countReached_7 rfl hl (by decide) rfl (fun ls hl => ?_)
  refine lp_cr hx hb hml hown hts hA hK hn ?_ _ 0 0 _ _ ls (Nat.zero_le _) (rfl) (Nat.lt_succ_self _) hP hD hS (lv_sub hl [2, 1, 0] rfl)
  intro i sm H locs ls hsm hP hD hS hl
  refine lv_iload_n hx hb dX0_countReached_34 rfl (lv_at hl 1 rfl) ?_
  exact ret_i hx hb hr hlocks hK hP hD hS dX0_countReached_35 (sv_1, rc_1, iw_1, wt_1, ah_1, be_1, hd_1, wn_1) rfl (⟨p1, by rw [hsm]⟩)

abbrev rm_countFaults : Room := { frames := 4, cells := 0, slots := 0, locals := 92 }
theorem in_countFaults : ∀ w ∈ u_ws RX0 TX0 18, w ∈ wsX0_countFaults := by decide +kernel
theorem cp_countFaults_faultOfPoint : cpV wsX0_countFaults RX0 84 RX0 yX0_faultOfPoint wsX0_faultOfPoint cX0_faultOfPoint 5 (some .int) 1 := ⟨gX0_countFaults_X0_faultOfPoint, ⟨_, rfl⟩, by decide +kernel⟩
set_option maxHeartbeats 4000000 in
set_option maxRecDepth 100000 in
theorem lp_cf {p : Program} {l : Launch} {e : Env} {s : State} {m : MethodId} {args : Array Value} {below : List Frame} {meth : Method} {c : Code} {A : Nat → Prop} {Q : State → Prop} {D : va_G} {h : Nat → Nat} {k : Nat → ClassId} {vc sv hd wn : Int32} {vP vO vG pD pV pB pX pY rc wt iw : Nat → Int32} {ah be : Nat → Int64} {np : Nat} (hx : p.tables.exec = Jvm.exec) (hb : c.code = cX0_countFaults) (hml : c.maxLocals = 3) (hown : s.vm.findClass RX0 = some m.cls) (hts : ∀ w ∈ wsX0_countFaults, w.before args s = true) (hA : ∀ q : Nat, s.heap.size ≤ q → A q) (hK : va_K D vwCl (pfT k) s) (hn : np ≤ 120) (hpt : ∀ q, q < np → pV q = nI (tN (pV q)) ∧ tN (pV q) < 20)
    (kk : ∀ (i : Nat) (sm : Nat) (H : Heap) (locs : List Loc) (ls : Array Slot), (sm = cnt (fun q => decide (¬ fop vP vO pD pV pB rc ah q = 0)) np) → va_P D vwCl (pfW h k vc vP vO vG (nI np) pD pV pB pX pY sv rc ah be wt iw hd wn) H → va_D A (pfW h k vc vP vO vG (nI np) pD pV pB pX pY sv rc ah be wt iw hd wn) → va_S A s.heap H locs → lv_has ls 3 [(0, .ref (h 0)), (1, .int (nI sm)), (2, .int (nI i))] → W p l e rm_countFaults s m args below meth c H locs 0 0 Q (F0 m 33 ls [])) :
    ∀ (n : Nat) (i : Nat) (sm : Nat) (H : Heap) (locs : List Loc) (ls : Array Slot), (i ≤ np) → (sm = cnt (fun q => decide (¬ fop vP vO pD pV pB rc ah q = 0)) i) → np - i < n → va_P D vwCl (pfW h k vc vP vO vG (nI np) pD pV pB pX pY sv rc ah be wt iw hd wn) H → va_D A (pfW h k vc vP vO vG (nI np) pD pV pB pX pY sv rc ah be wt iw hd wn) → va_S A s.heap H locs → lv_has ls 3 [(0, .ref (h 0)), (1, .int (nI sm)), (2, .int (nI i))] → W p l e rm_countFaults s m args below meth c H locs 0 0 Q (F0 m 8 ls []) := by
  have hin := in_countFaults
  intro n
  induction n with
  | zero =>
    intro i sm H locs ls hi hsm hmz
    exact absurd hmz (Nat.not_lt_zero _)
  | succ n ih =>
    intro i sm H locs ls hi hsm hmz hP hD hS hl
    refine lv_iload_n hx hb dX0_countFaults_8 rfl (lv_at hl 2 rfl) ?_
    refine lv_aload_n hx hb dX0_countFaults_9 rfl (lv_at hl 0 rfl) ?_
    refine pf_g_pn hx hb hts hin hown hK hP (by decide +kernel) dX0_countFaults_10 ?_
    refine lv_icmp_ge (tgt := 33) hx hb dX0_countFaults_13 (by decide) (fun c13 => ?_) (fun c13 => ?_)
    · -- 13 t ge 
      have n13 : np ≤ i := (nI_leI (by omega) (by omega)).mp c13
      exact kk i sm H locs ls ((show i = np by omega) ▸ hsm) hP hD hS (lv_sub hl [0, 1, 2] rfl)
    · -- 13 f ge 
      have n13 : ¬ np ≤ i := fun q => c13 ((nI_leI (by omega) (by omega)).mpr q)
      refine lv_aload_n hx hb dX0_countFaults_16 rfl (lv_at hl 0 rfl) ?_
      refine lv_iload_n hx hb dX0_countFaults_17 rfl (lv_at hl 2 rfl) ?_
      refine call_vi (As := [.int (nI i)]) (rest := []) ⟨hx, hb, hml, hown, hts⟩ (c_faultOfPoint i (by omega) (hpt i (by omega)).1 (hpt i (by omega)).2) cp_countFaults_faultOfPoint ⟨rfl, rfl⟩ ⟨Nat.le_of_ble_eq_true rfl, Nat.le_of_ble_eq_true rfl⟩ rfl rfl 0 rfl rfl hl.1 rfl (Nat.le_of_ble_eq_true rfl) dX0_countFaults_18 ⟨Nat.zero_le _, Nat.zero_le _⟩ hK hP hD hS hA (fun r18 u H locs p18 hP hD hS => ?_)
      try dsimp only at p18
      obtain rfl := p18
      refine lv_if_eq (tgt := 27) hx hb dX0_countFaults_21 (by decide) (fun c21 => ?_) (fun c21 => ?_)
      · -- 21 t eq 
        refine lv_iinc (v := nI (i + 1)) (lv' := [(2, .int (nI (i + 1))), (0, .ref (h 0)), (1, .int (nI sm))]) hx hb dX0_countFaults_27 hl (k := 2) rfl (nI_add i 1) (by decide) rfl (fun ls hl => ?_)
        refine lv_goto (tgt := 8) hx hb dX0_countFaults_30 (by decide) ?_
        exact ih (i + 1) sm H locs ls (by omega) (by rw [hsm, cnt_s0 (f := (fun q => decide (¬ fop vP vO pD pV pB rc ah q = 0))) (i := i) (decide_eq_false (fun z => z c21))]) (by omega) hP hD hS (lv_sub hl [1, 2, 0] rfl)
      · -- 21 f eq 
        refine lv_iinc (v := nI (sm + 1)) (lv' := [(1, .int (nI (sm + 1))), (0, .ref (h 0)), (2, .int (nI i))]) hx hb dX0_countFaults_24 hl (k := 1) rfl (nI_add sm 1) (by decide) rfl (fun ls hl => ?_)
        refine lv_iinc (v := nI (i + 1)) (lv' := [(2, .int (nI (i + 1))), (1, .int (nI (sm + 1))), (0, .ref (h 0))]) hx hb dX0_countFaults_27 hl (k := 2) rfl (nI_add i 1) (by decide) rfl (fun ls hl => ?_)
        refine lv_goto (tgt := 8) hx hb dX0_countFaults_30 (by decide) ?_
        exact ih (i + 1) (sm + 1) H locs ls (by omega) (by rw [hsm, cnt_s1 (f := (fun q => decide (¬ fop vP vO pD pV pB rc ah q = 0))) (i := i) (decide_eq_true c21)]) (by omega) hP hD hS (lv_sub hl [2, 1, 0] rfl)

theorem cp_countFaults_solve : cpV wsX0_countFaults RX0 77 RX0 yX0_solve wsX0_solve cX0_solve 3 none 0 := ⟨gX0_countFaults_X0_solve, ⟨_, rfl⟩, by decide +kernel⟩
set_option maxHeartbeats 4000000 in
set_option maxRecDepth 100000 in
theorem c_countFaults {l : Launch} {D : va_G} {h : Nat → Nat} {k : Nat → ClassId} {sv : Int32} {vP vO vG pD pV pB pX pY rc wt iw : Nat → Int32} {ah be : Nat → Int64} (nv np hN wN : Nat) (hg : GI nv np vP pV pB) (hz : ZI nv np vP vG pD pV pB pX pY sv rc iw ah) : ct l yX0_countFaults wsX0_countFaults rm_countFaults D vwCl (pfT k) [.ref (h 0)] (pfW h k (nI nv) vP vO vG (nI np) pD pV pB pX pY sv rc ah be wt iw (nI hN) (nI wN)) (qI D vwCl (pfT k) (fun (r : Int32) (u : Int32 × (Nat → Int32) × (Nat → Int32) × (Nat → Int32) × (Nat → Int64) × (Nat → Int64) × Nat × Nat) => SP nv np vP vG pD pV pB pX pY u.1 u.2.1 u.2.2.1 u.2.2.2.2.1 ∧ r = nI (cnt (fun q => decide (¬ fop vP vO pD pV pB u.2.1 u.2.2.2.2.1 q = 0)) np)) (fun u => pfW h k (nI nv) vP vO vG (nI np) pD pV pB pX pY u.1 u.2.1 u.2.2.2.2.1 u.2.2.2.2.2.1 u.2.2.2.1 u.2.2.1 (nI u.2.2.2.2.2.2.1) (nI u.2.2.2.2.2.2.2))) 0 0 := by
  refine ct_of (cc := cX0_countFaults) (maxL := 3) (ret := some .int) (by decide) rfl (Nat.le_of_ble_eq_true rfl) ?_
  intro p e s m below meth c A ls hx hb hr hml hlocks hown hnm hts hA hK hP hD hS hl
  have hown : s.vm.findClass RX0 = some m.cls := hown
  have hin := in_countFaults
  have hl : lv_has ls 3 [(0, .ref (h 0))] := hl
  have hn : np ≤ 120 := hg.2.1
  refine lv_aload_n hx hb dX0_countFaults_0 rfl (lv_at hl 0 rfl) ?_
  refine call_vv (As := []) (rest := []) ⟨hx, hb, hml, hown, hts⟩ (c_solve nv np hN wN hg hz) cp_countFaults_solve ⟨rfl, rfl⟩ ⟨Nat.le_of_ble_eq_true rfl, Nat.le_of_ble_eq_true rfl⟩ rfl rfl 0 rfl rfl hl.1 rfl (Nat.le_of_ble_eq_true rfl) dX0_countFaults_1 ⟨Nat.zero_le _, Nat.zero_le _⟩ hK hP hD hS hA (fun u H locs p1 hP hD hS => ?_)
  obtain ⟨sv_1, rc_1, iw_1, wt_1, ah_1, be_1, hd_1, wn_1⟩ := u
  have hP : va_P D vwCl (pfW h k (nI nv) vP vO vG (nI np) pD pV pB pX pY sv_1 rc_1 ah_1 be_1 wt_1 iw_1 (nI hd_1) (nI wn_1)) H := hP
  have hD : va_D A (pfW h k (nI nv) vP vO vG (nI np) pD pV pB pX pY sv_1 rc_1 ah_1 be_1 wt_1 iw_1 (nI hd_1) (nI wn_1)) := hD
  try dsimp only at p1
  refine lv_iconst (v := nI 0) hx hb dX0_countFaults_4 (by decide) ?_
  refine lv_istore_n (lv' := [(1, .int (nI 0)), (0, .ref (h 0))]) hx hb dX0_countFaults_5 rfl hl (by decide) rfl (fun ls hl => ?_)
  refine lv_iconst (v := nI 0) hx hb dX0_countFaults_6 (by decide) ?_
  refine lv_istore_n (lv' := [(2, .int (nI 0)), (1, .int (nI 0)), (0, .ref (h 0))]) hx hb dX0_countFaults_7 rfl hl (by decide) rfl (fun ls hl => ?_)
  refine lp_cf hx hb hml hown hts hA hK hn (fun q hq => ⟨(hg.2.2.2 q hq).1, (hg.2.2.2 q hq).2.1⟩) ?_ _ 0 0 _ _ ls (Nat.zero_le _) (rfl) (Nat.lt_succ_self _) hP hD hS (lv_sub hl [2, 1, 0] rfl)
  intro i sm H locs ls hsm hP hD hS hl
  refine lv_iload_n hx hb dX0_countFaults_33 rfl (lv_at hl 1 rfl) ?_
  exact ret_i hx hb hr hlocks hK hP hD hS dX0_countFaults_34 (sv_1, rc_1, iw_1, wt_1, ah_1, be_1, hd_1, wn_1) rfl (⟨p1, by rw [hsm]⟩)

abbrev rm_firstFault : Room := { frames := 4, cells := 0, slots := 0, locals := 92 }
theorem in_firstFault : ∀ w ∈ u_ws RX0 TX0 18, w ∈ wsX0_firstFault := by decide +kernel
theorem cp_firstFault_faultOfPoint : cpV wsX0_firstFault RX0 84 RX0 yX0_faultOfPoint wsX0_faultOfPoint cX0_faultOfPoint 5 (some .int) 1 := ⟨gX0_firstFault_X0_faultOfPoint, ⟨_, rfl⟩, by decide +kernel⟩
set_option maxHeartbeats 4000000 in
set_option maxRecDepth 100000 in
theorem lp_ff {p : Program} {l : Launch} {e : Env} {s : State} {m : MethodId} {args : Array Value} {below : List Frame} {meth : Method} {c : Code} {A : Nat → Prop} {Q : State → Prop} {D : va_G} {h : Nat → Nat} {k : Nat → ClassId} {vc sv hd wn : Int32} {vP vO vG pD pV pB pX pY rc wt iw : Nat → Int32} {ah be : Nat → Int64} {np : Nat} (hx : p.tables.exec = Jvm.exec) (hb : c.code = cX0_firstFault) (hml : c.maxLocals = 2) (hown : s.vm.findClass RX0 = some m.cls) (hts : ∀ w ∈ wsX0_firstFault, w.before args s = true) (hA : ∀ q : Nat, s.heap.size ≤ q → A q) (hK : va_K D vwCl (pfT k) s) (hn : np ≤ 120) (hpt : ∀ q, q < np → pV q = nI (tN (pV q)) ∧ tN (pV q) < 20) (kk2 : ∀ (i : Nat) (H : Heap) (locs : List Loc) (ls : Array Slot), i < np → ¬ fop vP vO pD pV pB rc ah i = 0 → (∀ q, q < i → fop vP vO pD pV pB rc ah q = 0) → va_P D vwCl (pfW h k vc vP vO vG (nI np) pD pV pB pX pY sv rc ah be wt iw hd wn) H → va_D A (pfW h k vc vP vO vG (nI np) pD pV pB pX pY sv rc ah be wt iw hd wn) → va_S A s.heap H locs → lv_has ls 2 [(0, .ref (h 0)), (1, .int (nI i))] → W p l e rm_firstFault s m args below meth c H locs 0 0 Q (F0 m 22 ls []))
    (kk : ∀ (i : Nat) (H : Heap) (locs : List Loc) (ls : Array Slot), (∀ q, q < np → fop vP vO pD pV pB rc ah q = 0) → va_P D vwCl (pfW h k vc vP vO vG (nI np) pD pV pB pX pY sv rc ah be wt iw hd wn) H → va_D A (pfW h k vc vP vO vG (nI np) pD pV pB pX pY sv rc ah be wt iw hd wn) → va_S A s.heap H locs → lv_has ls 2 [(0, .ref (h 0)), (1, .int (nI i))] → W p l e rm_firstFault s m args below meth c H locs 0 0 Q (F0 m 30 ls [])) :
    ∀ (n : Nat) (i : Nat) (H : Heap) (locs : List Loc) (ls : Array Slot), (i ≤ np) → (∀ q, q < i → fop vP vO pD pV pB rc ah q = 0) → np - i < n → va_P D vwCl (pfW h k vc vP vO vG (nI np) pD pV pB pX pY sv rc ah be wt iw hd wn) H → va_D A (pfW h k vc vP vO vG (nI np) pD pV pB pX pY sv rc ah be wt iw hd wn) → va_S A s.heap H locs → lv_has ls 2 [(0, .ref (h 0)), (1, .int (nI i))] → W p l e rm_firstFault s m args below meth c H locs 0 0 Q (F0 m 6 ls []) := by
  have hin := in_firstFault
  intro n
  induction n with
  | zero =>
    intro i H locs ls hi hno hmz
    exact absurd hmz (Nat.not_lt_zero _)
  | succ n ih =>
    intro i H locs ls hi hno hmz hP hD hS hl
    refine lv_iload_n hx hb dX0_firstFault_6 rfl (lv_at hl 1 rfl) ?_
    refine lv_aload_n hx hb dX0_firstFault_7 rfl (lv_at hl 0 rfl) ?_
    refine pf_g_pn hx hb hts hin hown hK hP (by decide +kernel) dX0_firstFault_8 ?_
    refine lv_icmp_ge (tgt := 30) hx hb dX0_firstFault_11 (by decide) (fun c11 => ?_) (fun c11 => ?_)
    · -- 11 t ge 
      have n11 : np ≤ i := (nI_leI (by omega) (by omega)).mp c11
      exact kk i H locs ls ((show i = np by omega) ▸ hno) hP hD hS (lv_sub hl [0, 1] rfl)
    · -- 11 f ge 
      have n11 : ¬ np ≤ i := fun q => c11 ((nI_leI (by omega) (by omega)).mpr q)
      refine lv_aload_n hx hb dX0_firstFault_14 rfl (lv_at hl 0 rfl) ?_
      refine lv_iload_n hx hb dX0_firstFault_15 rfl (lv_at hl 1 rfl) ?_
      refine call_vi (As := [.int (nI i)]) (rest := []) ⟨hx, hb, hml, hown, hts⟩ (c_faultOfPoint i (by omega) (hpt i (by omega)).1 (hpt i (by omega)).2) cp_firstFault_faultOfPoint ⟨rfl, rfl⟩ ⟨Nat.le_of_ble_eq_true rfl, Nat.le_of_ble_eq_true rfl⟩ rfl rfl 0 rfl rfl hl.1 rfl (Nat.le_of_ble_eq_true rfl) dX0_firstFault_16 ⟨Nat.zero_le _, Nat.zero_le _⟩ hK hP hD hS hA (fun r16 u H locs p16 hP hD hS => ?_)
      try dsimp only at p16
      obtain rfl := p16
      refine lv_if_eq (tgt := 24) hx hb dX0_firstFault_19 (by decide) (fun c19 => ?_) (fun c19 => ?_)
      · -- 19 t eq 
        refine lv_iinc (v := nI (i + 1)) (lv' := [(1, .int (nI (i + 1))), (0, .ref (h 0))]) hx hb dX0_firstFault_24 hl (k := 1) rfl (nI_add i 1) (by decide) rfl (fun ls hl => ?_)
        refine lv_goto (tgt := 6) hx hb dX0_firstFault_27 (by decide) ?_
        exact ih (i + 1) H locs ls (by omega) (lt_s hno c19) (by omega) hP hD hS (lv_sub hl [1, 0] rfl)
      · -- 19 f eq 
        exact kk2 i H locs ls (by omega) c19 hno hP hD hS (lv_sub hl [0, 1] rfl)

theorem cp_firstFault_solve : cpV wsX0_firstFault RX0 77 RX0 yX0_solve wsX0_solve cX0_solve 3 none 0 := ⟨gX0_firstFault_X0_solve, ⟨_, rfl⟩, by decide +kernel⟩
set_option maxHeartbeats 4000000 in
set_option maxRecDepth 100000 in
theorem c_firstFault {l : Launch} {D : va_G} {h : Nat → Nat} {k : Nat → ClassId} {sv : Int32} {vP vO vG pD pV pB pX pY rc wt iw : Nat → Int32} {ah be : Nat → Int64} (nv np hN wN : Nat) (hg : GI nv np vP pV pB) (hz : ZI nv np vP vG pD pV pB pX pY sv rc iw ah) : ct l yX0_firstFault wsX0_firstFault rm_firstFault D vwCl (pfT k) [.ref (h 0)] (pfW h k (nI nv) vP vO vG (nI np) pD pV pB pX pY sv rc ah be wt iw (nI hN) (nI wN)) (qI D vwCl (pfT k) (fun (r : Int32) (u : Int32 × (Nat → Int32) × (Nat → Int32) × (Nat → Int32) × (Nat → Int64) × (Nat → Int64) × Nat × Nat) => SP nv np vP vG pD pV pB pX pY u.1 u.2.1 u.2.2.1 u.2.2.2.2.1 ∧ ((r = -1 ∧ ∀ q, q < np → fop vP vO pD pV pB u.2.1 u.2.2.2.2.1 q = 0) ∨ ∃ j, j < np ∧ r = nI j ∧ ¬ fop vP vO pD pV pB u.2.1 u.2.2.2.2.1 j = 0 ∧ ∀ q, q < j → fop vP vO pD pV pB u.2.1 u.2.2.2.2.1 q = 0)) (fun u => pfW h k (nI nv) vP vO vG (nI np) pD pV pB pX pY u.1 u.2.1 u.2.2.2.2.1 u.2.2.2.2.2.1 u.2.2.2.1 u.2.2.1 (nI u.2.2.2.2.2.2.1) (nI u.2.2.2.2.2.2.2))) 0 0 := by
  refine ct_of (cc := cX0_firstFault) (maxL := 2) (ret := some .int) (by decide) rfl (Nat.le_of_ble_eq_true rfl) ?_
  intro p e s m below meth c A ls hx hb hr hml hlocks hown hnm hts hA hK hP hD hS hl
  have hown : s.vm.findClass RX0 = some m.cls := hown
  have hin := in_firstFault
  have hl : lv_has ls 2 [(0, .ref (h 0))] := hl
  have hn : np ≤ 120 := hg.2.1
  refine lv_aload_n hx hb dX0_firstFault_0 rfl (lv_at hl 0 rfl) ?_
  refine call_vv (As := []) (rest := []) ⟨hx, hb, hml, hown, hts⟩ (c_solve nv np hN wN hg hz) cp_firstFault_solve ⟨rfl, rfl⟩ ⟨Nat.le_of_ble_eq_true rfl, Nat.le_of_ble_eq_true rfl⟩ rfl rfl 0 rfl rfl hl.1 rfl (Nat.le_of_ble_eq_true rfl) dX0_firstFault_1 ⟨Nat.zero_le _, Nat.zero_le _⟩ hK hP hD hS hA (fun u H locs p1 hP hD hS => ?_)
  obtain ⟨sv_1, rc_1, iw_1, wt_1, ah_1, be_1, hd_1, wn_1⟩ := u
  have hP : va_P D vwCl (pfW h k (nI nv) vP vO vG (nI np) pD pV pB pX pY sv_1 rc_1 ah_1 be_1 wt_1 iw_1 (nI hd_1) (nI wn_1)) H := hP
  have hD : va_D A (pfW h k (nI nv) vP vO vG (nI np) pD pV pB pX pY sv_1 rc_1 ah_1 be_1 wt_1 iw_1 (nI hd_1) (nI wn_1)) := hD
  try dsimp only at p1
  refine lv_iconst (v := nI 0) hx hb dX0_firstFault_4 (by decide) ?_
  refine lv_istore_n (lv' := [(1, .int (nI 0)), (0, .ref (h 0))]) hx hb dX0_firstFault_5 rfl hl (by decide) rfl (fun ls hl => ?_)
  refine lp_ff hx hb hml hown hts hA hK hn (fun q hq => ⟨(hg.2.2.2 q hq).1, (hg.2.2.2 q hq).2.1⟩) ?_ ?_ _ 0 _ _ ls (Nat.zero_le _) (fun q hq => absurd hq (Nat.not_lt_zero q)) (Nat.lt_succ_self _) hP hD hS (lv_sub hl [1, 0] rfl)
  · intro i H locs ls hi hf hno hP hD hS hl
    refine lv_iload_n hx hb dX0_firstFault_22 rfl (lv_at hl 1 rfl) ?_
    exact ret_i hx hb hr hlocks hK hP hD hS dX0_firstFault_23 (sv_1, rc_1, iw_1, wt_1, ah_1, be_1, hd_1, wn_1) rfl (⟨p1, Or.inr ⟨i, hi, rfl, hf, hno⟩⟩)
  · intro i H locs ls hno hP hD hS hl
    refine lv_iconst (v := (-1)) hx hb dX0_firstFault_30 (by decide) ?_
    exact ret_i hx hb hr hlocks hK hP hD hS dX0_firstFault_31 (sv_1, rc_1, iw_1, wt_1, ah_1, be_1, hd_1, wn_1) rfl (⟨p1, Or.inl ⟨rfl, hno⟩⟩)

abbrev rm_countParts : Room := { frames := 0, cells := 0, slots := 0, locals := 0 }
theorem in_countParts : ∀ w ∈ u_ws RX0 TX0 18, w ∈ wsX0_countParts := by decide +kernel
set_option maxHeartbeats 4000000 in
set_option maxRecDepth 100000 in
theorem lp_cp {p : Program} {l : Launch} {e : Env} {s : State} {m : MethodId} {args : Array Value} {below : List Frame} {meth : Method} {c : Code} {A : Nat → Prop} {Q : State → Prop} {D : va_G} {h : Nat → Nat} {k : Nat → ClassId} {pn sv hd wn : Int32} {vP vO vG pD pV pB pX pY rc wt iw : Nat → Int32} {ah be : Nat → Int64} {nv : Nat} (hx : p.tables.exec = Jvm.exec) (hb : c.code = cX0_countParts) (hml : c.maxLocals = 3) (hown : s.vm.findClass RX0 = some m.cls) (hts : ∀ w ∈ wsX0_countParts, w.before args s = true) (hA : ∀ q : Nat, s.heap.size ≤ q → A q) (hK : va_K D vwCl (pfT k) s) (hnv : nv ≤ 20)
    (kk : ∀ (i : Nat) (sm : Int32) (H : Heap) (locs : List Loc) (ls : Array Slot), (sm = smI vP nv) → va_P D vwCl (pfW h k (nI nv) vP vO vG pn pD pV pB pX pY sv rc ah be wt iw hd wn) H → va_D A (pfW h k (nI nv) vP vO vG pn pD pV pB pX pY sv rc ah be wt iw hd wn) → va_S A s.heap H locs → lv_has ls 3 [(0, .ref (h 0)), (1, .int sm), (2, .int (nI i))] → W p l e rm_countParts s m args below meth c H locs 0 0 Q (F0 m 27 ls [])) :
    ∀ (n : Nat) (i : Nat) (sm : Int32) (H : Heap) (locs : List Loc) (ls : Array Slot), (i ≤ nv) → (sm = smI vP i) → nv - i < n → va_P D vwCl (pfW h k (nI nv) vP vO vG pn pD pV pB pX pY sv rc ah be wt iw hd wn) H → va_D A (pfW h k (nI nv) vP vO vG pn pD pV pB pX pY sv rc ah be wt iw hd wn) → va_S A s.heap H locs → lv_has ls 3 [(0, .ref (h 0)), (1, .int sm), (2, .int (nI i))] → W p l e rm_countParts s m args below meth c H locs 0 0 Q (F0 m 4 ls []) := by
  have hin := in_countParts
  intro n
  induction n with
  | zero =>
    intro i sm H locs ls hi hsm hmz
    exact absurd hmz (Nat.not_lt_zero _)
  | succ n ih =>
    intro i sm H locs ls hi hsm hmz hP hD hS hl
    refine lv_iload_n hx hb dX0_countParts_4 rfl (lv_at hl 2 rfl) ?_
    refine lv_aload_n hx hb dX0_countParts_5 rfl (lv_at hl 0 rfl) ?_
    refine pf_g_vc hx hb hts hin hown hK hP (by decide +kernel) dX0_countParts_6 ?_
    refine lv_icmp_ge (tgt := 27) hx hb dX0_countParts_9 (by decide) (fun c9 => ?_) (fun c9 => ?_)
    · -- 9 t ge 
      have n9 : nv ≤ i := (nI_leI (by omega) (by omega)).mp c9
      exact kk i sm H locs ls ((show i = nv by omega) ▸ hsm) hP hD hS (lv_sub hl [0, 1, 2] rfl)
    · -- 9 f ge 
      have n9 : ¬ nv ≤ i := fun q => c9 ((nI_leI (by omega) (by omega)).mpr q)
      refine lv_iload_n hx hb dX0_countParts_12 rfl (lv_at hl 1 rfl) ?_
      refine lv_aload_n hx hb dX0_countParts_13 rfl (lv_at hl 0 rfl) ?_
      refine pf_g_vP hx hb hts hin hown hK hP (by decide +kernel) dX0_countParts_14 ?_
      refine lv_iload_n hx hb dX0_countParts_17 rfl (lv_at hl 2 rfl) ?_
      refine pf_l_vP (n := i) hx hb hK hP (by omega) dX0_countParts_18 ?_
      refine lv_iadd hx hb dX0_countParts_19 ?_
      refine lv_istore_n (lv' := [(1, .int (sm + (vP i))), (0, .ref (h 0)), (2, .int (nI i))]) hx hb dX0_countParts_20 rfl hl (by decide) rfl (fun ls hl => ?_)
      refine lv_iinc (v := nI (i + 1)) (lv' := [(2, .int (nI (i + 1))), (1, .int (sm + (vP i))), (0, .ref (h 0))]) hx hb dX0_countParts_21 hl (k := 2) rfl (nI_add i 1) (by decide) rfl (fun ls hl => ?_)
      refine lv_goto (tgt := 4) hx hb dX0_countParts_24 (by decide) ?_
      exact ih (i + 1) (sm + (vP i)) H locs ls (by omega) (by rw [hsm]; rfl) (by omega) hP hD hS (lv_sub hl [2, 1, 0] rfl)

set_option maxHeartbeats 4000000 in
set_option maxRecDepth 100000 in
theorem c_countParts {l : Launch} {D : va_G} {h : Nat → Nat} {k : Nat → ClassId} {pn sv hd wn : Int32} {vP vO vG pD pV pB pX pY rc wt iw : Nat → Int32} {ah be : Nat → Int64} (nv : Nat) (hnv : nv ≤ 20) : ct l yX0_countParts wsX0_countParts rm_countParts D vwCl (pfT k) [.ref (h 0)] (pfW h k (nI nv) vP vO vG pn pD pV pB pX pY sv rc ah be wt iw hd wn) (qI D vwCl (pfT k) (fun (r : Int32) (u : Unit) => r = smI vP nv) (fun _ => pfW h k (nI nv) vP vO vG pn pD pV pB pX pY sv rc ah be wt iw hd wn)) 0 0 := by
  refine ct_of (cc := cX0_countParts) (maxL := 3) (ret := some .int) (by decide) rfl (Nat.le_of_ble_eq_true rfl) ?_
  intro p e s m below meth c A ls hx hb hr hml hlocks hown hnm hts hA hK hP hD hS hl
  have hown : s.vm.findClass RX0 = some m.cls := hown
  have hin := in_countParts
  have hl : lv_has ls 3 [(0, .ref (h 0))] := hl
  refine lv_iconst (v := 0) hx hb dX0_countParts_0 (by decide) ?_
  refine lv_istore_n (lv' := [(1, .int 0), (0, .ref (h 0))]) hx hb dX0_countParts_1 rfl hl (by decide) rfl (fun ls hl => ?_)
  refine lv_iconst (v := nI 0) hx hb dX0_countParts_2 (by decide) ?_
  refine lv_istore_n (lv' := [(2, .int (nI 0)), (1, .int 0), (0, .ref (h 0))]) hx hb dX0_countParts_3 rfl hl (by decide) rfl (fun ls hl => ?_)
  refine lp_cp hx hb hml hown hts hA hK hnv ?_ _ 0 0 _ _ ls (Nat.zero_le _) (rfl) (Nat.lt_succ_self _) hP hD hS (lv_sub hl [2, 1, 0] rfl)
  intro i sm H locs ls hsm hP hD hS hl
  refine lv_iload_n hx hb dX0_countParts_27 rfl (lv_at hl 1 rfl) ?_
  exact ret_i hx hb hr hlocks hK hP hD hS dX0_countParts_28 () rfl (hsm)

abbrev rm_count : Room := { frames := 5, cells := 0, slots := 0, locals := 114 }
theorem in_count : ∀ w ∈ u_ws RX0 TX0 18, w ∈ wsX0_count := by decide +kernel
theorem cp_count_countFaults : cpV wsX0_count RX0 92 RX0 yX0_countFaults wsX0_countFaults cX0_countFaults 3 (some .int) 0 := ⟨gX0_count_X0_countFaults, ⟨_, rfl⟩, by decide +kernel⟩
theorem cp_count_countParts : cpV wsX0_count RX0 98 RX0 yX0_countParts wsX0_countParts cX0_countParts 3 (some .int) 0 := ⟨gX0_count_X0_countParts, ⟨_, rfl⟩, by decide +kernel⟩
theorem cp_count_countReached : cpV wsX0_count RX0 88 RX0 yX0_countReached wsX0_countReached cX0_countReached 3 (some .int) 0 := ⟨gX0_count_X0_countReached, ⟨_, rfl⟩, by decide +kernel⟩
theorem cp_count_firstFault : cpV wsX0_count RX0 95 RX0 yX0_firstFault wsX0_firstFault cX0_firstFault 2 (some .int) 0 := ⟨gX0_count_X0_firstFault, ⟨_, rfl⟩, by decide +kernel⟩
set_option maxHeartbeats 4000000 in
set_option maxRecDepth 100000 in
theorem c_count {l : Launch} {D : va_G} {h : Nat → Nat} {k : Nat → ClassId} {sv : Int32} {vP vO vG pD pV pB pX pY rc wt iw : Nat → Int32} {ah be : Nat → Int64} (nv np hN wN : Nat) (x : Int32) (hg : GI nv np vP pV pB) (hz : ZI nv np vP vG pD pV pB pX pY sv rc iw ah) : ct l yX0_count wsX0_count rm_count D vwCl (pfT k) [.ref (h 0), .int x] (pfW h k (nI nv) vP vO vG (nI np) pD pV pB pX pY sv rc ah be wt iw (nI hN) (nI wN)) (qI D vwCl (pfT k) (fun (r : Int32) (u : Int32 × (Nat → Int32) × (Nat → Int32) × (Nat → Int32) × (Nat → Int64) × (Nat → Int64) × Nat × Nat) => ZI nv np vP vG pD pV pB pX pY u.1 u.2.1 u.2.2.1 u.2.2.2.2.1 ∧ ((x = 0 ∧ r = nI np) ∨ (x = 1 ∧ DnG nv np vP vG pD pV pB pX pY u.2.1 u.2.2.2.2.1 ∧ r = nI (cnt (fun q => decide (¬ u.2.1 q = 0)) np)) ∨ (x = 2 ∧ DnG nv np vP vG pD pV pB pX pY u.2.1 u.2.2.2.2.1 ∧ r = nI (cnt (fun q => decide (¬ fop vP vO pD pV pB u.2.1 u.2.2.2.2.1 q = 0)) np)) ∨ (x = 3 ∧ DnG nv np vP vG pD pV pB pX pY u.2.1 u.2.2.2.2.1 ∧ ((r = -1 ∧ ∀ q, q < np → fop vP vO pD pV pB u.2.1 u.2.2.2.2.1 q = 0) ∨ ∃ j, j < np ∧ r = nI j ∧ ¬ fop vP vO pD pV pB u.2.1 u.2.2.2.2.1 j = 0 ∧ ∀ q, q < j → fop vP vO pD pV pB u.2.1 u.2.2.2.2.1 q = 0)) ∨ (x = 4 ∧ r = nI nv) ∨ (x = 5 ∧ r = smI vP nv) ∨ ((¬ x = 0 ∧ ¬ x = 1 ∧ ¬ x = 2 ∧ ¬ x = 3 ∧ ¬ x = 4 ∧ ¬ x = 5) ∧ r = -1))) (fun u => pfW h k (nI nv) vP vO vG (nI np) pD pV pB pX pY u.1 u.2.1 u.2.2.2.2.1 u.2.2.2.2.2.1 u.2.2.2.1 u.2.2.1 (nI u.2.2.2.2.2.2.1) (nI u.2.2.2.2.2.2.2))) 0 0 := by
  refine ct_of (cc := cX0_count) (maxL := 2) (ret := some .int) (by decide) rfl (Nat.le_of_ble_eq_true rfl) ?_
  intro p e s m below meth c A ls hx hb hr hml hlocks hown hnm hts hA hK hP hD hS hl
  have hown : s.vm.findClass RX0 = some m.cls := hown
  have hin := in_count
  have hl : lv_has ls 2 [(0, .ref (h 0)), (1, .int x)] := hl
  refine lv_iload_n hx hb dX0_count_0 rfl (lv_at hl 1 rfl) ?_
  rcases sw6 x with rfl | rfl | rfl | rfl | rfl | rfl | ⟨hsw, hs0, hs1, hs2, hs3, hs4, hs5⟩
  · refine lv_tableIn (off := 39) (tgt := 40) hx hb dX0_count_1 (by decide) (by decide) rfl (by decide) ?_
    refine lv_aload_n hx hb dX0_count_40 rfl (lv_at hl 0 rfl) ?_
    refine pf_g_pn hx hb hts hin hown hK hP (by decide +kernel) dX0_count_41 ?_
    exact ret_i hx hb hr hlocks hK hP hD hS dX0_count_44 (sv, rc, iw, wt, ah, be, hN, wN) rfl (⟨hz, Or.inl ⟨rfl, rfl⟩⟩)
  · refine lv_tableIn (off := 44) (tgt := 45) hx hb dX0_count_1 (by decide) (by decide) rfl (by decide) ?_
    refine lv_aload_n hx hb dX0_count_45 rfl (lv_at hl 0 rfl) ?_
    refine call_vi (As := []) (rest := []) ⟨hx, hb, hml, hown, hts⟩ (c_countReached nv np hN wN hg hz) cp_count_countReached ⟨rfl, rfl⟩ ⟨Nat.le_of_ble_eq_true rfl, Nat.le_of_ble_eq_true rfl⟩ rfl rfl 0 rfl rfl hl.1 rfl (Nat.le_of_ble_eq_true rfl) dX0_count_46 ⟨Nat.zero_le _, Nat.zero_le _⟩ hK hP hD hS hA (fun r46 u H locs p46 hP hD hS => ?_)
    obtain ⟨sv_46, rc_46, iw_46, wt_46, ah_46, be_46, hd_46, wn_46⟩ := u
    have hP : va_P D vwCl (pfW h k (nI nv) vP vO vG (nI np) pD pV pB pX pY sv_46 rc_46 ah_46 be_46 wt_46 iw_46 (nI hd_46) (nI wn_46)) H := hP
    have hD : va_D A (pfW h k (nI nv) vP vO vG (nI np) pD pV pB pX pY sv_46 rc_46 ah_46 be_46 wt_46 iw_46 (nI hd_46) (nI wn_46)) := hD
    try dsimp only at p46
    exact ret_i hx hb hr hlocks hK hP hD hS dX0_count_49 (sv_46, rc_46, iw_46, wt_46, ah_46, be_46, hd_46, wn_46) rfl (⟨SP_ZI p46.1, Or.inr (Or.inl ⟨rfl, p46.1.2.1, p46.2⟩)⟩)
  · refine lv_tableIn (off := 49) (tgt := 50) hx hb dX0_count_1 (by decide) (by decide) rfl (by decide) ?_
    refine lv_aload_n hx hb dX0_count_50 rfl (lv_at hl 0 rfl) ?_
    refine call_vi (As := []) (rest := []) ⟨hx, hb, hml, hown, hts⟩ (c_countFaults nv np hN wN hg hz) cp_count_countFaults ⟨rfl, rfl⟩ ⟨Nat.le_of_ble_eq_true rfl, Nat.le_of_ble_eq_true rfl⟩ rfl rfl 0 rfl rfl hl.1 rfl (Nat.le_of_ble_eq_true rfl) dX0_count_51 ⟨Nat.zero_le _, Nat.zero_le _⟩ hK hP hD hS hA (fun r51 u H locs p51 hP hD hS => ?_)
    obtain ⟨sv_51, rc_51, iw_51, wt_51, ah_51, be_51, hd_51, wn_51⟩ := u
    have hP : va_P D vwCl (pfW h k (nI nv) vP vO vG (nI np) pD pV pB pX pY sv_51 rc_51 ah_51 be_51 wt_51 iw_51 (nI hd_51) (nI wn_51)) H := hP
    have hD : va_D A (pfW h k (nI nv) vP vO vG (nI np) pD pV pB pX pY sv_51 rc_51 ah_51 be_51 wt_51 iw_51 (nI hd_51) (nI wn_51)) := hD
    try dsimp only at p51
    exact ret_i hx hb hr hlocks hK hP hD hS dX0_count_54 (sv_51, rc_51, iw_51, wt_51, ah_51, be_51, hd_51, wn_51) rfl (⟨SP_ZI p51.1, Or.inr (Or.inr (Or.inl ⟨rfl, p51.1.2.1, p51.2⟩))⟩)
  · refine lv_tableIn (off := 54) (tgt := 55) hx hb dX0_count_1 (by decide) (by decide) rfl (by decide) ?_
    refine lv_aload_n hx hb dX0_count_55 rfl (lv_at hl 0 rfl) ?_
    refine call_vi (As := []) (rest := []) ⟨hx, hb, hml, hown, hts⟩ (c_firstFault nv np hN wN hg hz) cp_count_firstFault ⟨rfl, rfl⟩ ⟨Nat.le_of_ble_eq_true rfl, Nat.le_of_ble_eq_true rfl⟩ rfl rfl 0 rfl rfl hl.1 rfl (Nat.le_of_ble_eq_true rfl) dX0_count_56 ⟨Nat.zero_le _, Nat.zero_le _⟩ hK hP hD hS hA (fun r56 u H locs p56 hP hD hS => ?_)
    obtain ⟨sv_56, rc_56, iw_56, wt_56, ah_56, be_56, hd_56, wn_56⟩ := u
    have hP : va_P D vwCl (pfW h k (nI nv) vP vO vG (nI np) pD pV pB pX pY sv_56 rc_56 ah_56 be_56 wt_56 iw_56 (nI hd_56) (nI wn_56)) H := hP
    have hD : va_D A (pfW h k (nI nv) vP vO vG (nI np) pD pV pB pX pY sv_56 rc_56 ah_56 be_56 wt_56 iw_56 (nI hd_56) (nI wn_56)) := hD
    try dsimp only at p56
    exact ret_i hx hb hr hlocks hK hP hD hS dX0_count_59 (sv_56, rc_56, iw_56, wt_56, ah_56, be_56, hd_56, wn_56) rfl (⟨SP_ZI p56.1, Or.inr (Or.inr (Or.inr (Or.inl ⟨rfl, p56.1.2.1, p56.2⟩)))⟩)
  · refine lv_tableIn (off := 59) (tgt := 60) hx hb dX0_count_1 (by decide) (by decide) rfl (by decide) ?_
    refine lv_aload_n hx hb dX0_count_60 rfl (lv_at hl 0 rfl) ?_
    refine pf_g_vc hx hb hts hin hown hK hP (by decide +kernel) dX0_count_61 ?_
    exact ret_i hx hb hr hlocks hK hP hD hS dX0_count_64 (sv, rc, iw, wt, ah, be, hN, wN) rfl (⟨hz, Or.inr (Or.inr (Or.inr (Or.inr (Or.inl ⟨rfl, rfl⟩))))⟩)
  · refine lv_tableIn (off := 64) (tgt := 65) hx hb dX0_count_1 (by decide) (by decide) rfl (by decide) ?_
    refine lv_aload_n hx hb dX0_count_65 rfl (lv_at hl 0 rfl) ?_
    refine call_vi (As := []) (rest := []) ⟨hx, hb, hml, hown, hts⟩ (c_countParts nv hg.1) cp_count_countParts ⟨rfl, rfl⟩ ⟨Nat.le_of_ble_eq_true rfl, Nat.le_of_ble_eq_true rfl⟩ rfl rfl 0 rfl rfl hl.1 rfl (Nat.le_of_ble_eq_true rfl) dX0_count_66 ⟨Nat.zero_le _, Nat.zero_le _⟩ hK hP hD hS hA (fun r66 u H locs p66 hP hD hS => ?_)
    try dsimp only at p66
    exact ret_i hx hb hr hlocks hK hP hD hS dX0_count_69 (sv, rc, iw, wt, ah, be, hN, wN) rfl (⟨hz, Or.inr (Or.inr (Or.inr (Or.inr (Or.inr (Or.inl ⟨rfl, p66⟩)))))⟩)
  · refine lv_tableOut (tgt := 70) hx hb dX0_count_1 hsw (by decide) ?_
    refine lv_iconst (v := (-1)) hx hb dX0_count_70 (by decide) ?_
    exact ret_i hx hb hr hlocks hK hP hD hS dX0_count_71 (sv, rc, iw, wt, ah, be, hN, wN) rfl (⟨hz, Or.inr (Or.inr (Or.inr (Or.inr (Or.inr (Or.inr (⟨⟨hs0, hs1, hs2, hs3, hs4, hs5⟩, rfl⟩))))))⟩)

abbrev rm_variable : Room := { frames := 0, cells := 0, slots := 0, locals := 0 }
theorem in_variable : ∀ w ∈ u_ws RX0 TX0 18, w ∈ wsX0_variable := by decide +kernel
set_option maxHeartbeats 4000000 in
set_option maxRecDepth 100000 in
theorem c_variable {l : Launch} {D : va_G} {h : Nat → Nat} {k : Nat → ClassId} {pn sv hd wn : Int32} {vP vO vG pD pV pB pX pY rc wt iw : Nat → Int32} {ah be : Nat → Int64} (nv : Nat) (x o gv : Int32) (hnv : nv ≤ 20) (ho : o = 0 ∨ o = 1) (hgv : gv = 0 ∨ gv = 1) : ct l yX0_variable wsX0_variable rm_variable D vwCl (pfT k) [.ref (h 0), .int x, .int o, .int gv] (pfW h k (nI nv) vP vO vG pn pD pV pB pX pY sv rc ah be wt iw hd wn) (qI D vwCl (pfT k) (fun (r : Int32) (u : Nat × (Nat → Int32) × (Nat → Int32) × (Nat → Int32) × Int32) => (r = -1 ∧ (x < 1 ∨ 8 < x ∨ ¬ nv < 20) ∧ u = (nv, vP, vO, vG, sv)) ∨ (r = nI nv ∧ ¬ x < 1 ∧ ¬ 8 < x ∧ nv < 20 ∧ u = (nv + 1, upd vP nv x, upd vO nv o, upd vG nv gv, 0))) (fun u => pfW h k (nI u.1) u.2.1 u.2.2.1 u.2.2.2.1 pn pD pV pB pX pY u.2.2.2.2 rc ah be wt iw hd wn)) 0 0 := by
  refine ct_of (cc := cX0_variable) (maxL := 5) (ret := some .int) (by decide) rfl (Nat.le_of_ble_eq_true rfl) ?_
  intro p e s m below meth c A ls hx hb hr hml hlocks hown hnm hts hA hK hP hD hS hl
  have hown : s.vm.findClass RX0 = some m.cls := hown
  have hin := in_variable
  have hl : lv_has ls 5 [(0, .ref (h 0)), (1, .int x), (2, .int o), (3, .int gv)] := hl
  refine lv_iload_n hx hb dX0_variable_0 rfl (lv_at hl 1 rfl) ?_
  refine lv_iconst (v := 1) hx hb dX0_variable_1 (by decide) ?_
  refine lv_icmp_lt (tgt := 20) hx hb dX0_variable_2 (by decide) (fun c2 => ?_) (fun c2 => ?_)
  · -- 2 t lt 
    refine lv_iconst (v := (-1)) hx hb dX0_variable_20 (by decide) ?_
    exact ret_i hx hb hr hlocks hK hP hD hS dX0_variable_21 (nv, vP, vO, vG, sv) rfl (Or.inl ⟨rfl, Or.inl c2, rfl⟩)
  · -- 2 f lt 
    refine lv_iload_n hx hb dX0_variable_5 rfl (lv_at hl 1 rfl) ?_
    refine lv_bipush (v := 8) hx hb dX0_variable_6 (by decide) ?_
    refine lv_icmp_gt (tgt := 20) hx hb dX0_variable_8 (by decide) (fun c8 => ?_) (fun c8 => ?_)
    · -- 8 t gt 
      refine lv_iconst (v := (-1)) hx hb dX0_variable_20 (by decide) ?_
      exact ret_i hx hb hr hlocks hK hP hD hS dX0_variable_21 (nv, vP, vO, vG, sv) rfl (Or.inl ⟨rfl, Or.inr (Or.inl c8), rfl⟩)
    · -- 8 f gt 
      refine lv_aload_n hx hb dX0_variable_11 rfl (lv_at hl 0 rfl) ?_
      refine pf_g_vc hx hb hts hin hown hK hP (by decide +kernel) dX0_variable_12 ?_
      refine lv_bipush (v := 20) hx hb dX0_variable_15 (by decide) ?_
      refine lv_icmp_lt (tgt := 22) hx hb dX0_variable_17 (by decide) (fun c17 => ?_) (fun c17 => ?_)
      · -- 17 t lt 
        have n17 : nv < 20 := (nI_ltI (by omega) (by decide)).mp c17
        refine lv_aload_n hx hb dX0_variable_22 rfl (lv_at hl 0 rfl) ?_
        refine pf_g_vc hx hb hts hin hown hK hP (by decide +kernel) dX0_variable_23 ?_
        refine lv_istore (lv' := [(4, .int (nI nv)), (0, .ref (h 0)), (1, .int x), (2, .int o), (3, .int gv)]) hx hb dX0_variable_26 hl (by decide) rfl (fun ls hl => ?_)
        refine lv_aload_n hx hb dX0_variable_28 rfl (lv_at hl 1 rfl) ?_
        refine pf_g_vP hx hb hts hin hown hK hP (by decide +kernel) dX0_variable_29 ?_
        refine lv_iload hx hb dX0_variable_32 (lv_at hl 0 rfl) ?_
        refine lv_iload_n hx hb dX0_variable_34 rfl (lv_at hl 2 rfl) ?_
        refine pf_s_vP (n := nv) (x := x) hx hb hK hP hD hS (by omega) dX0_variable_35 (fun H locs hP hD hS => ?_)
        refine lv_aload_n hx hb dX0_variable_36 rfl (lv_at hl 1 rfl) ?_
        refine pf_g_vO hx hb hts hin hown hK hP (by decide +kernel) dX0_variable_37 ?_
        refine lv_iload hx hb dX0_variable_40 (lv_at hl 0 rfl) ?_
        refine lv_iload_n hx hb dX0_variable_42 rfl (lv_at hl 3 rfl) ?_
        refine pf_s_vO (n := nv) (x := o) hx hb hK hP hD hS (by omega) dX0_variable_43 (by rcases ho with z | z <;> rw [z] <;> decide) (fun H locs hP hD hS => ?_)
        refine lv_aload_n hx hb dX0_variable_44 rfl (lv_at hl 1 rfl) ?_
        refine pf_g_vG hx hb hts hin hown hK hP (by decide +kernel) dX0_variable_45 ?_
        refine lv_iload hx hb dX0_variable_48 (lv_at hl 0 rfl) ?_
        refine lv_iload_n hx hb dX0_variable_50 rfl (lv_at hl 4 rfl) ?_
        refine pf_s_vG (n := nv) (x := gv) hx hb hK hP hD hS (by omega) dX0_variable_51 (by rcases hgv with z | z <;> rw [z] <;> decide) (fun H locs hP hD hS => ?_)
        refine lv_aload_n hx hb dX0_variable_52 rfl (lv_at hl 1 rfl) ?_
        refine lv_iload hx hb dX0_variable_53 (lv_at hl 0 rfl) ?_
        refine lv_iconst (v := 1) hx hb dX0_variable_55 (by decide) ?_
        refine lv_iadd hx hb dX0_variable_56 ?_
        refine lv_topi (fun x_1 ex_1 => ?_)
        obtain rfl : x_1 = nI (nv + 1) := ex_1.trans (nI_add nv 1)
        refine pf_p_vc hx hb hts hin hown hK hP hD hS (by decide +kernel) dX0_variable_57 (fun H locs hP hD hS => ?_)
        refine lv_aload_n hx hb dX0_variable_60 rfl (lv_at hl 1 rfl) ?_
        refine lv_iconst (v := 0) hx hb dX0_variable_61 (by decide) ?_
        refine pf_p_sv hx hb hts hin hown hK hP hD hS (by decide +kernel) dX0_variable_62 (by decide) (by decide) (fun H locs hP hD hS => ?_)
        refine lv_iload hx hb dX0_variable_65 (lv_at hl 0 rfl) ?_
        exact ret_i hx hb hr hlocks hK hP hD hS dX0_variable_67 (nv + 1, upd vP nv x, upd vO nv o, upd vG nv gv, 0) rfl (Or.inr ⟨rfl, c2, c8, n17, rfl⟩)
      · -- 17 f lt 
        have n17 : ¬ nv < 20 := fun q => c17 ((nI_ltI (by omega) (by decide)).mpr q)
        refine lv_iconst (v := (-1)) hx hb dX0_variable_20 (by decide) ?_
        exact ret_i hx hb hr hlocks hK hP hD hS dX0_variable_21 (nv, vP, vO, vG, sv) rfl (Or.inl ⟨rfl, Or.inr (Or.inr n17), rfl⟩)

abbrev rm_point : Room := { frames := 3, cells := 0, slots := 0, locals := 65 }
theorem in_point : ∀ w ∈ u_ws RX0 TX0 18, w ∈ wsX0_point := by decide +kernel
theorem cp_point_bitsOfDoing : cpV wsX0_point RX0 66 RX0 yX0_bitsOfDoing wsX0_bitsOfDoing cX0_bitsOfDoing 5 (some .int) 4 := ⟨gX0_point_X0_bitsOfDoing, ⟨_, rfl⟩, by decide +kernel⟩
theorem cp_point_isDoing : cpV wsX0_point RX0 62 RX0 yX0_isDoing wsX0_isDoing cX0_isDoing 5 (some .boolean) 4 := ⟨gX0_point_X0_isDoing, ⟨_, rfl⟩, by decide +kernel⟩
set_option maxHeartbeats 4000000 in
set_option maxRecDepth 100000 in
theorem c_point {l : Launch} {D : va_G} {h : Nat → Nat} {k : Nat → ClassId} {sv hd wn : Int32} {vP vO vG pD pV pB pX pY rc wt iw : Nat → Int32} {ah be : Nat → Int64} (nv np : Nat) (d x a b : Int32) (hnv : nv ≤ 20) (hn : np ≤ 120) : ct l yX0_point wsX0_point rm_point D vwCl (pfT k) [.ref (h 0), .int d, .int x, .int a, .int b] (pfW h k (nI nv) vP vO vG (nI np) pD pV pB pX pY sv rc ah be wt iw hd wn) (qI D vwCl (pfT k) (fun (r : Int32) (u : Nat × (Nat → Int32) × (Nat → Int32) × (Nat → Int32) × (Nat → Int32) × (Nat → Int32) × Int32) => (r = -1 ∧ (120 ≤ np ∨ ¬ dOK (nI nv) vP d x a b) ∧ u = (np, pD, pV, pB, pX, pY, sv)) ∨ (r = nI np ∧ np < 120 ∧ dOK (nI nv) vP d x a b ∧ u = (np + 1, upd pD np d, upd pV np (if d = 0 then 0 else x), upd pB np (bod vP d x a b), upd pX np (nI (np + 1)), upd pY np (-1), 0))) (fun u => pfW h k (nI nv) vP vO vG (nI u.1) u.2.1 u.2.2.1 u.2.2.2.1 u.2.2.2.2.1 u.2.2.2.2.2.1 u.2.2.2.2.2.2 rc ah be wt iw hd wn)) 0 0 := by
  refine ct_of (cc := cX0_point) (maxL := 6) (ret := some .int) (by decide) rfl (Nat.le_of_ble_eq_true rfl) ?_
  intro p e s m below meth c A ls hx hb hr hml hlocks hown hnm hts hA hK hP hD hS hl
  have hown : s.vm.findClass RX0 = some m.cls := hown
  have hin := in_point
  have hl : lv_has ls 6 [(0, .ref (h 0)), (1, .int d), (2, .int x), (3, .int a), (4, .int b)] := hl
  refine lv_aload_n hx hb dX0_point_0 rfl (lv_at hl 0 rfl) ?_
  refine pf_g_pn hx hb hts hin hown hK hP (by decide +kernel) dX0_point_1 ?_
  refine lv_bipush (v := 120) hx hb dX0_point_4 (by decide) ?_
  refine lv_icmp_ge (tgt := 21) hx hb dX0_point_6 (by decide) (fun c6 => ?_) (fun c6 => ?_)
  · -- 6 t ge 
    have n6 : 120 ≤ np := (nI_leI (by decide) (by omega)).mp c6
    refine lv_iconst (v := (-1)) hx hb dX0_point_21 (by decide) ?_
    exact ret_i hx hb hr hlocks hK hP hD hS dX0_point_22 (np, pD, pV, pB, pX, pY, sv) rfl (Or.inl ⟨rfl, Or.inl n6, rfl⟩)
  · -- 6 f ge 
    have n6 : ¬ 120 ≤ np := fun q => c6 ((nI_leI (by decide) (by omega)).mpr q)
    refine lv_aload_n hx hb dX0_point_9 rfl (lv_at hl 0 rfl) ?_
    refine lv_iload_n hx hb dX0_point_10 rfl (lv_at hl 1 rfl) ?_
    refine lv_iload_n hx hb dX0_point_11 rfl (lv_at hl 2 rfl) ?_
    refine lv_iload_n hx hb dX0_point_12 rfl (lv_at hl 3 rfl) ?_
    refine lv_iload hx hb dX0_point_13 (lv_at hl 4 rfl) ?_
    refine call_vi (As := [.int d, .int x, .int a, .int b]) (rest := []) ⟨hx, hb, hml, hown, hts⟩ (c_isDoing nv d x a b hnv) cp_point_isDoing ⟨rfl, rfl⟩ ⟨Nat.le_of_ble_eq_true rfl, Nat.le_of_ble_eq_true rfl⟩ rfl rfl 0 rfl rfl hl.1 rfl (Nat.le_of_ble_eq_true rfl) dX0_point_15 ⟨Nat.zero_le _, Nat.zero_le _⟩ hK hP hD hS hA (fun r15 u H locs p15 hP hD hS => ?_)
    try dsimp only at p15
    refine lv_if_ne (tgt := 23) hx hb dX0_point_18 (by decide) (fun c18 => ?_) (fun c18 => ?_)
    · -- 18 t ne 
      have hok := yn_yes p15 c18
      refine lv_aload_n hx hb dX0_point_23 rfl (lv_at hl 0 rfl) ?_
      refine pf_g_pn hx hb hts hin hown hK hP (by decide +kernel) dX0_point_24 ?_
      refine lv_istore (lv' := [(5, .int (nI np)), (0, .ref (h 0)), (1, .int d), (2, .int x), (3, .int a), (4, .int b)]) hx hb dX0_point_27 hl (by decide) rfl (fun ls hl => ?_)
      refine lv_aload_n hx hb dX0_point_29 rfl (lv_at hl 1 rfl) ?_
      refine pf_g_pD hx hb hts hin hown hK hP (by decide +kernel) dX0_point_30 ?_
      refine lv_iload hx hb dX0_point_33 (lv_at hl 0 rfl) ?_
      refine lv_iload_n hx hb dX0_point_35 rfl (lv_at hl 2 rfl) ?_
      refine pf_s_pD (n := np) (x := d) hx hb hK hP hD hS (by omega) dX0_point_36 (fun H locs hP hD hS => ?_)
      refine lv_aload_n hx hb dX0_point_37 rfl (lv_at hl 1 rfl) ?_
      refine pf_g_pV hx hb hts hin hown hK hP (by decide +kernel) dX0_point_38 ?_
      refine lv_iload hx hb dX0_point_41 (lv_at hl 0 rfl) ?_
      refine lv_iload_n hx hb dX0_point_43 rfl (lv_at hl 2 rfl) ?_
      refine lv_if_ne (tgt := 51) hx hb dX0_point_44 (by decide) (fun c44 => ?_) (fun c44 => ?_)
      · -- 44 t ne 
        refine lv_iload_n hx hb dX0_point_51 rfl (lv_at hl 3 rfl) ?_
        refine pf_s_pV (n := np) (x := x) hx hb hK hP hD hS (by omega) dX0_point_52 (fun H locs hP hD hS => ?_)
        refine lv_aload_n hx hb dX0_point_53 rfl (lv_at hl 1 rfl) ?_
        refine pf_g_pB hx hb hts hin hown hK hP (by decide +kernel) dX0_point_54 ?_
        refine lv_iload hx hb dX0_point_57 (lv_at hl 0 rfl) ?_
        refine lv_aload_n hx hb dX0_point_59 rfl (lv_at hl 1 rfl) ?_
        refine lv_iload_n hx hb dX0_point_60 rfl (lv_at hl 2 rfl) ?_
        refine lv_iload_n hx hb dX0_point_61 rfl (lv_at hl 3 rfl) ?_
        refine lv_iload_n hx hb dX0_point_62 rfl (lv_at hl 4 rfl) ?_
        refine lv_iload hx hb dX0_point_63 (lv_at hl 5 rfl) ?_
        refine call_vi (As := [.int d, .int x, .int a, .int b]) (rest := [.int (nI np), .ref (h 6)]) ⟨hx, hb, hml, hown, hts⟩ (c_bitsOfDoing d x a b (fun q => (dOK_v hnv hok q).elim (fun v z => ⟨v, by omega, z.2⟩))) cp_point_bitsOfDoing ⟨rfl, rfl⟩ ⟨Nat.le_of_ble_eq_true rfl, Nat.le_of_ble_eq_true rfl⟩ rfl rfl 0 rfl rfl hl.1 rfl (Nat.le_of_ble_eq_true rfl) dX0_point_65 ⟨Nat.zero_le _, Nat.zero_le _⟩ hK hP hD hS hA (fun r65 u H locs p65 hP hD hS => ?_)
        try dsimp only at p65
        obtain rfl := p65
        refine pf_s_pB (n := np) (x := bod vP d x a b) hx hb hK hP hD hS (by omega) dX0_point_68 (fun H locs hP hD hS => ?_)
        refine lv_aload_n hx hb dX0_point_69 rfl (lv_at hl 1 rfl) ?_
        refine pf_g_pX hx hb hts hin hown hK hP (by decide +kernel) dX0_point_70 ?_
        refine lv_iload hx hb dX0_point_73 (lv_at hl 0 rfl) ?_
        refine lv_iload hx hb dX0_point_75 (lv_at hl 0 rfl) ?_
        refine lv_iconst (v := 1) hx hb dX0_point_77 (by decide) ?_
        refine lv_iadd hx hb dX0_point_78 ?_
        refine lv_topi (fun x_1 ex_1 => ?_)
        obtain rfl : x_1 = nI (np + 1) := ex_1.trans (nI_add np 1)
        refine pf_s_pX (n := np) (x := nI (np + 1)) hx hb hK hP hD hS (by omega) dX0_point_79 (fun H locs hP hD hS => ?_)
        refine lv_aload_n hx hb dX0_point_80 rfl (lv_at hl 1 rfl) ?_
        refine pf_g_pY hx hb hts hin hown hK hP (by decide +kernel) dX0_point_81 ?_
        refine lv_iload hx hb dX0_point_84 (lv_at hl 0 rfl) ?_
        refine lv_iconst (v := (-1)) hx hb dX0_point_86 (by decide) ?_
        refine pf_s_pY (n := np) (x := (-1)) hx hb hK hP hD hS (by omega) dX0_point_87 (fun H locs hP hD hS => ?_)
        refine lv_aload_n hx hb dX0_point_88 rfl (lv_at hl 1 rfl) ?_
        refine lv_iload hx hb dX0_point_89 (lv_at hl 0 rfl) ?_
        refine lv_iconst (v := 1) hx hb dX0_point_91 (by decide) ?_
        refine lv_iadd hx hb dX0_point_92 ?_
        refine lv_topi (fun x_2 ex_2 => ?_)
        obtain rfl : x_2 = nI (np + 1) := ex_2.trans (nI_add np 1)
        refine pf_p_pn hx hb hts hin hown hK hP hD hS (by decide +kernel) dX0_point_93 (fun H locs hP hD hS => ?_)
        refine lv_aload_n hx hb dX0_point_96 rfl (lv_at hl 1 rfl) ?_
        refine lv_iconst (v := 0) hx hb dX0_point_97 (by decide) ?_
        refine pf_p_sv hx hb hts hin hown hK hP hD hS (by decide +kernel) dX0_point_98 (by decide) (by decide) (fun H locs hP hD hS => ?_)
        refine lv_iload hx hb dX0_point_101 (lv_at hl 0 rfl) ?_
        exact ret_i hx hb hr hlocks hK hP hD hS dX0_point_103 (np + 1, upd pD np d, upd pV np x, upd pB np (bod vP d x a b), upd pX np (nI (np + 1)), upd pY np (-1), 0) rfl (Or.inr ⟨rfl, by omega, hok, by rw [if_neg c44]⟩)
      · -- 44 f ne 
        refine lv_iconst (v := 0) hx hb dX0_point_47 (by decide) ?_
        refine lv_goto (tgt := 52) hx hb dX0_point_48 (by decide) ?_
        refine pf_s_pV (n := np) (x := 0) hx hb hK hP hD hS (by omega) dX0_point_52 (fun H locs hP hD hS => ?_)
        refine lv_aload_n hx hb dX0_point_53 rfl (lv_at hl 1 rfl) ?_
        refine pf_g_pB hx hb hts hin hown hK hP (by decide +kernel) dX0_point_54 ?_
        refine lv_iload hx hb dX0_point_57 (lv_at hl 0 rfl) ?_
        refine lv_aload_n hx hb dX0_point_59 rfl (lv_at hl 1 rfl) ?_
        refine lv_iload_n hx hb dX0_point_60 rfl (lv_at hl 2 rfl) ?_
        refine lv_iload_n hx hb dX0_point_61 rfl (lv_at hl 3 rfl) ?_
        refine lv_iload_n hx hb dX0_point_62 rfl (lv_at hl 4 rfl) ?_
        refine lv_iload hx hb dX0_point_63 (lv_at hl 5 rfl) ?_
        refine call_vi (As := [.int d, .int x, .int a, .int b]) (rest := [.int (nI np), .ref (h 6)]) ⟨hx, hb, hml, hown, hts⟩ (c_bitsOfDoing d x a b (fun q => (dOK_v hnv hok q).elim (fun v z => ⟨v, by omega, z.2⟩))) cp_point_bitsOfDoing ⟨rfl, rfl⟩ ⟨Nat.le_of_ble_eq_true rfl, Nat.le_of_ble_eq_true rfl⟩ rfl rfl 0 rfl rfl hl.1 rfl (Nat.le_of_ble_eq_true rfl) dX0_point_65 ⟨Nat.zero_le _, Nat.zero_le _⟩ hK hP hD hS hA (fun r65 u H locs p65 hP hD hS => ?_)
        try dsimp only at p65
        obtain rfl := p65
        refine pf_s_pB (n := np) (x := bod vP d x a b) hx hb hK hP hD hS (by omega) dX0_point_68 (fun H locs hP hD hS => ?_)
        refine lv_aload_n hx hb dX0_point_69 rfl (lv_at hl 1 rfl) ?_
        refine pf_g_pX hx hb hts hin hown hK hP (by decide +kernel) dX0_point_70 ?_
        refine lv_iload hx hb dX0_point_73 (lv_at hl 0 rfl) ?_
        refine lv_iload hx hb dX0_point_75 (lv_at hl 0 rfl) ?_
        refine lv_iconst (v := 1) hx hb dX0_point_77 (by decide) ?_
        refine lv_iadd hx hb dX0_point_78 ?_
        refine lv_topi (fun x_3 ex_3 => ?_)
        obtain rfl : x_3 = nI (np + 1) := ex_3.trans (nI_add np 1)
        refine pf_s_pX (n := np) (x := nI (np + 1)) hx hb hK hP hD hS (by omega) dX0_point_79 (fun H locs hP hD hS => ?_)
        refine lv_aload_n hx hb dX0_point_80 rfl (lv_at hl 1 rfl) ?_
        refine pf_g_pY hx hb hts hin hown hK hP (by decide +kernel) dX0_point_81 ?_
        refine lv_iload hx hb dX0_point_84 (lv_at hl 0 rfl) ?_
        refine lv_iconst (v := (-1)) hx hb dX0_point_86 (by decide) ?_
        refine pf_s_pY (n := np) (x := (-1)) hx hb hK hP hD hS (by omega) dX0_point_87 (fun H locs hP hD hS => ?_)
        refine lv_aload_n hx hb dX0_point_88 rfl (lv_at hl 1 rfl) ?_
        refine lv_iload hx hb dX0_point_89 (lv_at hl 0 rfl) ?_
        refine lv_iconst (v := 1) hx hb dX0_point_91 (by decide) ?_
        refine lv_iadd hx hb dX0_point_92 ?_
        refine lv_topi (fun x_4 ex_4 => ?_)
        obtain rfl : x_4 = nI (np + 1) := ex_4.trans (nI_add np 1)
        refine pf_p_pn hx hb hts hin hown hK hP hD hS (by decide +kernel) dX0_point_93 (fun H locs hP hD hS => ?_)
        refine lv_aload_n hx hb dX0_point_96 rfl (lv_at hl 1 rfl) ?_
        refine lv_iconst (v := 0) hx hb dX0_point_97 (by decide) ?_
        refine pf_p_sv hx hb hts hin hown hK hP hD hS (by decide +kernel) dX0_point_98 (by decide) (by decide) (fun H locs hP hD hS => ?_)
        refine lv_iload hx hb dX0_point_101 (lv_at hl 0 rfl) ?_
        exact ret_i hx hb hr hlocks hK hP hD hS dX0_point_103 (np + 1, upd pD np d, upd pV np 0, upd pB np (bod vP d x a b), upd pX np (nI (np + 1)), upd pY np (-1), 0) rfl (Or.inr ⟨rfl, by omega, hok, by rw [if_pos c44]⟩)
    · -- 18 f ne 
      refine lv_iconst (v := (-1)) hx hb dX0_point_21 (by decide) ?_
      exact ret_i hx hb hr hlocks hK hP hD hS dX0_point_22 (np, pD, pV, pB, pX, pY, sv) rfl (Or.inl ⟨rfl, Or.inr (yn_no p15 c18), rfl⟩)

abbrev rm_next : Room := { frames := 1, cells := 0, slots := 0, locals := 21 }
theorem in_next : ∀ w ∈ u_ws RX0 TX0 18, w ∈ wsX0_next := by decide +kernel
theorem cp_next_canBeNext : cpS wsX0_next RX0 74 yX0_canBeNext wsX0_canBeNext cX0_canBeNext 1 (some .boolean) 1 := ⟨gX0_next_X0_canBeNext, ⟨_, rfl⟩, by decide +kernel⟩
theorem cp_next_isPoint : cpV wsX0_next RX0 70 RX0 yX0_isPoint wsX0_isPoint cX0_isPoint 2 (some .boolean) 1 := ⟨gX0_next_X0_isPoint, ⟨_, rfl⟩, by decide +kernel⟩
set_option maxHeartbeats 4000000 in
set_option maxRecDepth 100000 in
theorem c_next {l : Launch} {D : va_G} {h : Nat → Nat} {k : Nat → ClassId} {vc sv hd wn : Int32} {vP vO vG pD pV pB pX pY rc wt iw : Nat → Int32} {ah be : Nat → Int64} (np : Nat) (x y z : Int32) (hn : np ≤ 120) : ct l yX0_next wsX0_next rm_next D vwCl (pfT k) [.ref (h 0), .int x, .int y, .int z] (pfW h k vc vP vO vG (nI np) pD pV pB pX pY sv rc ah be wt iw hd wn) (qI D vwCl (pfT k) (fun (r : Int32) (u : (Nat → Int32) × (Nat → Int32) × Int32) => (r = 0 ∧ ((∀ j, j < np → ¬ x = nI j) ∨ ¬ cbn y ∨ ¬ cbn z) ∧ u = (pX, pY, sv)) ∨ (r = 1 ∧ ∃ j, j < np ∧ x = nI j ∧ cbn y ∧ cbn z ∧ u = (upd pX j y, upd pY j z, 0))) (fun u => pfW h k vc vP vO vG (nI np) pD pV pB u.1 u.2.1 u.2.2 rc ah be wt iw hd wn)) 0 0 := by
  refine ct_of (cc := cX0_next) (maxL := 4) (ret := some .boolean) (by decide) rfl (Nat.le_of_ble_eq_true rfl) ?_
  intro p e s m below meth c A ls hx hb hr hml hlocks hown hnm hts hA hK hP hD hS hl
  have hown : s.vm.findClass RX0 = some m.cls := hown
  have hin := in_next
  have hl : lv_has ls 4 [(0, .ref (h 0)), (1, .int x), (2, .int y), (3, .int z)] := hl
  refine lv_aload_n hx hb dX0_next_0 rfl (lv_at hl 0 rfl) ?_
  refine lv_iload_n hx hb dX0_next_1 rfl (lv_at hl 1 rfl) ?_
  refine call_vi (As := [.int x]) (rest := []) ⟨hx, hb, hml, hown, hts⟩ (c_isPoint x) cp_next_isPoint ⟨rfl, rfl⟩ ⟨Nat.le_of_ble_eq_true rfl, Nat.le_of_ble_eq_true rfl⟩ rfl rfl 0 rfl rfl hl.1 rfl (Nat.le_of_ble_eq_true rfl) dX0_next_2 ⟨Nat.zero_le _, Nat.zero_le _⟩ hK hP hD hS hA (fun r2 u H locs p2 hP hD hS => ?_)
  try dsimp only at p2
  refine lv_if_eq (tgt := 22) hx hb dX0_next_5 (by decide) (fun c5 => ?_) (fun c5 => ?_)
  · -- 5 t eq 
    refine lv_iconst (v := 0) hx hb dX0_next_22 (by decide) ?_
    exact ret_z hx hb hr hlocks hK hP hD hS dX0_next_23 (pX, pY, sv) rfl (by decide) (Or.inl ⟨rfl, Or.inl (pt_out rfl hn p2 c5), rfl⟩)
  · -- 5 f eq 
    obtain ⟨j, hj, rfl⟩ := pt_in rfl hn p2 c5
    refine lv_iload_n hx hb dX0_next_8 rfl (lv_at hl 2 rfl) ?_
    refine call_si (As := [.int y]) (rest := []) ⟨hx, hb, hml, hown, hts⟩ (c_canBeNext y) cp_next_canBeNext ⟨rfl, rfl⟩ ⟨Nat.le_of_ble_eq_true rfl, Nat.le_of_ble_eq_true rfl⟩ rfl hl.1 rfl (Nat.le_of_ble_eq_true rfl) dX0_next_9 ⟨Nat.zero_le _, Nat.zero_le _⟩ hK hP hS hA (fun r9 u H locs p9 hP hS => ?_)
    try dsimp only at p9
    refine lv_if_eq (tgt := 22) hx hb dX0_next_12 (by decide) (fun c12 => ?_) (fun c12 => ?_)
    · -- 12 t eq 
      refine lv_iconst (v := 0) hx hb dX0_next_22 (by decide) ?_
      exact ret_z hx hb hr hlocks hK hP hD hS dX0_next_23 (pX, pY, sv) rfl (by decide) (Or.inl ⟨rfl, Or.inr (Or.inl (yn_no p9 c12)), rfl⟩)
    · -- 12 f eq 
      refine lv_iload_n hx hb dX0_next_15 rfl (lv_at hl 3 rfl) ?_
      refine call_si (As := [.int z]) (rest := []) ⟨hx, hb, hml, hown, hts⟩ (c_canBeNext z) cp_next_canBeNext ⟨rfl, rfl⟩ ⟨Nat.le_of_ble_eq_true rfl, Nat.le_of_ble_eq_true rfl⟩ rfl hl.1 rfl (Nat.le_of_ble_eq_true rfl) dX0_next_16 ⟨Nat.zero_le _, Nat.zero_le _⟩ hK hP hS hA (fun r16 u H locs p16 hP hS => ?_)
      try dsimp only at p16
      refine lv_if_ne (tgt := 24) hx hb dX0_next_19 (by decide) (fun c19 => ?_) (fun c19 => ?_)
      · -- 19 t ne 
        refine lv_aload_n hx hb dX0_next_24 rfl (lv_at hl 0 rfl) ?_
        refine pf_g_pX hx hb hts hin hown hK hP (by decide +kernel) dX0_next_25 ?_
        refine lv_iload_n hx hb dX0_next_28 rfl (lv_at hl 1 rfl) ?_
        refine lv_iload_n hx hb dX0_next_29 rfl (lv_at hl 2 rfl) ?_
        refine pf_s_pX (n := j) (x := y) hx hb hK hP hD hS (by omega) dX0_next_30 (fun H locs hP hD hS => ?_)
        refine lv_aload_n hx hb dX0_next_31 rfl (lv_at hl 0 rfl) ?_
        refine pf_g_pY hx hb hts hin hown hK hP (by decide +kernel) dX0_next_32 ?_
        refine lv_iload_n hx hb dX0_next_35 rfl (lv_at hl 1 rfl) ?_
        refine lv_iload_n hx hb dX0_next_36 rfl (lv_at hl 3 rfl) ?_
        refine pf_s_pY (n := j) (x := z) hx hb hK hP hD hS (by omega) dX0_next_37 (fun H locs hP hD hS => ?_)
        refine lv_aload_n hx hb dX0_next_38 rfl (lv_at hl 0 rfl) ?_
        refine lv_iconst (v := 0) hx hb dX0_next_39 (by decide) ?_
        refine pf_p_sv hx hb hts hin hown hK hP hD hS (by decide +kernel) dX0_next_40 (by decide) (by decide) (fun H locs hP hD hS => ?_)
        refine lv_iconst (v := 1) hx hb dX0_next_43 (by decide) ?_
        exact ret_z hx hb hr hlocks hK hP hD hS dX0_next_44 (upd pX j y, upd pY j z, 0) rfl (by decide) (Or.inr ⟨rfl, j, hj, rfl, yn_yes p9 c12, yn_yes p16 c19, rfl⟩)
      · -- 19 f ne 
        refine lv_iconst (v := 0) hx hb dX0_next_22 (by decide) ?_
        exact ret_z hx hb hr hlocks hK hP hD hS dX0_next_23 (pX, pY, sv) rfl (by decide) (Or.inl ⟨rfl, Or.inr (Or.inr (yn_no p16 c19)), rfl⟩)

abbrev rm_clear : Room := { frames := 0, cells := 0, slots := 0, locals := 0 }
theorem in_clear : ∀ w ∈ u_ws RX0 TX0 18, w ∈ wsX0_clear := by decide +kernel
set_option maxHeartbeats 4000000 in
set_option maxRecDepth 100000 in
theorem c_clear {l : Launch} {D : va_G} {h : Nat → Nat} {k : Nat → ClassId} {vc sv hd wn : Int32} {vP vO vG pD pV pB pX pY rc wt iw : Nat → Int32} {ah be : Nat → Int64} (np : Nat)  : ct l yX0_clear wsX0_clear rm_clear D vwCl (pfT k) [.ref (h 0)] (pfW h k vc vP vO vG (nI np) pD pV pB pX pY sv rc ah be wt iw hd wn) (qI D vwCl (pfT k) (fun (r : Int32) (u : Unit) => r = nI np) (fun u => pfW h k vc vP vO vG (nI 0) pD pV pB pX pY 0 rc ah be wt iw hd wn)) 0 0 := by
  refine ct_of (cc := cX0_clear) (maxL := 2) (ret := some .int) (by decide) rfl (Nat.le_of_ble_eq_true rfl) ?_
  intro p e s m below meth c A ls hx hb hr hml hlocks hown hnm hts hA hK hP hD hS hl
  have hown : s.vm.findClass RX0 = some m.cls := hown
  have hin := in_clear
  have hl : lv_has ls 2 [(0, .ref (h 0))] := hl
  refine lv_aload_n hx hb dX0_clear_0 rfl (lv_at hl 0 rfl) ?_
  refine pf_g_pn hx hb hts hin hown hK hP (by decide +kernel) dX0_clear_1 ?_
  refine lv_istore_n (lv' := [(1, .int (nI np)), (0, .ref (h 0))]) hx hb dX0_clear_4 rfl hl (by decide) rfl (fun ls hl => ?_)
  refine lv_aload_n hx hb dX0_clear_5 rfl (lv_at hl 1 rfl) ?_
  refine lv_iconst (v := nI 0) hx hb dX0_clear_6 (by decide) ?_
  refine pf_p_pn hx hb hts hin hown hK hP hD hS (by decide +kernel) dX0_clear_7 (fun H locs hP hD hS => ?_)
  refine lv_aload_n hx hb dX0_clear_10 rfl (lv_at hl 1 rfl) ?_
  refine lv_iconst (v := 0) hx hb dX0_clear_11 (by decide) ?_
  refine pf_p_sv hx hb hts hin hown hK hP hD hS (by decide +kernel) dX0_clear_12 (by decide) (by decide) (fun H locs hP hD hS => ?_)
  refine lv_iload_n hx hb dX0_clear_15 rfl (lv_at hl 0 rfl) ?_
  exact ret_i hx hb hr hlocks hK hP hD hS dX0_clear_16 () rfl (rfl)
end
section
/-! Pure rows of the reference: its search over points with and without, its sums. -/
noncomputable def tb (P : Prop) : Bool := @decide P (Classical.propDecidable P)
theorem tb_iff (P : Prop) : tb P = true ↔ P := @decide_eq_true_iff P (Classical.propDecidable P)
theorem tb_t {P : Prop} (h : P) : tb P = true := (tb_iff P).mpr h
theorem tb_f {P : Prop} (h : ¬ P) : tb P = false := by
  cases e : tb P with
  | false => rfl
  | true => exact absurd ((tb_iff P).mp e) h
def isR (pD mV mF mM : Nat → Int32) (x : Int32) (q p : Nat) : Prop := mV p = x ∧ ¬ nI q < mF p ∧ ¬ mF p + mM p ≤ nI q ∧ ¬ pD p = 3
def ThR (pD mV mF mM : Nat → Int32) (x : Int32) (q p w t : Nat) : Prop := (isR pD mV mF mM x q p ∧ pD p = 1 ∧ t = 1) ∨ (isR pD mV mF mM x q p ∧ ¬ pD p = 1 ∧ t = 0) ∨ (¬ isR pD mV mF mM x q p ∧ t = w)
theorem ThR_fn {pD mV mF mM : Nat → Int32} {x : Int32} {q p w t t' : Nat} (h : ThR pD mV mF mM x q p w t) (h' : ThR pD mV mF mM x q p w t') : t = t' := by
  rcases h with ⟨a, b, c⟩ | ⟨a, b, c⟩ | ⟨a, c⟩ <;> rcases h' with ⟨a', b', c'⟩ | ⟨a', b', c'⟩ | ⟨a', c'⟩ <;> first | omega | exact absurd b b' | exact absurd b' b | exact absurd a a' | exact absurd a' a
theorem ThR_lt {pD mV mF mM : Nat → Int32} {x : Int32} {q p w t : Nat} (h : ThR pD mV mF mM x q p w t) (hw : w < 2) : t < 2 := by
  rcases h with ⟨a, b, c⟩ | ⟨a, b, c⟩ | ⟨a, c⟩ <;> omega
/-- what come(x, w) does -/
def Cm (np : Nat) (x : Int32) (w : Nat) (se pl : Nat → Int32) (hN : Nat) (se' pl' : Nat → Int32) (hN' : Nat) : Prop :=
  (((∀ j, j < np → ¬ x = nI j) ∨ ∃ j, j < np ∧ x = nI j ∧ ¬ se (2 * j + w) = 0) ∧ se' = se ∧ pl' = pl ∧ hN' = hN) ∨ ∃ j, j < np ∧ x = nI j ∧ se (2 * j + w) = 0 ∧ se' = upd se (2 * j + w) 1 ∧ pl' = upd pl hN (nI (2 * j + w)) ∧ hN' = hN + 1
def cs (se : Nat → Int32) : Nat := cnt (fun i => decide (se i = 1)) 240
/-- the search: seen, pile, its height; X is exempt from being closed -/
def Rv (np : Nat) (E : Nat → Nat → Prop) (Th : Nat → Nat → Nat → Prop) (Pd : Nat → Nat → Prop) (w0 : Nat) (se pl : Nat → Int32) (hN : Nat) (X : Nat → Nat → Prop) : Prop :=
  (∀ i, i < 240 → se i = 0 ∨ se i = 1) ∧ hN ≤ cs se ∧ (∀ a, a < hN → ∃ p w, p < np ∧ w < 2 ∧ pl a = nI (2 * p + w) ∧ se (2 * p + w) = 1) ∧ (∀ p w, p < np → w < 2 → se (2 * p + w) = 1 → Pd p w) ∧ (∀ p w, p < np → w < 2 → se (2 * p + w) = 1 → ¬ X p w → (∃ a, a < hN ∧ pl a = nI (2 * p + w)) ∨ ∀ q t, E p q → Th p w t → se (2 * q + t) = 1) ∧ (0 < np → se (2 * 0 + w0) = 1)
theorem cs_le (se : Nat → Int32) : cs se ≤ 240 := cnt_le _ _
theorem Rv_room {np : Nat} {E : Nat → Nat → Prop} {Th : Nat → Nat → Nat → Prop} {Pd : Nat → Nat → Prop} {w0 : Nat} {se pl : Nat → Int32} {hN : Nat} {X : Nat → Nat → Prop} (h : hN ≤ cs se) {i : Nat} (hi : i < 240) (h0 : se i = 0) : hN < 240 := by
  have h1 := cnt_lt (f := fun i => decide (se i = 1)) (g := fun _ => true) (n := 240) (i := i) (fun _ _ _ => rfl) hi (by rw [h0]; rfl) rfl
  have h2 := cnt_le (fun _ => true) 240
  unfold cs at h
  omega
theorem Cm_step {np : Nat} {E : Nat → Nat → Prop} {Th : Nat → Nat → Nat → Prop} {Pd : Nat → Nat → Prop} {w0 : Nat} {se pl se' pl' : Nat → Int32} {hN hN' : Nat} {X : Nat → Nat → Prop} {x : Int32} {t : Nat} (hn : np ≤ 120) (ht : t < 2) (hT : ∀ p w t, p < np → w < 2 → Th p w t → t < 2) (h : Rv np E Th Pd w0 se pl hN X) (hp : ∀ j, j < np → x = nI j → Pd j t) (hc : Cm np x t se pl hN se' pl' hN') :
    Rv np E Th Pd w0 se' pl' hN' X ∧ (∀ j, j < np → x = nI j → se' (2 * j + t) = 1) ∧ (∀ i, se i = 1 → se' i = 1) ∧ 2 * (240 - cs se') + hN' ≤ 2 * (240 - cs se) + hN := by
  obtain ⟨h1, h2, h3, h4, h5, h6⟩ := h
  rcases hc with ⟨hc, e1, e2, e3⟩ | ⟨j, hj, hx, h0, e1, e2, e3⟩
  · subst e1; subst e2; subst e3
    refine ⟨⟨h1, h2, h3, h4, h5, h6⟩, fun i hi hxi => ?_, fun i hi => hi, Nat.le_refl _⟩
    rcases hc with hc | ⟨j, hj, hxj, hs⟩
    · exact absurd hxi (hc i hi)
    · have : i = j := (nI_eq (by omega) (by omega)).mp (hxi.symm.trans hxj)
      subst this
      exact (h1 (2 * i + t) (by omega)).elim (fun z => absurd z hs) id
  · have hcs : cs se' = cs se + 1 := by
      rw [e1]
      exact cnt_set (f := fun i => decide (se i = 1)) (g := fun i => decide (upd se (2 * j + t) 1 i = 1)) (n := 240) (i := 2 * j + t) (by omega) (by simp [h0]) (by simp [pk_us]) (fun i _ e => by simp only [pk_un e])
    have hm : ∀ i, se i = 1 → se' i = 1 := fun i hi => by
      rw [e1]
      by_cases e : i = 2 * j + t
      · rw [e, pk_us]
      · rw [pk_un e]; exact hi
    have hs' : ∀ i, ¬ i = 2 * j + t → se' i = se i := fun i hi => by rw [e1, pk_un hi]
    have hj1 : se' (2 * j + t) = 1 := by rw [e1, pk_us]
    have hle := cs_le se'
    refine ⟨⟨fun i hi => ?_, by omega, fun a ha => ?_, fun p w hp9 hw hs => ?_, fun p w hp9 hw hs hX => ?_, fun h0 => hm _ (h6 h0)⟩, fun i hi hxi => ?_, hm, by omega⟩
    · by_cases e : i = 2 * j + t
      · rw [e]; exact Or.inr hj1
      · rw [hs' i e]; exact h1 i hi
    · rw [e2]
      by_cases e : a = hN
      · subst e
        exact ⟨j, t, hj, ht, pk_us, hj1⟩
      · obtain ⟨p, w, g1, g2, g3, g4⟩ := h3 a (by omega)
        exact ⟨p, w, g1, g2, by rw [pk_un e]; exact g3, hm _ g4⟩
    · by_cases e : 2 * p + w = 2 * j + t
      · rw [show p = j by omega, show w = t by omega]
        exact hp j hj hx
      · rw [hs' _ e] at hs
        exact h4 p w hp9 hw hs
    · by_cases e : 2 * p + w = 2 * j + t
      · exact Or.inl ⟨hN, by omega, by rw [e2, pk_us, e]⟩
      · rw [hs' _ e] at hs
        rcases h5 p w hp9 hw hs hX with ⟨a, g1, g2⟩ | g
        · exact Or.inl ⟨a, by omega, by rw [e2, pk_un (by omega)]; exact g2⟩
        · exact Or.inr (fun q t' he hth => hm _ (g q t' he hth))
    · have : i = j := (nI_eq (by omega) (by omega)).mp (hxi.symm.trans hx)
      subst this
      exact hj1
theorem Rv_pop {np : Nat} {E : Nat → Nat → Prop} {Th : Nat → Nat → Nat → Prop} {Pd : Nat → Nat → Prop} {w0 : Nat} {se pl : Nat → Int32} {hN : Nat} (hn : np ≤ 120) (h : Rv np E Th Pd w0 se pl hN (fun _ _ => False)) (h0 : 0 < hN) :
    ∃ p w, p < np ∧ w < 2 ∧ pl (hN - 1) = nI (2 * p + w) ∧ se (2 * p + w) = 1 ∧ Rv np E Th Pd w0 se pl (hN - 1) (fun p' w' => p' = p ∧ w' = w) := by
  obtain ⟨h1, h2, h3, h4, h5, h6⟩ := h
  obtain ⟨p, w, g1, g2, g3, g4⟩ := h3 (hN - 1) (by omega)
  refine ⟨p, w, g1, g2, g3, g4, h1, by omega, fun a ha => h3 a (by omega), h4, fun p' w' hp' hw' hs hX => ?_, h6⟩
  rcases h5 p' w' hp' hw' hs (fun z => z) with ⟨a, q1, q2⟩ | g
  · refine Or.inl ⟨a, ?_, q2⟩
    have : a ≠ hN - 1 := fun e => by
      rw [e, g3] at q2
      have := (nI_eq (by omega) (by omega)).mp q2
      exact hX ⟨by omega, by omega⟩
    omega
  · exact Or.inr g
theorem Rv_it {np : Nat} {pX pY : Nat → Int32} {Th : Nat → Nat → Nat → Prop} {Pd : Nat → Nat → Prop} {w0 : Nat} {se pl se1 pl1 se2 pl2 : Nat → Int32} {hN hN1 hN2 p w t : Nat} (hn : np ≤ 120) (hp : p < np) (ht : t < 2) (hT : ∀ p w t, p < np → w < 2 → Th p w t → t < 2) (hfn : ∀ t', Th p w t' → t' = t) (hs : ∀ q, ed pX pY np p q → Pd q t)
    (h : Rv np (ed pX pY np) Th Pd w0 se pl hN (fun p' w' => p' = p ∧ w' = w)) (c1 : Cm np (pX p) t se pl hN se1 pl1 hN1) (c2 : Cm np (pY p) t se1 pl1 hN1 se2 pl2 hN2) :
    Rv np (ed pX pY np) Th Pd w0 se2 pl2 hN2 (fun _ _ => False) ∧ 2 * (240 - cs se2) + hN2 ≤ 2 * (240 - cs se) + hN := by
  obtain ⟨r1, d1, m1, u1⟩ := Cm_step hn ht hT h (fun j hj hx => hs j ⟨Or.inl hx, hj⟩) c1
  obtain ⟨r2, d2, m2, u2⟩ := Cm_step hn ht hT r1 (fun j hj hx => hs j ⟨Or.inr hx, hj⟩) c2
  obtain ⟨h1, h2, h3, h4, h5, h6⟩ := r2
  refine ⟨⟨h1, h2, h3, h4, fun p' w' hp' hw' hse _ => ?_, h6⟩, Nat.le_trans u2 u1⟩
  by_cases e : p' = p ∧ w' = w
  · obtain ⟨e1, e2⟩ := e
    subst e1; subst e2
    refine Or.inr (fun q t' he hth => ?_)
    rw [hfn t' hth]
    obtain ⟨he | he, hq⟩ := he
    · exact m2 _ (d1 q hq he)
    · exact d2 q hq he
  · exact h5 p' w' hp' hw' hse e
def gvR (nv : Nat) (vG : Nat → Int32) (x : Int32) : Prop := ∃ v, v < nv ∧ x = nI v ∧ ¬ vG v = 0
def MR1 (nv np : Nat) (vG pD mV mF mM pX pY : Nat → Int32) (x : Int32) (q p : Nat) : Prop := may (ed pX pY np) np (gvR nv vG x) (fun p => isR pD mV mF mM x q p ∧ pD p = 1) (fun p => isR pD mV mF mM x q p ∧ ¬ pD p = 1) p
def MR0 (nv np : Nat) (vG pD mV mF mM pX pY : Nat → Int32) (x : Int32) (q p : Nat) : Prop := may (ed pX pY np) np (¬ gvR nv vG x) (fun p => isR pD mV mF mM x q p ∧ ¬ pD p = 1) (fun p => isR pD mV mF mM x q p ∧ pD p = 1) p
def MR (nv np : Nat) (vG pD mV mF mM pX pY : Nat → Int32) (x : Int32) (q w p : Nat) : Prop := (w = 1 ∧ MR1 nv np vG pD mV mF mM pX pY x q p) ∨ (w = 0 ∧ MR0 nv np vG pD mV mF mM pX pY x q p)
section MRS
variable {nv np : Nat} {vG pD mV mF mM pX pY : Nat → Int32} {x : Int32} {q : Nat}
theorem MR_rch {w p : Nat} (h : MR nv np vG pD mV mF mM pX pY x q w p) : rch (ed pX pY np) np p := h.elim (fun h => may_rch h.2) (fun h => may_rch h.2)
theorem MR_st {w p t p' : Nat} (h : MR nv np vG pD mV mF mM pX pY x q w p) (he : ed pX pY np p p') (ht : ThR pD mV mF mM x q p w t) : MR nv np vG pD mV mF mM pX pY x q t p' := by
  have hr := MR_rch h
  rcases ht with ⟨a, b, c⟩ | ⟨a, b, c⟩ | ⟨a, c⟩
  · exact Or.inl ⟨c, may_g hr he ⟨a, b⟩⟩
  · exact Or.inr ⟨c, may_g hr he ⟨a, b⟩⟩
  · subst c
    rcases h with ⟨h1, h2⟩ | ⟨h1, h2⟩
    · exact Or.inl ⟨h1, may_p h2 he (fun z => a z.1)⟩
    · exact Or.inr ⟨h1, may_p h2 he (fun z => a z.1)⟩
theorem MR_0 {w0 : Nat} (hn : 0 < np) (hw : (w0 = 1 ∧ gvR nv vG x) ∨ (w0 = 0 ∧ ¬ gvR nv vG x)) : MR nv np vG pD mV mF mM pX pY x q w0 0 := by
  rcases hw with ⟨h1, h2⟩ | ⟨h1, h2⟩
  · exact Or.inl ⟨h1, may_0 hn h2⟩
  · exact Or.inr ⟨h1, may_0 hn h2⟩
end MRS
/-- what go(x, q) leaves in seen -/
def GoR (nv np : Nat) (vG pD mV mF mM pX pY : Nat → Int32) (x : Int32) (q : Nat) (se : Nat → Int32) : Prop :=
  (∀ i, i < 240 → se i = 0 ∨ se i = 1) ∧ (∀ p w, p < np → w < 2 → (se (2 * p + w) = 1 ↔ MR nv np vG pD mV mF mM pX pY x q w p)) ∧ ∀ p, p < np → (rch (ed pX pY np) np p ↔ (se (2 * p + 0) = 1 ∨ se (2 * p + 1) = 1))
abbrev RvR (nv np : Nat) (vG pD mV mF mM pX pY : Nat → Int32) (x : Int32) (q w0 : Nat) (se pl : Nat → Int32) (hN : Nat) (X : Nat → Nat → Prop) : Prop := Rv np (ed pX pY np) (ThR pD mV mF mM x q) (fun p w => MR nv np vG pD mV mF mM pX pY x q w p) w0 se pl hN X
theorem ThR_ex {pD mV mF mM : Nat → Int32} {x : Int32} {q p w : Nat} : ∃ t, ThR pD mV mF mM x q p w t := by
  by_cases a : isR pD mV mF mM x q p
  · by_cases b : pD p = 1
    · exact ⟨1, Or.inl ⟨a, b, rfl⟩⟩
    · exact ⟨0, Or.inr (Or.inl ⟨a, b, rfl⟩)⟩
  · exact ⟨w, Or.inr (Or.inr ⟨a, rfl⟩)⟩
theorem Rv_end {nv np : Nat} {vG pD mV mF mM pX pY : Nat → Int32} {x : Int32} {q w0 : Nat} {se pl : Nat → Int32} (hn : np ≤ 120) (hw : (w0 = 1 ∧ gvR nv vG x) ∨ (w0 = 0 ∧ ¬ gvR nv vG x)) (h : RvR nv np vG pD mV mF mM pX pY x q w0 se pl 0 (fun _ _ => False)) : GoR nv np vG pD mV mF mM pX pY x q se := by
  obtain ⟨h1, h2, h3, h4, h5, h6⟩ := h
  have cl : ∀ p w, p < np → w < 2 → se (2 * p + w) = 1 → ∀ q' t, ed pX pY np p q' → ThR pD mV mF mM x q p w t → se (2 * q' + t) = 1 := fun p w hp hw hs => (h5 p w hp hw hs (fun z => z)).elim (fun ⟨a, ha, _⟩ => absurd ha (Nat.not_lt_zero a)) id
  have w2 : w0 < 2 := by rcases hw with ⟨h, _⟩ | ⟨h, _⟩ <;> omega
  have X0 : 0 < np → (0 < np ∧ ∃ w, w < 2 ∧ se (2 * 0 + w) = 1) := fun h => ⟨h, w0, w2, h6 h⟩
  have XS : ∀ a b, (a < np ∧ ∃ w, w < 2 ∧ se (2 * a + w) = 1) → ed pX pY np a b → (b < np ∧ ∃ w, w < 2 ∧ se (2 * b + w) = 1) := by
    rintro a b ⟨ha, w, hw2, hs⟩ he
    obtain ⟨t, ht⟩ := ThR_ex (pD := pD) (mV := mV) (mF := mF) (mM := mM) (x := x) (q := q) (p := a) (w := w)
    exact ⟨he.2, t, ThR_lt ht hw2, cl a w ha hw2 hs b t he ht⟩
  refine ⟨h1, fun p w hp hw2 => ⟨h4 p w hp hw2, fun hm => ?_⟩, fun p hp => ⟨fun hr => ?_, fun hs => ?_⟩⟩
  · rcases hm with ⟨e, hm⟩ | ⟨e, hm⟩
    · subst e
      refine may_in (X := fun a => a < np ∧ ∃ w, w < 2 ∧ se (2 * a + w) = 1) (B := fun a => se (2 * a + 1) = 1) X0 XS (fun h0 hg => ?_) (fun a b hX he hgk => ?_) hm
      · rcases hw with ⟨e, _⟩ | ⟨_, hno⟩
        · subst e; exact h6 h0
        · exact absurd hg hno
      · obtain ⟨ha, w, hw2, hs⟩ := hX
        rcases hgk with ⟨g1, g2⟩ | ⟨g1, g2⟩
        · exact cl a w ha hw2 hs b 1 he (Or.inl ⟨g1, g2, rfl⟩)
        · by_cases hi : isR pD mV mF mM x q a
          · by_cases hd : pD a = 1
            · exact cl a 1 ha (by decide) g2 b 1 he (Or.inl ⟨hi, hd, rfl⟩)
            · exact absurd ⟨hi, hd⟩ g1
          · exact cl a 1 ha (by decide) g2 b 1 he (Or.inr (Or.inr ⟨hi, rfl⟩))
    · subst e
      refine may_in (X := fun a => a < np ∧ ∃ w, w < 2 ∧ se (2 * a + w) = 1) (B := fun a => se (2 * a + 0) = 1) X0 XS (fun h0 hg => ?_) (fun a b hX he hgk => ?_) hm
      · rcases hw with ⟨_, hyes⟩ | ⟨e, _⟩
        · exact absurd hyes hg
        · subst e; exact h6 h0
      · obtain ⟨ha, w, hw2, hs⟩ := hX
        rcases hgk with ⟨g1, g2⟩ | ⟨g1, g2⟩
        · exact cl a w ha hw2 hs b 0 he (Or.inr (Or.inl ⟨g1, g2, rfl⟩))
        · by_cases hi : isR pD mV mF mM x q a
          · by_cases hd : pD a = 1
            · exact absurd ⟨hi, hd⟩ g1
            · exact cl a 0 ha (by decide) g2 b 0 he (Or.inr (Or.inl ⟨hi, hd, rfl⟩))
          · exact cl a 0 ha (by decide) g2 b 0 he (Or.inr (Or.inr ⟨hi, rfl⟩))
  · obtain ⟨_, w, hw2, hs⟩ := rch_in X0 XS hr
    rcases (show w = 0 ∨ w = 1 by omega) with e | e
    · subst e; exact Or.inl hs
    · subst e; exact Or.inr hs
  · rcases hs with hs | hs
    · exact MR_rch (h4 p 0 hp (by decide) hs)
    · exact MR_rch (h4 p 1 hp (by decide) hs)
theorem Rv_begin {nv np : Nat} {vG pD mV mF mM pX pY : Nat → Int32} {x : Int32} {q w0 : Nat} {se pl se' pl' : Nat → Int32} {hN' : Nat} (hn : np ≤ 120) (hw : (w0 = 1 ∧ gvR nv vG x) ∨ (w0 = 0 ∧ ¬ gvR nv vG x)) (hz : ∀ i, i < 240 → se i = 0) (hc : Cm np (nI 0) w0 se pl 0 se' pl' hN') : RvR nv np vG pD mV mF mM pX pY x q w0 se' pl' hN' (fun _ _ => False) := by
  have w2 : w0 < 2 := by rcases hw with ⟨h, _⟩ | ⟨h, _⟩ <;> omega
  rcases hc with ⟨hc, e1, e2, e3⟩ | ⟨j, hj, hx, h0, e1, e2, e3⟩
  · have hnp : ¬ 0 < np := fun h => by
      rcases hc with hc | ⟨j, hj, hxj, hs⟩
      · exact hc 0 h rfl
      · exact hs (hz _ (by omega))
    subst e1; subst e2; subst e3
    exact ⟨fun i hi => Or.inl (hz i hi), Nat.zero_le _, fun a ha => absurd ha (Nat.not_lt_zero a), fun p w hp => absurd hp (by omega), fun p w hp => absurd hp (by omega), fun h => absurd h hnp⟩
  · have : j = 0 := (nI_eq (by omega) (by omega)).mp hx.symm
    subst this
    have hs : ∀ i, i < 240 → se' i = 1 → i = 2 * 0 + w0 := fun i hi h => Classical.byContradiction (fun e => by
      rw [e1, pk_un e, hz i hi] at h
      exact i01 h)
    have h1 : se' (2 * 0 + w0) = 1 := by rw [e1, pk_us]
    have hcs : cs se' = cs se + 1 := by
      rw [e1]
      exact cnt_set (f := fun i => decide (se i = 1)) (g := fun i => decide (upd se (2 * 0 + w0) 1 i = 1)) (n := 240) (i := 2 * 0 + w0) (by omega) (by simp only [h0]; rfl) (by simp only [pk_us]; rfl) (fun i _ e => by simp only [pk_un e])
    refine ⟨fun i hi => ?_, by omega, fun a ha => ⟨0, w0, hj, w2, ?_, h1⟩, fun p w hp hw2 h => ?_, fun p w hp hw2 h _ => Or.inl ⟨0, by omega, ?_⟩, fun _ => h1⟩
    · by_cases e : i = 2 * 0 + w0
      · rw [e]; exact Or.inr h1
      · rw [e1, pk_un e]; exact Or.inl (hz i hi)
    · rw [e2, show a = 0 by omega, pk_us]
    · have e := hs _ (by omega) h
      rw [show p = 0 by omega, show w = w0 by omega]
      exact MR_0 hj hw
    · have e := hs _ (by omega) h
      rw [e2, pk_us, e]
/-- bits added one by one -/
def bxr (f : Nat → Bool) : Nat → Nat
  | 0 => 0
  | n + 1 => if f n = true then bxr f n ||| 2 ^ n else bxr f n
theorem nI_or (a b : Nat) : nI a ||| nI b = nI (a ||| b) := by
  apply Int32.toBitVec_inj.mp
  rw [Int32.toBitVec_or]
  show BitVec.ofNat 32 a ||| BitVec.ofNat 32 b = BitVec.ofNat 32 (a ||| b)
  rw [BitVec.ofNat_or]
theorem bit_sh : ∀ i, i < 9 → (1 : Int32) <<< (nI i &&& 31) = nI (2 ^ i) := by decide +kernel
theorem bxr_1 {f : Nat → Bool} {n : Nat} (h : f n = true) (hn : n < 9) : nI (bxr f n) ||| (1 : Int32) <<< (nI n &&& 31) = nI (bxr f (n + 1)) := by
  rw [bit_sh n hn, nI_or]
  simp only [bxr]
  rw [if_pos h]
theorem bxr_0 {f : Nat → Bool} {n : Nat} (h : f n = false) : nI (bxr f n) = nI (bxr f (n + 1)) := by
  simp only [bxr]
  rw [if_neg (by rw [h]; decide)]
theorem bxr_bit (f : Nat → Bool) (n t : Nat) : (bxr f n).testBit t = (decide (t < n) && f t) := by
  induction n with
  | zero => simp [bxr]
  | succ n ih =>
    simp only [bxr]
    by_cases h : f n = true
    · rw [if_pos h, Nat.testBit_or, ih, Nat.testBit_two_pow]
      by_cases e : n = t
      · subst e; simp [h]
      · have : decide (t < n + 1) = decide (t < n) := by
          apply decide_eq_decide.mpr; omega
        rw [this]
        simp [e]
    · rw [if_neg h, ih]
      by_cases e : n = t
      · subst e
        simp at h
        simp [h]
      · have : decide (t < n + 1) = decide (t < n) := by
          apply decide_eq_decide.mpr; omega
        rw [this]
theorem bxr_lt (f : Nat → Bool) (n : Nat) : bxr f n < 2 ^ n := by
  induction n with
  | zero => simp [bxr]
  | succ n ih =>
    simp only [bxr]
    have h2 : 2 ^ (n + 1) = 2 ^ n * 2 := Nat.pow_succ 2 n
    by_cases h : f n = true
    · rw [if_pos h]
      exact Nat.or_lt_two_pow (by omega) (by omega)
    · rw [if_neg h]; omega
/-- what point asks, in the reference -/
def rOK (nv np : Nat) (vP : Nat → Int32) (d x a b : Int32) : Prop := ¬ d < 0 ∧ ¬ 5 < d ∧ np < 120 ∧ (d = 0 ∨ ((¬ x < 0 ∧ ¬ nI nv ≤ x) ∧ (d < 1 ∨ 3 < d ∨ (¬ a < 0 ∧ ¬ b < 1 ∧ ¬ 8 ≤ a ∧ ¬ 8 < b ∧ ¬ vP (tN x) < a + b))))
theorem i32_lt {x y : Int32} : x < y ↔ x.toInt < y.toInt := Int32.lt_iff_toInt_lt
theorem i32_le {x y : Int32} : x ≤ y ↔ x.toInt ≤ y.toInt := Int32.le_iff_toInt_le
theorem lt1_of {d : Int32} (h : ¬ d < 0) (h0 : ¬ d = 0) : ¬ d < 1 := by
  rw [i32_lt] at h ⊢
  have g0 : ¬ d.toInt = 0 := lv_neT h0 rfl
  have e0 : (0 : Int32).toInt = 0 := rfl
  have e1 : (1 : Int32).toInt = 1 := rfl
  omega
theorem ge4_of {d : Int32} (h : 3 < d) : 4 ≤ d := by
  rw [i32_lt] at h
  rw [i32_le]
  have e0 : (3 : Int32).toInt = 3 := rfl
  have e1 : (4 : Int32).toInt = 4 := rfl
  omega
theorem nge4_of {d : Int32} (h : ¬ 3 < d) : ¬ 4 ≤ d := by
  rw [i32_lt] at h
  rw [i32_le]
  have e0 : (3 : Int32).toInt = 3 := rfl
  have e1 : (4 : Int32).toInt = 4 := rfl
  omega
theorem le_of_nlt {x y : Int32} (h : ¬ x < y) : y ≤ x := by
  rw [i32_lt] at h
  rw [i32_le]
  omega
theorem nle_of_lt {x y : Int32} (h : x < y) : ¬ y ≤ x := by
  rw [i32_lt] at h
  rw [i32_le]
  omega
theorem zz_s {se : Nat → Int32} {i : Nat} (h : ∀ k, k < i → se k = 0) : ∀ k, k < i + 1 → upd se i 0 k = 0 := by
  intro k hk
  by_cases e : k = i
  · rw [e, pk_us]
  · rw [pk_un e]; exact h k (by omega)
theorem gv_no1 {nv : Nat} {vG : Nat → Int32} {x : Int32} (h : ∀ v, v < nv → ¬ x = nI v) : ¬ gvR nv vG x := fun ⟨v, h1, h2, _⟩ => h v h1 h2
theorem gv_no2 {nv v : Nat} {vG : Nat → Int32} {x : Int32} (hn : nv ≤ 20) (hv : v < nv) (hx : x = nI v) (h : vG v = 0) : ¬ gvR nv vG x := fun ⟨v', h1, h2, h3⟩ => by
  have : v' = v := (nI_eq (by omega) (by omega)).mp (h2.symm.trans hx)
  rw [this] at h3
  exact h3 h
end
section
/-! The cells of an object of the class, and a row for each read and write of them. By program (wip/whole/pf.py). -/
def rfT (k : Nat → ClassId) : List (ClassId × FieldType) := [(k 0, .int), (k 1, .boolean), (k 2, .boolean), (k 3, .int), (k 4, .int), (k 5, .int), (k 6, .int), (k 7, .int), (k 8, .int), (k 9, .boolean), (k 10, .int)]
def rfW (h : Nat → Nat) (k : Nat → ClassId) (vc : Int32) (vP : Nat → Int32) (vO : Nat → Int32) (vG : Nat → Int32) (pn : Int32) (pD : Nat → Int32) (mV : Nat → Int32) (mF : Nat → Int32) (mM : Nat → Int32) (pX : Nat → Int32) (pY : Nat → Int32) (se : Nat → Int32) (pl : Nat → Int32) (hg : Int32) : va_W := [(h 0, .inr (1, [.int vc, .ref (h 1), .ref (h 2), .ref (h 3), .int pn, .ref (h 4), .ref (h 5), .ref (h 6), .ref (h 7), .ref (h 8), .ref (h 9), .ref (h 10), .ref (h 11), .int hg])), (h 1, .inl (k 0, 20, .inl vP)), (h 2, .inl (k 1, 20, .inl vO)), (h 3, .inl (k 2, 20, .inl vG)), (h 4, .inl (k 3, 120, .inl pD)), (h 5, .inl (k 4, 120, .inl mV)), (h 6, .inl (k 5, 120, .inl mF)), (h 7, .inl (k 6, 120, .inl mM)), (h 8, .inl (k 7, 120, .inl pX)), (h 9, .inl (k 8, 120, .inl pY)), (h 10, .inl (k 9, 240, .inl se)), (h 11, .inl (k 10, 240, .inl pl))]
section PFW
variable {p : Program} {l : Launch} {e : Env} {R : Room} {s : State} {m : MethodId} {args : Array Value} {below : List Frame} {meth : Method} {c : Code} {H H0 : Heap} {locs : List Loc} {cells slots : Nat} {Q : State → Prop}
variable {cc : ByteArray} {pc index : Nat} {ls : Array Slot} {rest : List Value} {D : va_G} {A : Nat → Prop} {Ts : List Cond} {h : Nat → Nat} {k : Nat → ClassId}
variable {vc pn hg : Int32} {vP vO vG pD mV mF mM pX pY se pl : Nat → Int32}
theorem rf_g_vc (hx : p.tables.exec = Jvm.exec) (hb : c.code = cc) (hts : ∀ w ∈ Ts, w.before args s = true) (hin : ∀ w ∈ u_ws RX1 TX1 14, w ∈ Ts) (hown : s.vm.findClass RX1 = some m.cls) (hK : va_K D vwCl (rfT k) s) (hP : va_P D vwCl (rfW h k vc vP vO vG pn pD mV mF mM pX pY se pl hg) H) (hl : Cond.fieldLink RX1 index "PartsFlowModel" "variables" "I" ∈ Ts) (hdg : decode cc pc = .ok (.getfield index, 3)) (kk : W p l e R s m args below meth c H locs cells slots Q (F0 m (pc + 3) ls (.int vc :: rest))) : W p l e R s m args below meth c H locs cells slots Q (F0 m pc ls (.ref (h 0) :: rest)) :=
  va_get (D := D) (ci := 1) (v := .int vc) (C := RX1) (T := TX1) (N := 14) hx hb hts hin hown hK hP 0 rfl rfl 0 (by decide) (hts _ hl) (fun _ h9 => h9) rfl hdg kk
theorem rf_p_vc (hx : p.tables.exec = Jvm.exec) (hb : c.code = cc) (hts : ∀ w ∈ Ts, w.before args s = true) (hin : ∀ w ∈ u_ws RX1 TX1 14, w ∈ Ts) (hown : s.vm.findClass RX1 = some m.cls) (hK : va_K D vwCl (rfT k) s) (hP : va_P D vwCl (rfW h k vc vP vO vG pn pD mV mF mM pX pY se pl hg) H) (hD : va_D A (rfW h k vc vP vO vG pn pD mV mF mM pX pY se pl hg)) (hS : va_S A H0 H locs) (hl : Cond.fieldLink RX1 index "PartsFlowModel" "variables" "I" ∈ Ts) (hdg : decode cc pc = .ok (.putfield index, 3)) {x : Int32} (kk : ∀ (H1 : Heap) (locs1 : List Loc), va_P D vwCl (rfW h k x vP vO vG pn pD mV mF mM pX pY se pl hg) H1 → va_D A (rfW h k x vP vO vG pn pD mV mF mM pX pY se pl hg) → va_S A H0 H1 locs1 → W p l e R s m args below meth c H1 locs1 cells slots Q (F0 m (pc + 3) ls rest)) : W p l e R s m args below meth c H locs cells slots Q (F0 m pc ls (.int x :: .ref (h 0) :: rest)) :=
  va_put (D := D) (ci := 1) (v := .int x) (ty := .int) (C := RX1) (T := TX1) (N := 14) hx hb hts hin tyX1 tyX1_ok nmX1 hown hK hP hD hS 0 rfl rfl 0 (by decide) (hts _ hl) (fun _ h9 => h9) rfl (by decide +kernel) rfl rfl (Nat.le_of_ble_eq_true rfl) hdg (fun H1 locs1 hP1 hD1 hS1 => kk H1 locs1 hP1 hD1 hS1)
theorem rf_g_vP (hx : p.tables.exec = Jvm.exec) (hb : c.code = cc) (hts : ∀ w ∈ Ts, w.before args s = true) (hin : ∀ w ∈ u_ws RX1 TX1 14, w ∈ Ts) (hown : s.vm.findClass RX1 = some m.cls) (hK : va_K D vwCl (rfT k) s) (hP : va_P D vwCl (rfW h k vc vP vO vG pn pD mV mF mM pX pY se pl hg) H) (hl : Cond.fieldLink RX1 index "PartsFlowModel" "parts" "[I" ∈ Ts) (hdg : decode cc pc = .ok (.getfield index, 3)) (kk : W p l e R s m args below meth c H locs cells slots Q (F0 m (pc + 3) ls (.ref (h 1) :: rest))) : W p l e R s m args below meth c H locs cells slots Q (F0 m pc ls (.ref (h 0) :: rest)) :=
  va_get (D := D) (ci := 1) (v := .ref (h 1)) (C := RX1) (T := TX1) (N := 14) hx hb hts hin hown hK hP 0 rfl rfl 1 (by decide) (hts _ hl) (fun _ h9 => h9) rfl hdg kk
theorem rf_g_vO (hx : p.tables.exec = Jvm.exec) (hb : c.code = cc) (hts : ∀ w ∈ Ts, w.before args s = true) (hin : ∀ w ∈ u_ws RX1 TX1 14, w ∈ Ts) (hown : s.vm.findClass RX1 = some m.cls) (hK : va_K D vwCl (rfT k) s) (hP : va_P D vwCl (rfW h k vc vP vO vG pn pD mV mF mM pX pY se pl hg) H) (hl : Cond.fieldLink RX1 index "PartsFlowModel" "once" "[Z" ∈ Ts) (hdg : decode cc pc = .ok (.getfield index, 3)) (kk : W p l e R s m args below meth c H locs cells slots Q (F0 m (pc + 3) ls (.ref (h 2) :: rest))) : W p l e R s m args below meth c H locs cells slots Q (F0 m pc ls (.ref (h 0) :: rest)) :=
  va_get (D := D) (ci := 1) (v := .ref (h 2)) (C := RX1) (T := TX1) (N := 14) hx hb hts hin hown hK hP 0 rfl rfl 2 (by decide) (hts _ hl) (fun _ h9 => h9) rfl hdg kk
theorem rf_g_vG (hx : p.tables.exec = Jvm.exec) (hb : c.code = cc) (hts : ∀ w ∈ Ts, w.before args s = true) (hin : ∀ w ∈ u_ws RX1 TX1 14, w ∈ Ts) (hown : s.vm.findClass RX1 = some m.cls) (hK : va_K D vwCl (rfT k) s) (hP : va_P D vwCl (rfW h k vc vP vO vG pn pD mV mF mM pX pY se pl hg) H) (hl : Cond.fieldLink RX1 index "PartsFlowModel" "given" "[Z" ∈ Ts) (hdg : decode cc pc = .ok (.getfield index, 3)) (kk : W p l e R s m args below meth c H locs cells slots Q (F0 m (pc + 3) ls (.ref (h 3) :: rest))) : W p l e R s m args below meth c H locs cells slots Q (F0 m pc ls (.ref (h 0) :: rest)) :=
  va_get (D := D) (ci := 1) (v := .ref (h 3)) (C := RX1) (T := TX1) (N := 14) hx hb hts hin hown hK hP 0 rfl rfl 3 (by decide) (hts _ hl) (fun _ h9 => h9) rfl hdg kk
theorem rf_g_pn (hx : p.tables.exec = Jvm.exec) (hb : c.code = cc) (hts : ∀ w ∈ Ts, w.before args s = true) (hin : ∀ w ∈ u_ws RX1 TX1 14, w ∈ Ts) (hown : s.vm.findClass RX1 = some m.cls) (hK : va_K D vwCl (rfT k) s) (hP : va_P D vwCl (rfW h k vc vP vO vG pn pD mV mF mM pX pY se pl hg) H) (hl : Cond.fieldLink RX1 index "PartsFlowModel" "points" "I" ∈ Ts) (hdg : decode cc pc = .ok (.getfield index, 3)) (kk : W p l e R s m args below meth c H locs cells slots Q (F0 m (pc + 3) ls (.int pn :: rest))) : W p l e R s m args below meth c H locs cells slots Q (F0 m pc ls (.ref (h 0) :: rest)) :=
  va_get (D := D) (ci := 1) (v := .int pn) (C := RX1) (T := TX1) (N := 14) hx hb hts hin hown hK hP 0 rfl rfl 4 (by decide) (hts _ hl) (fun _ h9 => h9) rfl hdg kk
theorem rf_p_pn (hx : p.tables.exec = Jvm.exec) (hb : c.code = cc) (hts : ∀ w ∈ Ts, w.before args s = true) (hin : ∀ w ∈ u_ws RX1 TX1 14, w ∈ Ts) (hown : s.vm.findClass RX1 = some m.cls) (hK : va_K D vwCl (rfT k) s) (hP : va_P D vwCl (rfW h k vc vP vO vG pn pD mV mF mM pX pY se pl hg) H) (hD : va_D A (rfW h k vc vP vO vG pn pD mV mF mM pX pY se pl hg)) (hS : va_S A H0 H locs) (hl : Cond.fieldLink RX1 index "PartsFlowModel" "points" "I" ∈ Ts) (hdg : decode cc pc = .ok (.putfield index, 3)) {x : Int32} (kk : ∀ (H1 : Heap) (locs1 : List Loc), va_P D vwCl (rfW h k vc vP vO vG x pD mV mF mM pX pY se pl hg) H1 → va_D A (rfW h k vc vP vO vG x pD mV mF mM pX pY se pl hg) → va_S A H0 H1 locs1 → W p l e R s m args below meth c H1 locs1 cells slots Q (F0 m (pc + 3) ls rest)) : W p l e R s m args below meth c H locs cells slots Q (F0 m pc ls (.int x :: .ref (h 0) :: rest)) :=
  va_put (D := D) (ci := 1) (v := .int x) (ty := .int) (C := RX1) (T := TX1) (N := 14) hx hb hts hin tyX1 tyX1_ok nmX1 hown hK hP hD hS 0 rfl rfl 4 (by decide) (hts _ hl) (fun _ h9 => h9) rfl (by decide +kernel) rfl rfl (Nat.le_of_ble_eq_true rfl) hdg (fun H1 locs1 hP1 hD1 hS1 => kk H1 locs1 hP1 hD1 hS1)
theorem rf_g_pD (hx : p.tables.exec = Jvm.exec) (hb : c.code = cc) (hts : ∀ w ∈ Ts, w.before args s = true) (hin : ∀ w ∈ u_ws RX1 TX1 14, w ∈ Ts) (hown : s.vm.findClass RX1 = some m.cls) (hK : va_K D vwCl (rfT k) s) (hP : va_P D vwCl (rfW h k vc vP vO vG pn pD mV mF mM pX pY se pl hg) H) (hl : Cond.fieldLink RX1 index "PartsFlowModel" "doings" "[I" ∈ Ts) (hdg : decode cc pc = .ok (.getfield index, 3)) (kk : W p l e R s m args below meth c H locs cells slots Q (F0 m (pc + 3) ls (.ref (h 4) :: rest))) : W p l e R s m args below meth c H locs cells slots Q (F0 m pc ls (.ref (h 0) :: rest)) :=
  va_get (D := D) (ci := 1) (v := .ref (h 4)) (C := RX1) (T := TX1) (N := 14) hx hb hts hin hown hK hP 0 rfl rfl 5 (by decide) (hts _ hl) (fun _ h9 => h9) rfl hdg kk
theorem rf_g_mV (hx : p.tables.exec = Jvm.exec) (hb : c.code = cc) (hts : ∀ w ∈ Ts, w.before args s = true) (hin : ∀ w ∈ u_ws RX1 TX1 14, w ∈ Ts) (hown : s.vm.findClass RX1 = some m.cls) (hK : va_K D vwCl (rfT k) s) (hP : va_P D vwCl (rfW h k vc vP vO vG pn pD mV mF mM pX pY se pl hg) H) (hl : Cond.fieldLink RX1 index "PartsFlowModel" "of" "[I" ∈ Ts) (hdg : decode cc pc = .ok (.getfield index, 3)) (kk : W p l e R s m args below meth c H locs cells slots Q (F0 m (pc + 3) ls (.ref (h 5) :: rest))) : W p l e R s m args below meth c H locs cells slots Q (F0 m pc ls (.ref (h 0) :: rest)) :=
  va_get (D := D) (ci := 1) (v := .ref (h 5)) (C := RX1) (T := TX1) (N := 14) hx hb hts hin hown hK hP 0 rfl rfl 6 (by decide) (hts _ hl) (fun _ h9 => h9) rfl hdg kk
theorem rf_g_mF (hx : p.tables.exec = Jvm.exec) (hb : c.code = cc) (hts : ∀ w ∈ Ts, w.before args s = true) (hin : ∀ w ∈ u_ws RX1 TX1 14, w ∈ Ts) (hown : s.vm.findClass RX1 = some m.cls) (hK : va_K D vwCl (rfT k) s) (hP : va_P D vwCl (rfW h k vc vP vO vG pn pD mV mF mM pX pY se pl hg) H) (hl : Cond.fieldLink RX1 index "PartsFlowModel" "from" "[I" ∈ Ts) (hdg : decode cc pc = .ok (.getfield index, 3)) (kk : W p l e R s m args below meth c H locs cells slots Q (F0 m (pc + 3) ls (.ref (h 6) :: rest))) : W p l e R s m args below meth c H locs cells slots Q (F0 m pc ls (.ref (h 0) :: rest)) :=
  va_get (D := D) (ci := 1) (v := .ref (h 6)) (C := RX1) (T := TX1) (N := 14) hx hb hts hin hown hK hP 0 rfl rfl 7 (by decide) (hts _ hl) (fun _ h9 => h9) rfl hdg kk
theorem rf_g_mM (hx : p.tables.exec = Jvm.exec) (hb : c.code = cc) (hts : ∀ w ∈ Ts, w.before args s = true) (hin : ∀ w ∈ u_ws RX1 TX1 14, w ∈ Ts) (hown : s.vm.findClass RX1 = some m.cls) (hK : va_K D vwCl (rfT k) s) (hP : va_P D vwCl (rfW h k vc vP vO vG pn pD mV mF mM pX pY se pl hg) H) (hl : Cond.fieldLink RX1 index "PartsFlowModel" "many" "[I" ∈ Ts) (hdg : decode cc pc = .ok (.getfield index, 3)) (kk : W p l e R s m args below meth c H locs cells slots Q (F0 m (pc + 3) ls (.ref (h 7) :: rest))) : W p l e R s m args below meth c H locs cells slots Q (F0 m pc ls (.ref (h 0) :: rest)) :=
  va_get (D := D) (ci := 1) (v := .ref (h 7)) (C := RX1) (T := TX1) (N := 14) hx hb hts hin hown hK hP 0 rfl rfl 8 (by decide) (hts _ hl) (fun _ h9 => h9) rfl hdg kk
theorem rf_g_pX (hx : p.tables.exec = Jvm.exec) (hb : c.code = cc) (hts : ∀ w ∈ Ts, w.before args s = true) (hin : ∀ w ∈ u_ws RX1 TX1 14, w ∈ Ts) (hown : s.vm.findClass RX1 = some m.cls) (hK : va_K D vwCl (rfT k) s) (hP : va_P D vwCl (rfW h k vc vP vO vG pn pD mV mF mM pX pY se pl hg) H) (hl : Cond.fieldLink RX1 index "PartsFlowModel" "xs" "[I" ∈ Ts) (hdg : decode cc pc = .ok (.getfield index, 3)) (kk : W p l e R s m args below meth c H locs cells slots Q (F0 m (pc + 3) ls (.ref (h 8) :: rest))) : W p l e R s m args below meth c H locs cells slots Q (F0 m pc ls (.ref (h 0) :: rest)) :=
  va_get (D := D) (ci := 1) (v := .ref (h 8)) (C := RX1) (T := TX1) (N := 14) hx hb hts hin hown hK hP 0 rfl rfl 9 (by decide) (hts _ hl) (fun _ h9 => h9) rfl hdg kk
theorem rf_g_pY (hx : p.tables.exec = Jvm.exec) (hb : c.code = cc) (hts : ∀ w ∈ Ts, w.before args s = true) (hin : ∀ w ∈ u_ws RX1 TX1 14, w ∈ Ts) (hown : s.vm.findClass RX1 = some m.cls) (hK : va_K D vwCl (rfT k) s) (hP : va_P D vwCl (rfW h k vc vP vO vG pn pD mV mF mM pX pY se pl hg) H) (hl : Cond.fieldLink RX1 index "PartsFlowModel" "ys" "[I" ∈ Ts) (hdg : decode cc pc = .ok (.getfield index, 3)) (kk : W p l e R s m args below meth c H locs cells slots Q (F0 m (pc + 3) ls (.ref (h 9) :: rest))) : W p l e R s m args below meth c H locs cells slots Q (F0 m pc ls (.ref (h 0) :: rest)) :=
  va_get (D := D) (ci := 1) (v := .ref (h 9)) (C := RX1) (T := TX1) (N := 14) hx hb hts hin hown hK hP 0 rfl rfl 10 (by decide) (hts _ hl) (fun _ h9 => h9) rfl hdg kk
theorem rf_g_se (hx : p.tables.exec = Jvm.exec) (hb : c.code = cc) (hts : ∀ w ∈ Ts, w.before args s = true) (hin : ∀ w ∈ u_ws RX1 TX1 14, w ∈ Ts) (hown : s.vm.findClass RX1 = some m.cls) (hK : va_K D vwCl (rfT k) s) (hP : va_P D vwCl (rfW h k vc vP vO vG pn pD mV mF mM pX pY se pl hg) H) (hl : Cond.fieldLink RX1 index "PartsFlowModel" "seen" "[Z" ∈ Ts) (hdg : decode cc pc = .ok (.getfield index, 3)) (kk : W p l e R s m args below meth c H locs cells slots Q (F0 m (pc + 3) ls (.ref (h 10) :: rest))) : W p l e R s m args below meth c H locs cells slots Q (F0 m pc ls (.ref (h 0) :: rest)) :=
  va_get (D := D) (ci := 1) (v := .ref (h 10)) (C := RX1) (T := TX1) (N := 14) hx hb hts hin hown hK hP 0 rfl rfl 11 (by decide) (hts _ hl) (fun _ h9 => h9) rfl hdg kk
theorem rf_g_pl (hx : p.tables.exec = Jvm.exec) (hb : c.code = cc) (hts : ∀ w ∈ Ts, w.before args s = true) (hin : ∀ w ∈ u_ws RX1 TX1 14, w ∈ Ts) (hown : s.vm.findClass RX1 = some m.cls) (hK : va_K D vwCl (rfT k) s) (hP : va_P D vwCl (rfW h k vc vP vO vG pn pD mV mF mM pX pY se pl hg) H) (hl : Cond.fieldLink RX1 index "PartsFlowModel" "pile" "[I" ∈ Ts) (hdg : decode cc pc = .ok (.getfield index, 3)) (kk : W p l e R s m args below meth c H locs cells slots Q (F0 m (pc + 3) ls (.ref (h 11) :: rest))) : W p l e R s m args below meth c H locs cells slots Q (F0 m pc ls (.ref (h 0) :: rest)) :=
  va_get (D := D) (ci := 1) (v := .ref (h 11)) (C := RX1) (T := TX1) (N := 14) hx hb hts hin hown hK hP 0 rfl rfl 12 (by decide) (hts _ hl) (fun _ h9 => h9) rfl hdg kk
theorem rf_g_hg (hx : p.tables.exec = Jvm.exec) (hb : c.code = cc) (hts : ∀ w ∈ Ts, w.before args s = true) (hin : ∀ w ∈ u_ws RX1 TX1 14, w ∈ Ts) (hown : s.vm.findClass RX1 = some m.cls) (hK : va_K D vwCl (rfT k) s) (hP : va_P D vwCl (rfW h k vc vP vO vG pn pD mV mF mM pX pY se pl hg) H) (hl : Cond.fieldLink RX1 index "PartsFlowModel" "high" "I" ∈ Ts) (hdg : decode cc pc = .ok (.getfield index, 3)) (kk : W p l e R s m args below meth c H locs cells slots Q (F0 m (pc + 3) ls (.int hg :: rest))) : W p l e R s m args below meth c H locs cells slots Q (F0 m pc ls (.ref (h 0) :: rest)) :=
  va_get (D := D) (ci := 1) (v := .int hg) (C := RX1) (T := TX1) (N := 14) hx hb hts hin hown hK hP 0 rfl rfl 13 (by decide) (hts _ hl) (fun _ h9 => h9) rfl hdg kk
theorem rf_p_hg (hx : p.tables.exec = Jvm.exec) (hb : c.code = cc) (hts : ∀ w ∈ Ts, w.before args s = true) (hin : ∀ w ∈ u_ws RX1 TX1 14, w ∈ Ts) (hown : s.vm.findClass RX1 = some m.cls) (hK : va_K D vwCl (rfT k) s) (hP : va_P D vwCl (rfW h k vc vP vO vG pn pD mV mF mM pX pY se pl hg) H) (hD : va_D A (rfW h k vc vP vO vG pn pD mV mF mM pX pY se pl hg)) (hS : va_S A H0 H locs) (hl : Cond.fieldLink RX1 index "PartsFlowModel" "high" "I" ∈ Ts) (hdg : decode cc pc = .ok (.putfield index, 3)) {x : Int32} (kk : ∀ (H1 : Heap) (locs1 : List Loc), va_P D vwCl (rfW h k vc vP vO vG pn pD mV mF mM pX pY se pl x) H1 → va_D A (rfW h k vc vP vO vG pn pD mV mF mM pX pY se pl x) → va_S A H0 H1 locs1 → W p l e R s m args below meth c H1 locs1 cells slots Q (F0 m (pc + 3) ls rest)) : W p l e R s m args below meth c H locs cells slots Q (F0 m pc ls (.int x :: .ref (h 0) :: rest)) :=
  va_put (D := D) (ci := 1) (v := .int x) (ty := .int) (C := RX1) (T := TX1) (N := 14) hx hb hts hin tyX1 tyX1_ok nmX1 hown hK hP hD hS 0 rfl rfl 13 (by decide) (hts _ hl) (fun _ h9 => h9) rfl (by decide +kernel) rfl rfl (Nat.le_of_ble_eq_true rfl) hdg (fun H1 locs1 hP1 hD1 hS1 => kk H1 locs1 hP1 hD1 hS1)
theorem rf_l_vP (hx : p.tables.exec = Jvm.exec) (hb : c.code = cc) (hK : va_K D vwCl (rfT k) s) (hP : va_P D vwCl (rfW h k vc vP vO vG pn pD mV mF mM pX pY se pl hg) H) {n : Nat} (hn : n < 20) (hdg : decode cc pc = .ok (.iaload, 1)) (kk : W p l e R s m args below meth c H locs cells slots Q (F0 m (pc + 1) ls (.int (vP n) :: rest))) : W p l e R s m args below meth c H locs cells slots Q (F0 m pc ls (.int (nI n) :: .ref (h 1) :: rest)) := by
  refine va_iald hx hb hK hP 1 0 (cA := k 0) (n := 20) (f := vP) rfl rfl (vp_in_nI hn (by decide)) hdg ?_
  rw [nI_clamp (by omega)]
  exact kk
theorem rf_s_vP (hx : p.tables.exec = Jvm.exec) (hb : c.code = cc) (hK : va_K D vwCl (rfT k) s) (hP : va_P D vwCl (rfW h k vc vP vO vG pn pD mV mF mM pX pY se pl hg) H) (hD : va_D A (rfW h k vc vP vO vG pn pD mV mF mM pX pY se pl hg)) (hS : va_S A H0 H locs) {n : Nat} {x : Int32} (hn : n < 20) (hdg : decode cc pc = .ok (.iastore, 1)) (kk : ∀ (H1 : Heap) (locs1 : List Loc), va_P D vwCl (rfW h k vc (upd vP n x) vO vG pn pD mV mF mM pX pY se pl hg) H1 → va_D A (rfW h k vc (upd vP n x) vO vG pn pD mV mF mM pX pY se pl hg) → va_S A H0 H1 locs1 → W p l e R s m args below meth c H1 locs1 cells slots Q (F0 m (pc + 1) ls rest)) : W p l e R s m args below meth c H locs cells slots Q (F0 m pc ls (.int x :: .int (nI n) :: .ref (h 1) :: rest)) := by
  refine va_iast hx hb hK hP hD hS 1 0 (cA := k 0) (n := 20) (f := vP) rfl rfl (vp_in_nI hn (by decide)) hdg (fun H1 locs1 hP1 hD1 hS1 => ?_)
  rw [nI_clamp (by omega)] at hP1 hD1
  exact kk H1 locs1 hP1 hD1 hS1
theorem rf_l_vO (hx : p.tables.exec = Jvm.exec) (hb : c.code = cc) (hK : va_K D vwCl (rfT k) s) (hP : va_P D vwCl (rfW h k vc vP vO vG pn pD mV mF mM pX pY se pl hg) H) {n : Nat} (hn : n < 20) (hdg : decode cc pc = .ok (.baload, 1)) (kk : W p l e R s m args below meth c H locs cells slots Q (F0 m (pc + 1) ls (.int (vO n) :: rest))) : W p l e R s m args below meth c H locs cells slots Q (F0 m pc ls (.int (nI n) :: .ref (h 2) :: rest)) := by
  refine va_zald hx hb hK hP 2 1 (cA := k 1) (n := 20) (f := vO) rfl rfl (vp_in_nI hn (by decide)) hdg ?_
  rw [nI_clamp (by omega)]
  exact kk
theorem rf_s_vO (hx : p.tables.exec = Jvm.exec) (hb : c.code = cc) (hK : va_K D vwCl (rfT k) s) (hP : va_P D vwCl (rfW h k vc vP vO vG pn pD mV mF mM pX pY se pl hg) H) (hD : va_D A (rfW h k vc vP vO vG pn pD mV mF mM pX pY se pl hg)) (hS : va_S A H0 H locs) {n : Nat} {x : Int32} (hn : n < 20) (hdg : decode cc pc = .ok (.bastore, 1)) (hz : vp_nar .boolean x = x) (kk : ∀ (H1 : Heap) (locs1 : List Loc), va_P D vwCl (rfW h k vc vP (upd vO n x) vG pn pD mV mF mM pX pY se pl hg) H1 → va_D A (rfW h k vc vP (upd vO n x) vG pn pD mV mF mM pX pY se pl hg) → va_S A H0 H1 locs1 → W p l e R s m args below meth c H1 locs1 cells slots Q (F0 m (pc + 1) ls rest)) : W p l e R s m args below meth c H locs cells slots Q (F0 m pc ls (.int x :: .int (nI n) :: .ref (h 2) :: rest)) := by
  refine va_zast hx hb hK hP hD hS 2 1 (cA := k 1) (n := 20) (f := vO) rfl rfl (vp_in_nI hn (by decide)) hdg (fun H1 locs1 hP1 hD1 hS1 => ?_)
  rw [nI_clamp (by omega), hz] at hP1 hD1
  exact kk H1 locs1 hP1 hD1 hS1
theorem rf_l_vG (hx : p.tables.exec = Jvm.exec) (hb : c.code = cc) (hK : va_K D vwCl (rfT k) s) (hP : va_P D vwCl (rfW h k vc vP vO vG pn pD mV mF mM pX pY se pl hg) H) {n : Nat} (hn : n < 20) (hdg : decode cc pc = .ok (.baload, 1)) (kk : W p l e R s m args below meth c H locs cells slots Q (F0 m (pc + 1) ls (.int (vG n) :: rest))) : W p l e R s m args below meth c H locs cells slots Q (F0 m pc ls (.int (nI n) :: .ref (h 3) :: rest)) := by
  refine va_zald hx hb hK hP 3 2 (cA := k 2) (n := 20) (f := vG) rfl rfl (vp_in_nI hn (by decide)) hdg ?_
  rw [nI_clamp (by omega)]
  exact kk
theorem rf_s_vG (hx : p.tables.exec = Jvm.exec) (hb : c.code = cc) (hK : va_K D vwCl (rfT k) s) (hP : va_P D vwCl (rfW h k vc vP vO vG pn pD mV mF mM pX pY se pl hg) H) (hD : va_D A (rfW h k vc vP vO vG pn pD mV mF mM pX pY se pl hg)) (hS : va_S A H0 H locs) {n : Nat} {x : Int32} (hn : n < 20) (hdg : decode cc pc = .ok (.bastore, 1)) (hz : vp_nar .boolean x = x) (kk : ∀ (H1 : Heap) (locs1 : List Loc), va_P D vwCl (rfW h k vc vP vO (upd vG n x) pn pD mV mF mM pX pY se pl hg) H1 → va_D A (rfW h k vc vP vO (upd vG n x) pn pD mV mF mM pX pY se pl hg) → va_S A H0 H1 locs1 → W p l e R s m args below meth c H1 locs1 cells slots Q (F0 m (pc + 1) ls rest)) : W p l e R s m args below meth c H locs cells slots Q (F0 m pc ls (.int x :: .int (nI n) :: .ref (h 3) :: rest)) := by
  refine va_zast hx hb hK hP hD hS 3 2 (cA := k 2) (n := 20) (f := vG) rfl rfl (vp_in_nI hn (by decide)) hdg (fun H1 locs1 hP1 hD1 hS1 => ?_)
  rw [nI_clamp (by omega), hz] at hP1 hD1
  exact kk H1 locs1 hP1 hD1 hS1
theorem rf_l_pD (hx : p.tables.exec = Jvm.exec) (hb : c.code = cc) (hK : va_K D vwCl (rfT k) s) (hP : va_P D vwCl (rfW h k vc vP vO vG pn pD mV mF mM pX pY se pl hg) H) {n : Nat} (hn : n < 120) (hdg : decode cc pc = .ok (.iaload, 1)) (kk : W p l e R s m args below meth c H locs cells slots Q (F0 m (pc + 1) ls (.int (pD n) :: rest))) : W p l e R s m args below meth c H locs cells slots Q (F0 m pc ls (.int (nI n) :: .ref (h 4) :: rest)) := by
  refine va_iald hx hb hK hP 4 3 (cA := k 3) (n := 120) (f := pD) rfl rfl (vp_in_nI hn (by decide)) hdg ?_
  rw [nI_clamp (by omega)]
  exact kk
theorem rf_s_pD (hx : p.tables.exec = Jvm.exec) (hb : c.code = cc) (hK : va_K D vwCl (rfT k) s) (hP : va_P D vwCl (rfW h k vc vP vO vG pn pD mV mF mM pX pY se pl hg) H) (hD : va_D A (rfW h k vc vP vO vG pn pD mV mF mM pX pY se pl hg)) (hS : va_S A H0 H locs) {n : Nat} {x : Int32} (hn : n < 120) (hdg : decode cc pc = .ok (.iastore, 1)) (kk : ∀ (H1 : Heap) (locs1 : List Loc), va_P D vwCl (rfW h k vc vP vO vG pn (upd pD n x) mV mF mM pX pY se pl hg) H1 → va_D A (rfW h k vc vP vO vG pn (upd pD n x) mV mF mM pX pY se pl hg) → va_S A H0 H1 locs1 → W p l e R s m args below meth c H1 locs1 cells slots Q (F0 m (pc + 1) ls rest)) : W p l e R s m args below meth c H locs cells slots Q (F0 m pc ls (.int x :: .int (nI n) :: .ref (h 4) :: rest)) := by
  refine va_iast hx hb hK hP hD hS 4 3 (cA := k 3) (n := 120) (f := pD) rfl rfl (vp_in_nI hn (by decide)) hdg (fun H1 locs1 hP1 hD1 hS1 => ?_)
  rw [nI_clamp (by omega)] at hP1 hD1
  exact kk H1 locs1 hP1 hD1 hS1
theorem rf_l_mV (hx : p.tables.exec = Jvm.exec) (hb : c.code = cc) (hK : va_K D vwCl (rfT k) s) (hP : va_P D vwCl (rfW h k vc vP vO vG pn pD mV mF mM pX pY se pl hg) H) {n : Nat} (hn : n < 120) (hdg : decode cc pc = .ok (.iaload, 1)) (kk : W p l e R s m args below meth c H locs cells slots Q (F0 m (pc + 1) ls (.int (mV n) :: rest))) : W p l e R s m args below meth c H locs cells slots Q (F0 m pc ls (.int (nI n) :: .ref (h 5) :: rest)) := by
  refine va_iald hx hb hK hP 5 4 (cA := k 4) (n := 120) (f := mV) rfl rfl (vp_in_nI hn (by decide)) hdg ?_
  rw [nI_clamp (by omega)]
  exact kk
theorem rf_s_mV (hx : p.tables.exec = Jvm.exec) (hb : c.code = cc) (hK : va_K D vwCl (rfT k) s) (hP : va_P D vwCl (rfW h k vc vP vO vG pn pD mV mF mM pX pY se pl hg) H) (hD : va_D A (rfW h k vc vP vO vG pn pD mV mF mM pX pY se pl hg)) (hS : va_S A H0 H locs) {n : Nat} {x : Int32} (hn : n < 120) (hdg : decode cc pc = .ok (.iastore, 1)) (kk : ∀ (H1 : Heap) (locs1 : List Loc), va_P D vwCl (rfW h k vc vP vO vG pn pD (upd mV n x) mF mM pX pY se pl hg) H1 → va_D A (rfW h k vc vP vO vG pn pD (upd mV n x) mF mM pX pY se pl hg) → va_S A H0 H1 locs1 → W p l e R s m args below meth c H1 locs1 cells slots Q (F0 m (pc + 1) ls rest)) : W p l e R s m args below meth c H locs cells slots Q (F0 m pc ls (.int x :: .int (nI n) :: .ref (h 5) :: rest)) := by
  refine va_iast hx hb hK hP hD hS 5 4 (cA := k 4) (n := 120) (f := mV) rfl rfl (vp_in_nI hn (by decide)) hdg (fun H1 locs1 hP1 hD1 hS1 => ?_)
  rw [nI_clamp (by omega)] at hP1 hD1
  exact kk H1 locs1 hP1 hD1 hS1
theorem rf_l_mF (hx : p.tables.exec = Jvm.exec) (hb : c.code = cc) (hK : va_K D vwCl (rfT k) s) (hP : va_P D vwCl (rfW h k vc vP vO vG pn pD mV mF mM pX pY se pl hg) H) {n : Nat} (hn : n < 120) (hdg : decode cc pc = .ok (.iaload, 1)) (kk : W p l e R s m args below meth c H locs cells slots Q (F0 m (pc + 1) ls (.int (mF n) :: rest))) : W p l e R s m args below meth c H locs cells slots Q (F0 m pc ls (.int (nI n) :: .ref (h 6) :: rest)) := by
  refine va_iald hx hb hK hP 6 5 (cA := k 5) (n := 120) (f := mF) rfl rfl (vp_in_nI hn (by decide)) hdg ?_
  rw [nI_clamp (by omega)]
  exact kk
theorem rf_s_mF (hx : p.tables.exec = Jvm.exec) (hb : c.code = cc) (hK : va_K D vwCl (rfT k) s) (hP : va_P D vwCl (rfW h k vc vP vO vG pn pD mV mF mM pX pY se pl hg) H) (hD : va_D A (rfW h k vc vP vO vG pn pD mV mF mM pX pY se pl hg)) (hS : va_S A H0 H locs) {n : Nat} {x : Int32} (hn : n < 120) (hdg : decode cc pc = .ok (.iastore, 1)) (kk : ∀ (H1 : Heap) (locs1 : List Loc), va_P D vwCl (rfW h k vc vP vO vG pn pD mV (upd mF n x) mM pX pY se pl hg) H1 → va_D A (rfW h k vc vP vO vG pn pD mV (upd mF n x) mM pX pY se pl hg) → va_S A H0 H1 locs1 → W p l e R s m args below meth c H1 locs1 cells slots Q (F0 m (pc + 1) ls rest)) : W p l e R s m args below meth c H locs cells slots Q (F0 m pc ls (.int x :: .int (nI n) :: .ref (h 6) :: rest)) := by
  refine va_iast hx hb hK hP hD hS 6 5 (cA := k 5) (n := 120) (f := mF) rfl rfl (vp_in_nI hn (by decide)) hdg (fun H1 locs1 hP1 hD1 hS1 => ?_)
  rw [nI_clamp (by omega)] at hP1 hD1
  exact kk H1 locs1 hP1 hD1 hS1
theorem rf_l_mM (hx : p.tables.exec = Jvm.exec) (hb : c.code = cc) (hK : va_K D vwCl (rfT k) s) (hP : va_P D vwCl (rfW h k vc vP vO vG pn pD mV mF mM pX pY se pl hg) H) {n : Nat} (hn : n < 120) (hdg : decode cc pc = .ok (.iaload, 1)) (kk : W p l e R s m args below meth c H locs cells slots Q (F0 m (pc + 1) ls (.int (mM n) :: rest))) : W p l e R s m args below meth c H locs cells slots Q (F0 m pc ls (.int (nI n) :: .ref (h 7) :: rest)) := by
  refine va_iald hx hb hK hP 7 6 (cA := k 6) (n := 120) (f := mM) rfl rfl (vp_in_nI hn (by decide)) hdg ?_
  rw [nI_clamp (by omega)]
  exact kk
theorem rf_s_mM (hx : p.tables.exec = Jvm.exec) (hb : c.code = cc) (hK : va_K D vwCl (rfT k) s) (hP : va_P D vwCl (rfW h k vc vP vO vG pn pD mV mF mM pX pY se pl hg) H) (hD : va_D A (rfW h k vc vP vO vG pn pD mV mF mM pX pY se pl hg)) (hS : va_S A H0 H locs) {n : Nat} {x : Int32} (hn : n < 120) (hdg : decode cc pc = .ok (.iastore, 1)) (kk : ∀ (H1 : Heap) (locs1 : List Loc), va_P D vwCl (rfW h k vc vP vO vG pn pD mV mF (upd mM n x) pX pY se pl hg) H1 → va_D A (rfW h k vc vP vO vG pn pD mV mF (upd mM n x) pX pY se pl hg) → va_S A H0 H1 locs1 → W p l e R s m args below meth c H1 locs1 cells slots Q (F0 m (pc + 1) ls rest)) : W p l e R s m args below meth c H locs cells slots Q (F0 m pc ls (.int x :: .int (nI n) :: .ref (h 7) :: rest)) := by
  refine va_iast hx hb hK hP hD hS 7 6 (cA := k 6) (n := 120) (f := mM) rfl rfl (vp_in_nI hn (by decide)) hdg (fun H1 locs1 hP1 hD1 hS1 => ?_)
  rw [nI_clamp (by omega)] at hP1 hD1
  exact kk H1 locs1 hP1 hD1 hS1
theorem rf_l_pX (hx : p.tables.exec = Jvm.exec) (hb : c.code = cc) (hK : va_K D vwCl (rfT k) s) (hP : va_P D vwCl (rfW h k vc vP vO vG pn pD mV mF mM pX pY se pl hg) H) {n : Nat} (hn : n < 120) (hdg : decode cc pc = .ok (.iaload, 1)) (kk : W p l e R s m args below meth c H locs cells slots Q (F0 m (pc + 1) ls (.int (pX n) :: rest))) : W p l e R s m args below meth c H locs cells slots Q (F0 m pc ls (.int (nI n) :: .ref (h 8) :: rest)) := by
  refine va_iald hx hb hK hP 8 7 (cA := k 7) (n := 120) (f := pX) rfl rfl (vp_in_nI hn (by decide)) hdg ?_
  rw [nI_clamp (by omega)]
  exact kk
theorem rf_s_pX (hx : p.tables.exec = Jvm.exec) (hb : c.code = cc) (hK : va_K D vwCl (rfT k) s) (hP : va_P D vwCl (rfW h k vc vP vO vG pn pD mV mF mM pX pY se pl hg) H) (hD : va_D A (rfW h k vc vP vO vG pn pD mV mF mM pX pY se pl hg)) (hS : va_S A H0 H locs) {n : Nat} {x : Int32} (hn : n < 120) (hdg : decode cc pc = .ok (.iastore, 1)) (kk : ∀ (H1 : Heap) (locs1 : List Loc), va_P D vwCl (rfW h k vc vP vO vG pn pD mV mF mM (upd pX n x) pY se pl hg) H1 → va_D A (rfW h k vc vP vO vG pn pD mV mF mM (upd pX n x) pY se pl hg) → va_S A H0 H1 locs1 → W p l e R s m args below meth c H1 locs1 cells slots Q (F0 m (pc + 1) ls rest)) : W p l e R s m args below meth c H locs cells slots Q (F0 m pc ls (.int x :: .int (nI n) :: .ref (h 8) :: rest)) := by
  refine va_iast hx hb hK hP hD hS 8 7 (cA := k 7) (n := 120) (f := pX) rfl rfl (vp_in_nI hn (by decide)) hdg (fun H1 locs1 hP1 hD1 hS1 => ?_)
  rw [nI_clamp (by omega)] at hP1 hD1
  exact kk H1 locs1 hP1 hD1 hS1
theorem rf_l_pY (hx : p.tables.exec = Jvm.exec) (hb : c.code = cc) (hK : va_K D vwCl (rfT k) s) (hP : va_P D vwCl (rfW h k vc vP vO vG pn pD mV mF mM pX pY se pl hg) H) {n : Nat} (hn : n < 120) (hdg : decode cc pc = .ok (.iaload, 1)) (kk : W p l e R s m args below meth c H locs cells slots Q (F0 m (pc + 1) ls (.int (pY n) :: rest))) : W p l e R s m args below meth c H locs cells slots Q (F0 m pc ls (.int (nI n) :: .ref (h 9) :: rest)) := by
  refine va_iald hx hb hK hP 9 8 (cA := k 8) (n := 120) (f := pY) rfl rfl (vp_in_nI hn (by decide)) hdg ?_
  rw [nI_clamp (by omega)]
  exact kk
theorem rf_s_pY (hx : p.tables.exec = Jvm.exec) (hb : c.code = cc) (hK : va_K D vwCl (rfT k) s) (hP : va_P D vwCl (rfW h k vc vP vO vG pn pD mV mF mM pX pY se pl hg) H) (hD : va_D A (rfW h k vc vP vO vG pn pD mV mF mM pX pY se pl hg)) (hS : va_S A H0 H locs) {n : Nat} {x : Int32} (hn : n < 120) (hdg : decode cc pc = .ok (.iastore, 1)) (kk : ∀ (H1 : Heap) (locs1 : List Loc), va_P D vwCl (rfW h k vc vP vO vG pn pD mV mF mM pX (upd pY n x) se pl hg) H1 → va_D A (rfW h k vc vP vO vG pn pD mV mF mM pX (upd pY n x) se pl hg) → va_S A H0 H1 locs1 → W p l e R s m args below meth c H1 locs1 cells slots Q (F0 m (pc + 1) ls rest)) : W p l e R s m args below meth c H locs cells slots Q (F0 m pc ls (.int x :: .int (nI n) :: .ref (h 9) :: rest)) := by
  refine va_iast hx hb hK hP hD hS 9 8 (cA := k 8) (n := 120) (f := pY) rfl rfl (vp_in_nI hn (by decide)) hdg (fun H1 locs1 hP1 hD1 hS1 => ?_)
  rw [nI_clamp (by omega)] at hP1 hD1
  exact kk H1 locs1 hP1 hD1 hS1
theorem rf_l_se (hx : p.tables.exec = Jvm.exec) (hb : c.code = cc) (hK : va_K D vwCl (rfT k) s) (hP : va_P D vwCl (rfW h k vc vP vO vG pn pD mV mF mM pX pY se pl hg) H) {n : Nat} (hn : n < 240) (hdg : decode cc pc = .ok (.baload, 1)) (kk : W p l e R s m args below meth c H locs cells slots Q (F0 m (pc + 1) ls (.int (se n) :: rest))) : W p l e R s m args below meth c H locs cells slots Q (F0 m pc ls (.int (nI n) :: .ref (h 10) :: rest)) := by
  refine va_zald hx hb hK hP 10 9 (cA := k 9) (n := 240) (f := se) rfl rfl (vp_in_nI hn (by decide)) hdg ?_
  rw [nI_clamp (by omega)]
  exact kk
theorem rf_s_se (hx : p.tables.exec = Jvm.exec) (hb : c.code = cc) (hK : va_K D vwCl (rfT k) s) (hP : va_P D vwCl (rfW h k vc vP vO vG pn pD mV mF mM pX pY se pl hg) H) (hD : va_D A (rfW h k vc vP vO vG pn pD mV mF mM pX pY se pl hg)) (hS : va_S A H0 H locs) {n : Nat} {x : Int32} (hn : n < 240) (hdg : decode cc pc = .ok (.bastore, 1)) (hz : vp_nar .boolean x = x) (kk : ∀ (H1 : Heap) (locs1 : List Loc), va_P D vwCl (rfW h k vc vP vO vG pn pD mV mF mM pX pY (upd se n x) pl hg) H1 → va_D A (rfW h k vc vP vO vG pn pD mV mF mM pX pY (upd se n x) pl hg) → va_S A H0 H1 locs1 → W p l e R s m args below meth c H1 locs1 cells slots Q (F0 m (pc + 1) ls rest)) : W p l e R s m args below meth c H locs cells slots Q (F0 m pc ls (.int x :: .int (nI n) :: .ref (h 10) :: rest)) := by
  refine va_zast hx hb hK hP hD hS 10 9 (cA := k 9) (n := 240) (f := se) rfl rfl (vp_in_nI hn (by decide)) hdg (fun H1 locs1 hP1 hD1 hS1 => ?_)
  rw [nI_clamp (by omega), hz] at hP1 hD1
  exact kk H1 locs1 hP1 hD1 hS1
theorem rf_l_pl (hx : p.tables.exec = Jvm.exec) (hb : c.code = cc) (hK : va_K D vwCl (rfT k) s) (hP : va_P D vwCl (rfW h k vc vP vO vG pn pD mV mF mM pX pY se pl hg) H) {n : Nat} (hn : n < 240) (hdg : decode cc pc = .ok (.iaload, 1)) (kk : W p l e R s m args below meth c H locs cells slots Q (F0 m (pc + 1) ls (.int (pl n) :: rest))) : W p l e R s m args below meth c H locs cells slots Q (F0 m pc ls (.int (nI n) :: .ref (h 11) :: rest)) := by
  refine va_iald hx hb hK hP 11 10 (cA := k 10) (n := 240) (f := pl) rfl rfl (vp_in_nI hn (by decide)) hdg ?_
  rw [nI_clamp (by omega)]
  exact kk
theorem rf_s_pl (hx : p.tables.exec = Jvm.exec) (hb : c.code = cc) (hK : va_K D vwCl (rfT k) s) (hP : va_P D vwCl (rfW h k vc vP vO vG pn pD mV mF mM pX pY se pl hg) H) (hD : va_D A (rfW h k vc vP vO vG pn pD mV mF mM pX pY se pl hg)) (hS : va_S A H0 H locs) {n : Nat} {x : Int32} (hn : n < 240) (hdg : decode cc pc = .ok (.iastore, 1)) (kk : ∀ (H1 : Heap) (locs1 : List Loc), va_P D vwCl (rfW h k vc vP vO vG pn pD mV mF mM pX pY se (upd pl n x) hg) H1 → va_D A (rfW h k vc vP vO vG pn pD mV mF mM pX pY se (upd pl n x) hg) → va_S A H0 H1 locs1 → W p l e R s m args below meth c H1 locs1 cells slots Q (F0 m (pc + 1) ls rest)) : W p l e R s m args below meth c H locs cells slots Q (F0 m pc ls (.int x :: .int (nI n) :: .ref (h 11) :: rest)) := by
  refine va_iast hx hb hK hP hD hS 11 10 (cA := k 10) (n := 240) (f := pl) rfl rfl (vp_in_nI hn (by decide)) hdg (fun H1 locs1 hP1 hD1 hS1 => ?_)
  rw [nI_clamp (by omega)] at hP1 hD1
  exact kk H1 locs1 hP1 hD1 hS1
end PFW
end
section
abbrev rr_isPoint : Room := { frames := 0, cells := 0, slots := 0, locals := 0 }
theorem ri_isPoint : ∀ w ∈ u_ws RX1 TX1 14, w ∈ wsX1_isPoint := by decide +kernel
set_option maxHeartbeats 4000000 in
set_option maxRecDepth 100000 in
theorem r_isPoint {l : Launch} {D : va_G} {h : Nat → Nat} {k : Nat → ClassId} {vc pn hg : Int32} {vP vO vG pD mV mF mM pX pY se pl : Nat → Int32} (x : Int32)  : ct l yX1_isPoint wsX1_isPoint rr_isPoint D vwCl (rfT k) [.ref (h 0), .int x] (rfW h k vc vP vO vG pn pD mV mF mM pX pY se pl hg) (qI D vwCl (rfT k) (fun (r : Int32) (u : Unit) => (r = 1 ∧ ¬ x < 0 ∧ ¬ pn ≤ x) ∨ (r = 0 ∧ ¬ (¬ x < 0 ∧ ¬ pn ≤ x))) (fun _ => rfW h k vc vP vO vG pn pD mV mF mM pX pY se pl hg)) 0 0 := by
  refine ct_of (cc := cX1_isPoint) (maxL := 2) (ret := some .boolean) (by decide) rfl (Nat.le_of_ble_eq_true rfl) ?_
  intro p e s m below meth c A ls hx hb hr hml hlocks hown hnm hts hA hK hP hD hS hl
  have hown : s.vm.findClass RX1 = some m.cls := hown
  have hin := ri_isPoint
  have hl : lv_has ls 2 [(0, .ref (h 0)), (1, .int x)] := hl
  refine lv_iload_n hx hb dX1_isPoint_0 rfl (lv_at hl 1 rfl) ?_
  refine lv_if_lt (tgt := 16) hx hb dX1_isPoint_1 (by decide) (fun c1 => ?_) (fun c1 => ?_)
  · -- 1 t lt 
    refine lv_iconst (v := 0) hx hb dX1_isPoint_16 (by decide) ?_
    exact ret_z hx hb hr hlocks hK hP hD hS dX1_isPoint_17 () rfl (by decide) (Or.inr ⟨rfl, fun q => q.1 c1⟩)
  · -- 1 f lt 
    refine lv_iload_n hx hb dX1_isPoint_4 rfl (lv_at hl 1 rfl) ?_
    refine lv_aload_n hx hb dX1_isPoint_5 rfl (lv_at hl 0 rfl) ?_
    refine rf_g_pn hx hb hts hin hown hK hP (by decide +kernel) dX1_isPoint_6 ?_
    refine lv_icmp_ge (tgt := 16) hx hb dX1_isPoint_9 (by decide) (fun c9 => ?_) (fun c9 => ?_)
    · -- 9 t ge 
      refine lv_iconst (v := 0) hx hb dX1_isPoint_16 (by decide) ?_
      exact ret_z hx hb hr hlocks hK hP hD hS dX1_isPoint_17 () rfl (by decide) (Or.inr ⟨rfl, fun q => q.2 c9⟩)
    · -- 9 f ge 
      refine lv_iconst (v := 1) hx hb dX1_isPoint_12 (by decide) ?_
      refine lv_goto (tgt := 17) hx hb dX1_isPoint_13 (by decide) ?_
      exact ret_z hx hb hr hlocks hK hP hD hS dX1_isPoint_17 () rfl (by decide) (Or.inl ⟨rfl, c1, c9⟩)

abbrev rr_isVariable : Room := { frames := 0, cells := 0, slots := 0, locals := 0 }
theorem ri_isVariable : ∀ w ∈ u_ws RX1 TX1 14, w ∈ wsX1_isVariable := by decide +kernel
set_option maxHeartbeats 4000000 in
set_option maxRecDepth 100000 in
theorem r_isVariable {l : Launch} {D : va_G} {h : Nat → Nat} {k : Nat → ClassId} {vc pn hg : Int32} {vP vO vG pD mV mF mM pX pY se pl : Nat → Int32} (x : Int32)  : ct l yX1_isVariable wsX1_isVariable rr_isVariable D vwCl (rfT k) [.ref (h 0), .int x] (rfW h k vc vP vO vG pn pD mV mF mM pX pY se pl hg) (qI D vwCl (rfT k) (fun (r : Int32) (u : Unit) => (r = 1 ∧ ¬ x < 0 ∧ ¬ vc ≤ x) ∨ (r = 0 ∧ ¬ (¬ x < 0 ∧ ¬ vc ≤ x))) (fun _ => rfW h k vc vP vO vG pn pD mV mF mM pX pY se pl hg)) 0 0 := by
  refine ct_of (cc := cX1_isVariable) (maxL := 2) (ret := some .boolean) (by decide) rfl (Nat.le_of_ble_eq_true rfl) ?_
  intro p e s m below meth c A ls hx hb hr hml hlocks hown hnm hts hA hK hP hD hS hl
  have hown : s.vm.findClass RX1 = some m.cls := hown
  have hin := ri_isVariable
  have hl : lv_has ls 2 [(0, .ref (h 0)), (1, .int x)] := hl
  refine lv_iload_n hx hb dX1_isVariable_0 rfl (lv_at hl 1 rfl) ?_
  refine lv_if_lt (tgt := 16) hx hb dX1_isVariable_1 (by decide) (fun c1 => ?_) (fun c1 => ?_)
  · -- 1 t lt 
    refine lv_iconst (v := 0) hx hb dX1_isVariable_16 (by decide) ?_
    exact ret_z hx hb hr hlocks hK hP hD hS dX1_isVariable_17 () rfl (by decide) (Or.inr ⟨rfl, fun q => q.1 c1⟩)
  · -- 1 f lt 
    refine lv_iload_n hx hb dX1_isVariable_4 rfl (lv_at hl 1 rfl) ?_
    refine lv_aload_n hx hb dX1_isVariable_5 rfl (lv_at hl 0 rfl) ?_
    refine rf_g_vc hx hb hts hin hown hK hP (by decide +kernel) dX1_isVariable_6 ?_
    refine lv_icmp_ge (tgt := 16) hx hb dX1_isVariable_9 (by decide) (fun c9 => ?_) (fun c9 => ?_)
    · -- 9 t ge 
      refine lv_iconst (v := 0) hx hb dX1_isVariable_16 (by decide) ?_
      exact ret_z hx hb hr hlocks hK hP hD hS dX1_isVariable_17 () rfl (by decide) (Or.inr ⟨rfl, fun q => q.2 c9⟩)
    · -- 9 f ge 
      refine lv_iconst (v := 1) hx hb dX1_isVariable_12 (by decide) ?_
      refine lv_goto (tgt := 17) hx hb dX1_isVariable_13 (by decide) ?_
      exact ret_z hx hb hr hlocks hK hP hD hS dX1_isVariable_17 () rfl (by decide) (Or.inl ⟨rfl, c1, c9⟩)

abbrev rr_variable : Room := { frames := 0, cells := 0, slots := 0, locals := 0 }
theorem ri_variable : ∀ w ∈ u_ws RX1 TX1 14, w ∈ wsX1_variable := by decide +kernel
set_option maxHeartbeats 4000000 in
set_option maxRecDepth 100000 in
theorem r_variable {l : Launch} {D : va_G} {h : Nat → Nat} {k : Nat → ClassId} {pn hg : Int32} {vP vO vG pD mV mF mM pX pY se pl : Nat → Int32} (nv : Nat) (x o gv : Int32) (hnv : nv ≤ 20) (ho : o = 0 ∨ o = 1) (hgv : gv = 0 ∨ gv = 1) : ct l yX1_variable wsX1_variable rr_variable D vwCl (rfT k) [.ref (h 0), .int x, .int o, .int gv] (rfW h k (nI nv) vP vO vG pn pD mV mF mM pX pY se pl hg) (qI D vwCl (rfT k) (fun (r : Int32) (u : Nat × (Nat → Int32) × (Nat → Int32) × (Nat → Int32)) => (r = -1 ∧ (x < 1 ∨ 8 < x ∨ ¬ nv < 20) ∧ u = (nv, vP, vO, vG)) ∨ (r = nI nv ∧ ¬ x < 1 ∧ ¬ 8 < x ∧ nv < 20 ∧ u = (nv + 1, upd vP nv x, upd vO nv o, upd vG nv gv))) (fun u => rfW h k (nI u.1) u.2.1 u.2.2.1 u.2.2.2 pn pD mV mF mM pX pY se pl hg)) 0 0 := by
  refine ct_of (cc := cX1_variable) (maxL := 4) (ret := some .int) (by decide) rfl (Nat.le_of_ble_eq_true rfl) ?_
  intro p e s m below meth c A ls hx hb hr hml hlocks hown hnm hts hA hK hP hD hS hl
  have hown : s.vm.findClass RX1 = some m.cls := hown
  have hin := ri_variable
  have hl : lv_has ls 4 [(0, .ref (h 0)), (1, .int x), (2, .int o), (3, .int gv)] := hl
  refine lv_iload_n hx hb dX1_variable_0 rfl (lv_at hl 1 rfl) ?_
  refine lv_iconst (v := 1) hx hb dX1_variable_1 (by decide) ?_
  refine lv_icmp_lt (tgt := 20) hx hb dX1_variable_2 (by decide) (fun c2 => ?_) (fun c2 => ?_)
  · -- 2 t lt 
    refine lv_iconst (v := (-1)) hx hb dX1_variable_20 (by decide) ?_
    exact ret_i hx hb hr hlocks hK hP hD hS dX1_variable_21 (nv, vP, vO, vG) rfl (Or.inl ⟨rfl, Or.inl c2, rfl⟩)
  · -- 2 f lt 
    refine lv_iload_n hx hb dX1_variable_5 rfl (lv_at hl 1 rfl) ?_
    refine lv_bipush (v := 8) hx hb dX1_variable_6 (by decide) ?_
    refine lv_icmp_gt (tgt := 20) hx hb dX1_variable_8 (by decide) (fun c8 => ?_) (fun c8 => ?_)
    · -- 8 t gt 
      refine lv_iconst (v := (-1)) hx hb dX1_variable_20 (by decide) ?_
      exact ret_i hx hb hr hlocks hK hP hD hS dX1_variable_21 (nv, vP, vO, vG) rfl (Or.inl ⟨rfl, Or.inr (Or.inl c8), rfl⟩)
    · -- 8 f gt 
      refine lv_aload_n hx hb dX1_variable_11 rfl (lv_at hl 0 rfl) ?_
      refine rf_g_vc hx hb hts hin hown hK hP (by decide +kernel) dX1_variable_12 ?_
      refine lv_bipush (v := 20) hx hb dX1_variable_15 (by decide) ?_
      refine lv_icmp_ne (tgt := 22) hx hb dX1_variable_17 (by decide) (fun c17 => ?_) (fun c17 => ?_)
      · -- 17 t ne 
        have n17 : nv < 20 := by
          have h17 : ¬ nv = 20 := fun q => c17 (by rw [q]; rfl)
          omega
        refine lv_aload_n hx hb dX1_variable_22 rfl (lv_at hl 0 rfl) ?_
        refine rf_g_vP hx hb hts hin hown hK hP (by decide +kernel) dX1_variable_23 ?_
        refine lv_aload_n hx hb dX1_variable_26 rfl (lv_at hl 0 rfl) ?_
        refine rf_g_vc hx hb hts hin hown hK hP (by decide +kernel) dX1_variable_27 ?_
        refine lv_iload_n hx hb dX1_variable_30 rfl (lv_at hl 1 rfl) ?_
        refine rf_s_vP (n := nv) (x := x) hx hb hK hP hD hS (by omega) dX1_variable_31 (fun H locs hP hD hS => ?_)
        refine lv_aload_n hx hb dX1_variable_32 rfl (lv_at hl 0 rfl) ?_
        refine rf_g_vO hx hb hts hin hown hK hP (by decide +kernel) dX1_variable_33 ?_
        refine lv_aload_n hx hb dX1_variable_36 rfl (lv_at hl 0 rfl) ?_
        refine rf_g_vc hx hb hts hin hown hK hP (by decide +kernel) dX1_variable_37 ?_
        refine lv_iload_n hx hb dX1_variable_40 rfl (lv_at hl 2 rfl) ?_
        refine rf_s_vO (n := nv) (x := o) hx hb hK hP hD hS (by omega) dX1_variable_41 (by rcases ho with z | z <;> rw [z] <;> decide) (fun H locs hP hD hS => ?_)
        refine lv_aload_n hx hb dX1_variable_42 rfl (lv_at hl 0 rfl) ?_
        refine rf_g_vG hx hb hts hin hown hK hP (by decide +kernel) dX1_variable_43 ?_
        refine lv_aload_n hx hb dX1_variable_46 rfl (lv_at hl 0 rfl) ?_
        refine rf_g_vc hx hb hts hin hown hK hP (by decide +kernel) dX1_variable_47 ?_
        refine lv_iload_n hx hb dX1_variable_50 rfl (lv_at hl 3 rfl) ?_
        refine rf_s_vG (n := nv) (x := gv) hx hb hK hP hD hS (by omega) dX1_variable_51 (by rcases hgv with z | z <;> rw [z] <;> decide) (fun H locs hP hD hS => ?_)
        refine lv_aload_n hx hb dX1_variable_52 rfl (lv_at hl 0 rfl) ?_
        refine lv_dup hx hb dX1_variable_53 rfl ?_
        refine rf_g_vc hx hb hts hin hown hK hP (by decide +kernel) dX1_variable_54 ?_
        refine lv_iconst (v := 1) hx hb dX1_variable_57 (by decide) ?_
        refine lv_iadd hx hb dX1_variable_58 ?_
        refine lv_topi (fun x_1 ex_1 => ?_)
        obtain rfl : x_1 = nI (nv + 1) := ex_1.trans (nI_add nv 1)
        refine rf_p_vc hx hb hts hin hown hK hP hD hS (by decide +kernel) dX1_variable_59 (fun H locs hP hD hS => ?_)
        refine lv_aload_n hx hb dX1_variable_62 rfl (lv_at hl 0 rfl) ?_
        refine rf_g_vc hx hb hts hin hown hK hP (by decide +kernel) dX1_variable_63 ?_
        refine lv_iconst (v := 1) hx hb dX1_variable_66 (by decide) ?_
        refine lv_isub hx hb dX1_variable_67 ?_
        refine lv_topi (fun x_2 ex_2 => ?_)
        obtain rfl : x_2 = nI nv := ex_2.trans (nI_pred nv)
        exact ret_i hx hb hr hlocks hK hP hD hS dX1_variable_68 (nv + 1, upd vP nv x, upd vO nv o, upd vG nv gv) rfl (Or.inr ⟨rfl, c2, c8, n17, rfl⟩)
      · -- 17 f ne 
        have n17 : ¬ nv < 20 := by
          have h17 : nv = 20 := (nI_eq (b := 20) (by omega) (by decide)).mp c17
          omega
        refine lv_iconst (v := (-1)) hx hb dX1_variable_20 (by decide) ?_
        exact ret_i hx hb hr hlocks hK hP hD hS dX1_variable_21 (nv, vP, vO, vG) rfl (Or.inl ⟨rfl, Or.inr (Or.inr n17), rfl⟩)

abbrev rr_point : Room := { frames := 1, cells := 0, slots := 0, locals := 21 }
theorem ri_point : ∀ w ∈ u_ws RX1 TX1 14, w ∈ wsX1_point := by decide +kernel
theorem rp_point_isVariable : cpV wsX1_point RX1 51 RX1 yX1_isVariable wsX1_isVariable cX1_isVariable 2 (some .boolean) 1 := ⟨gX1_point_X1_isVariable, ⟨_, rfl⟩, by decide +kernel⟩
set_option maxHeartbeats 4000000 in
set_option maxRecDepth 100000 in
theorem r_point {l : Launch} {D : va_G} {h : Nat → Nat} {k : Nat → ClassId} {hg : Int32} {vP vO vG pD mV mF mM pX pY se pl : Nat → Int32} (nv np : Nat) (d x a b : Int32) (hnv : nv ≤ 20) (hn : np ≤ 120) : ct l yX1_point wsX1_point rr_point D vwCl (rfT k) [.ref (h 0), .int d, .int x, .int a, .int b] (rfW h k (nI nv) vP vO vG (nI np) pD mV mF mM pX pY se pl hg) (qI D vwCl (rfT k) (fun (r : Int32) (u : Nat × (Nat → Int32) × (Nat → Int32) × (Nat → Int32) × (Nat → Int32) × (Nat → Int32) × (Nat → Int32)) => (r = -1 ∧ ¬ rOK nv np vP d x a b ∧ u = (np, pD, mV, mF, mM, pX, pY)) ∨ (r = nI np ∧ rOK nv np vP d x a b ∧ u = (np + 1, upd pD np d, upd mV np (if d = 0 then -1 else x), upd mF np (if 4 ≤ d then 0 else a), upd mM np (if d = 0 then 0 else if 4 ≤ d then vP (tN x) else b), upd pX np (nI (np + 1)), upd pY np (-1)))) (fun u => rfW h k (nI nv) vP vO vG (nI u.1) u.2.1 u.2.2.1 u.2.2.2.1 u.2.2.2.2.1 u.2.2.2.2.2.1 u.2.2.2.2.2.2 se pl hg)) 0 0 := by
  refine ct_of (cc := cX1_point) (maxL := 6) (ret := some .int) (by decide) rfl (Nat.le_of_ble_eq_true rfl) ?_
  intro p e s m below meth c A ls hx hb hr hml hlocks hown hnm hts hA hK hP hD hS hl
  have hown : s.vm.findClass RX1 = some m.cls := hown
  have hin := ri_point
  have hl : lv_has ls 6 [(0, .ref (h 0)), (1, .int d), (2, .int x), (3, .int a), (4, .int b)] := hl
  refine lv_iload_n hx hb dX1_point_0 rfl (lv_at hl 1 rfl) ?_
  refine lv_if_lt (tgt := 34) hx hb dX1_point_1 (by decide) (fun c1 => ?_) (fun c1 => ?_)
  · -- 1 t lt 
    refine lv_iconst (v := 0) hx hb dX1_point_34 (by decide) ?_
    refine lv_istore (lv' := [(5, .int 0), (0, .ref (h 0)), (1, .int d), (2, .int x), (3, .int a), (4, .int b)]) hx hb dX1_point_35 hl (by decide) rfl (fun ls hl => ?_)
    refine lv_iload hx hb dX1_point_37 (lv_at hl 0 rfl) ?_
    refine lv_if_eq (tgt := 92) hx hb dX1_point_39 (by decide) (fun c39 => ?_) (fun c39 => ?_)
    · -- 39 t eq 
      refine lv_iconst (v := 0) hx hb dX1_point_92 (by decide) ?_
      refine lv_istore (lv' := [(5, .int 0), (0, .ref (h 0)), (1, .int d), (2, .int x), (3, .int a), (4, .int b)]) hx hb dX1_point_93 hl (by decide) rfl (fun ls hl => ?_)
      refine lv_iload hx hb dX1_point_95 (lv_at hl 0 rfl) ?_
      refine lv_if_ne (tgt := 102) hx hb dX1_point_97 (by decide) (fun c97 => ?_) (fun c97 => ?_)
      · -- 97 t ne 
        exact absurd (by decide) c97
      · -- 97 f ne 
        refine lv_iconst (v := (-1)) hx hb dX1_point_100 (by decide) ?_
        exact ret_i hx hb hr hlocks hK hP hD hS dX1_point_101 (np, pD, mV, mF, mM, pX, pY) rfl (Or.inl ⟨rfl, fun q => q.1 c1, rfl⟩)
    · -- 39 f eq 
      exact absurd (by decide) c39
  · -- 1 f lt 
    refine lv_iload_n hx hb dX1_point_4 rfl (lv_at hl 1 rfl) ?_
    refine lv_iconst (v := 5) hx hb dX1_point_5 (by decide) ?_
    refine lv_icmp_gt (tgt := 34) hx hb dX1_point_6 (by decide) (fun c6 => ?_) (fun c6 => ?_)
    · -- 6 t gt 
      refine lv_iconst (v := 0) hx hb dX1_point_34 (by decide) ?_
      refine lv_istore (lv' := [(5, .int 0), (0, .ref (h 0)), (1, .int d), (2, .int x), (3, .int a), (4, .int b)]) hx hb dX1_point_35 hl (by decide) rfl (fun ls hl => ?_)
      refine lv_iload hx hb dX1_point_37 (lv_at hl 0 rfl) ?_
      refine lv_if_eq (tgt := 92) hx hb dX1_point_39 (by decide) (fun c39 => ?_) (fun c39 => ?_)
      · -- 39 t eq 
        refine lv_iconst (v := 0) hx hb dX1_point_92 (by decide) ?_
        refine lv_istore (lv' := [(5, .int 0), (0, .ref (h 0)), (1, .int d), (2, .int x), (3, .int a), (4, .int b)]) hx hb dX1_point_93 hl (by decide) rfl (fun ls hl => ?_)
        refine lv_iload hx hb dX1_point_95 (lv_at hl 0 rfl) ?_
        refine lv_if_ne (tgt := 102) hx hb dX1_point_97 (by decide) (fun c97 => ?_) (fun c97 => ?_)
        · -- 97 t ne 
          exact absurd (by decide) c97
        · -- 97 f ne 
          refine lv_iconst (v := (-1)) hx hb dX1_point_100 (by decide) ?_
          exact ret_i hx hb hr hlocks hK hP hD hS dX1_point_101 (np, pD, mV, mF, mM, pX, pY) rfl (Or.inl ⟨rfl, fun q => q.2.1 c6, rfl⟩)
      · -- 39 f eq 
        exact absurd (by decide) c39
    · -- 6 f gt 
      refine lv_aload_n hx hb dX1_point_9 rfl (lv_at hl 0 rfl) ?_
      refine rf_g_pn hx hb hts hin hown hK hP (by decide +kernel) dX1_point_10 ?_
      refine lv_bipush (v := 120) hx hb dX1_point_13 (by decide) ?_
      refine lv_icmp_ge (tgt := 34) hx hb dX1_point_15 (by decide) (fun c15 => ?_) (fun c15 => ?_)
      · -- 15 t ge 
        have n15 : ¬ np < 120 := by
          have h15 : 120 ≤ np := (nI_leI (a := 120) (by decide) (by omega)).mp c15
          omega
        refine lv_iconst (v := 0) hx hb dX1_point_34 (by decide) ?_
        refine lv_istore (lv' := [(5, .int 0), (0, .ref (h 0)), (1, .int d), (2, .int x), (3, .int a), (4, .int b)]) hx hb dX1_point_35 hl (by decide) rfl (fun ls hl => ?_)
        refine lv_iload hx hb dX1_point_37 (lv_at hl 0 rfl) ?_
        refine lv_if_eq (tgt := 92) hx hb dX1_point_39 (by decide) (fun c39 => ?_) (fun c39 => ?_)
        · -- 39 t eq 
          refine lv_iconst (v := 0) hx hb dX1_point_92 (by decide) ?_
          refine lv_istore (lv' := [(5, .int 0), (0, .ref (h 0)), (1, .int d), (2, .int x), (3, .int a), (4, .int b)]) hx hb dX1_point_93 hl (by decide) rfl (fun ls hl => ?_)
          refine lv_iload hx hb dX1_point_95 (lv_at hl 0 rfl) ?_
          refine lv_if_ne (tgt := 102) hx hb dX1_point_97 (by decide) (fun c97 => ?_) (fun c97 => ?_)
          · -- 97 t ne 
            exact absurd (by decide) c97
          · -- 97 f ne 
            refine lv_iconst (v := (-1)) hx hb dX1_point_100 (by decide) ?_
            exact ret_i hx hb hr hlocks hK hP hD hS dX1_point_101 (np, pD, mV, mF, mM, pX, pY) rfl (Or.inl ⟨rfl, fun q => n15 q.2.2.1, rfl⟩)
        · -- 39 f eq 
          exact absurd (by decide) c39
      · -- 15 f ge 
        have n15 : np < 120 := by
          have h15 : ¬ 120 ≤ np := fun q => c15 ((nI_leI (a := 120) (by decide) (by omega)).mpr q)
          omega
        refine lv_iload_n hx hb dX1_point_18 rfl (lv_at hl 1 rfl) ?_
        refine lv_if_eq (tgt := 30) hx hb dX1_point_19 (by decide) (fun c19 => ?_) (fun c19 => ?_)
        · -- 19 t eq 
          subst c19
          refine lv_iconst (v := 1) hx hb dX1_point_30 (by decide) ?_
          refine lv_goto (tgt := 35) hx hb dX1_point_31 (by decide) ?_
          refine lv_istore (lv' := [(5, .int 1), (0, .ref (h 0)), (1, .int 0), (2, .int x), (3, .int a), (4, .int b)]) hx hb dX1_point_35 hl (by decide) rfl (fun ls hl => ?_)
          refine lv_iload hx hb dX1_point_37 (lv_at hl 0 rfl) ?_
          refine lv_if_eq (tgt := 92) hx hb dX1_point_39 (by decide) (fun c39 => ?_) (fun c39 => ?_)
          · -- 39 t eq 
            exact absurd c39 (by decide)
          · -- 39 f eq 
            refine lv_iload_n hx hb dX1_point_42 rfl (lv_at hl 2 rfl) ?_
            refine lv_iconst (v := 1) hx hb dX1_point_43 (by decide) ?_
            refine lv_icmp_lt (tgt := 88) hx hb dX1_point_44 (by decide) (fun c44 => ?_) (fun c44 => ?_)
            · -- 44 t lt 
              refine lv_iconst (v := 1) hx hb dX1_point_88 (by decide) ?_
              refine lv_goto (tgt := 93) hx hb dX1_point_89 (by decide) ?_
              refine lv_istore (lv' := [(5, .int 1), (0, .ref (h 0)), (1, .int 0), (2, .int x), (3, .int a), (4, .int b)]) hx hb dX1_point_93 hl (by decide) rfl (fun ls hl => ?_)
              refine lv_iload hx hb dX1_point_95 (lv_at hl 0 rfl) ?_
              refine lv_if_ne (tgt := 102) hx hb dX1_point_97 (by decide) (fun c97 => ?_) (fun c97 => ?_)
              · -- 97 t ne 
                have hok : rOK nv np vP 0 x a b := ⟨c1, c6, n15, Or.inl rfl⟩
                refine lv_aload_n hx hb dX1_point_102 rfl (lv_at hl 1 rfl) ?_
                refine rf_g_pD hx hb hts hin hown hK hP (by decide +kernel) dX1_point_103 ?_
                refine lv_aload_n hx hb dX1_point_106 rfl (lv_at hl 1 rfl) ?_
                refine rf_g_pn hx hb hts hin hown hK hP (by decide +kernel) dX1_point_107 ?_
                refine lv_iload_n hx hb dX1_point_110 rfl (lv_at hl 2 rfl) ?_
                refine rf_s_pD (n := np) (x := 0) hx hb hK hP hD hS (by omega) dX1_point_111 (fun H locs hP hD hS => ?_)
                refine lv_aload_n hx hb dX1_point_112 rfl (lv_at hl 1 rfl) ?_
                refine rf_g_mV hx hb hts hin hown hK hP (by decide +kernel) dX1_point_113 ?_
                refine lv_aload_n hx hb dX1_point_116 rfl (lv_at hl 1 rfl) ?_
                refine rf_g_pn hx hb hts hin hown hK hP (by decide +kernel) dX1_point_117 ?_
                refine lv_iload_n hx hb dX1_point_120 rfl (lv_at hl 2 rfl) ?_
                refine lv_if_ne (tgt := 128) hx hb dX1_point_121 (by decide) (fun c121 => ?_) (fun c121 => ?_)
                · -- 121 t ne 
                  exact absurd (by decide) c121
                · -- 121 f ne 
                  refine lv_iconst (v := (-1)) hx hb dX1_point_124 (by decide) ?_
                  refine lv_goto (tgt := 129) hx hb dX1_point_125 (by decide) ?_
                  refine rf_s_mV (n := np) (x := (-1)) hx hb hK hP hD hS (by omega) dX1_point_129 (fun H locs hP hD hS => ?_)
                  refine lv_aload_n hx hb dX1_point_130 rfl (lv_at hl 1 rfl) ?_
                  refine rf_g_mF hx hb hts hin hown hK hP (by decide +kernel) dX1_point_131 ?_
                  refine lv_aload_n hx hb dX1_point_134 rfl (lv_at hl 1 rfl) ?_
                  refine rf_g_pn hx hb hts hin hown hK hP (by decide +kernel) dX1_point_135 ?_
                  refine lv_iload_n hx hb dX1_point_138 rfl (lv_at hl 2 rfl) ?_
                  refine lv_iconst (v := 4) hx hb dX1_point_139 (by decide) ?_
                  refine lv_icmp_ge (tgt := 147) hx hb dX1_point_140 (by decide) (fun c140 => ?_) (fun c140 => ?_)
                  · -- 140 t ge 
                    exact absurd c140 (by decide)
                  · -- 140 f ge 
                    refine lv_iload_n hx hb dX1_point_143 rfl (lv_at hl 4 rfl) ?_
                    refine lv_goto (tgt := 148) hx hb dX1_point_144 (by decide) ?_
                    refine rf_s_mF (n := np) (x := a) hx hb hK hP hD hS (by omega) dX1_point_148 (fun H locs hP hD hS => ?_)
                    refine lv_aload_n hx hb dX1_point_149 rfl (lv_at hl 1 rfl) ?_
                    refine rf_g_mM hx hb hts hin hown hK hP (by decide +kernel) dX1_point_150 ?_
                    refine lv_aload_n hx hb dX1_point_153 rfl (lv_at hl 1 rfl) ?_
                    refine rf_g_pn hx hb hts hin hown hK hP (by decide +kernel) dX1_point_154 ?_
                    refine lv_iload_n hx hb dX1_point_157 rfl (lv_at hl 2 rfl) ?_
                    refine lv_if_ne (tgt := 165) hx hb dX1_point_158 (by decide) (fun c158 => ?_) (fun c158 => ?_)
                    · -- 158 t ne 
                      exact absurd (by decide) c158
                    · -- 158 f ne 
                      refine lv_iconst (v := 0) hx hb dX1_point_161 (by decide) ?_
                      refine lv_goto (tgt := 181) hx hb dX1_point_162 (by decide) ?_
                      refine rf_s_mM (n := np) (x := 0) hx hb hK hP hD hS (by omega) dX1_point_181 (fun H locs hP hD hS => ?_)
                      refine lv_aload_n hx hb dX1_point_182 rfl (lv_at hl 1 rfl) ?_
                      refine rf_g_pX hx hb hts hin hown hK hP (by decide +kernel) dX1_point_183 ?_
                      refine lv_aload_n hx hb dX1_point_186 rfl (lv_at hl 1 rfl) ?_
                      refine rf_g_pn hx hb hts hin hown hK hP (by decide +kernel) dX1_point_187 ?_
                      refine lv_aload_n hx hb dX1_point_190 rfl (lv_at hl 1 rfl) ?_
                      refine rf_g_pn hx hb hts hin hown hK hP (by decide +kernel) dX1_point_191 ?_
                      refine lv_iconst (v := 1) hx hb dX1_point_194 (by decide) ?_
                      refine lv_iadd hx hb dX1_point_195 ?_
                      refine lv_topi (fun x_1 ex_1 => ?_)
                      obtain rfl : x_1 = nI (np + 1) := ex_1.trans (nI_add np 1)
                      refine rf_s_pX (n := np) (x := nI (np + 1)) hx hb hK hP hD hS (by omega) dX1_point_196 (fun H locs hP hD hS => ?_)
                      refine lv_aload_n hx hb dX1_point_197 rfl (lv_at hl 1 rfl) ?_
                      refine rf_g_pY hx hb hts hin hown hK hP (by decide +kernel) dX1_point_198 ?_
                      refine lv_aload_n hx hb dX1_point_201 rfl (lv_at hl 1 rfl) ?_
                      refine rf_g_pn hx hb hts hin hown hK hP (by decide +kernel) dX1_point_202 ?_
                      refine lv_iconst (v := (-1)) hx hb dX1_point_205 (by decide) ?_
                      refine rf_s_pY (n := np) (x := (-1)) hx hb hK hP hD hS (by omega) dX1_point_206 (fun H locs hP hD hS => ?_)
                      refine lv_aload_n hx hb dX1_point_207 rfl (lv_at hl 1 rfl) ?_
                      refine lv_dup hx hb dX1_point_208 rfl ?_
                      refine rf_g_pn hx hb hts hin hown hK hP (by decide +kernel) dX1_point_209 ?_
                      refine lv_iconst (v := 1) hx hb dX1_point_212 (by decide) ?_
                      refine lv_iadd hx hb dX1_point_213 ?_
                      refine lv_topi (fun x_2 ex_2 => ?_)
                      obtain rfl : x_2 = nI (np + 1) := ex_2.trans (nI_add np 1)
                      refine rf_p_pn hx hb hts hin hown hK hP hD hS (by decide +kernel) dX1_point_214 (fun H locs hP hD hS => ?_)
                      refine lv_aload_n hx hb dX1_point_217 rfl (lv_at hl 1 rfl) ?_
                      refine rf_g_pn hx hb hts hin hown hK hP (by decide +kernel) dX1_point_218 ?_
                      refine lv_iconst (v := 1) hx hb dX1_point_221 (by decide) ?_
                      refine lv_isub hx hb dX1_point_222 ?_
                      refine lv_topi (fun x_3 ex_3 => ?_)
                      obtain rfl : x_3 = nI np := ex_3.trans (nI_pred np)
                      exact ret_i hx hb hr hlocks hK hP hD hS dX1_point_223 (np + 1, upd pD np 0, upd mV np (-1), upd mF np a, upd mM np 0, upd pX np (nI (np + 1)), upd pY np (-1)) rfl (Or.inr ⟨rfl, hok, by simp []⟩)
              · -- 97 f ne 
                exact absurd c97 (by decide)
            · -- 44 f lt 
              exact absurd (by decide) c44
        · -- 19 f eq 
          refine lv_aload_n hx hb dX1_point_22 rfl (lv_at hl 0 rfl) ?_
          refine lv_iload_n hx hb dX1_point_23 rfl (lv_at hl 2 rfl) ?_
          refine call_vi (As := [.int x]) (rest := []) ⟨hx, hb, hml, hown, hts⟩ (r_isVariable x) rp_point_isVariable ⟨rfl, rfl⟩ ⟨Nat.le_of_ble_eq_true rfl, Nat.le_of_ble_eq_true rfl⟩ rfl rfl 0 rfl rfl hl.1 rfl (Nat.le_of_ble_eq_true rfl) dX1_point_24 ⟨Nat.zero_le _, Nat.zero_le _⟩ hK hP hD hS hA (fun r24 u H locs p24 hP hD hS => ?_)
          try dsimp only at p24
          refine lv_if_eq (tgt := 34) hx hb dX1_point_27 (by decide) (fun c27 => ?_) (fun c27 => ?_)
          · -- 27 t eq 
            refine lv_iconst (v := 0) hx hb dX1_point_34 (by decide) ?_
            refine lv_istore (lv' := [(5, .int 0), (0, .ref (h 0)), (1, .int d), (2, .int x), (3, .int a), (4, .int b)]) hx hb dX1_point_35 hl (by decide) rfl (fun ls hl => ?_)
            refine lv_iload hx hb dX1_point_37 (lv_at hl 0 rfl) ?_
            refine lv_if_eq (tgt := 92) hx hb dX1_point_39 (by decide) (fun c39 => ?_) (fun c39 => ?_)
            · -- 39 t eq 
              refine lv_iconst (v := 0) hx hb dX1_point_92 (by decide) ?_
              refine lv_istore (lv' := [(5, .int 0), (0, .ref (h 0)), (1, .int d), (2, .int x), (3, .int a), (4, .int b)]) hx hb dX1_point_93 hl (by decide) rfl (fun ls hl => ?_)
              refine lv_iload hx hb dX1_point_95 (lv_at hl 0 rfl) ?_
              refine lv_if_ne (tgt := 102) hx hb dX1_point_97 (by decide) (fun c97 => ?_) (fun c97 => ?_)
              · -- 97 t ne 
                exact absurd (by decide) c97
              · -- 97 f ne 
                refine lv_iconst (v := (-1)) hx hb dX1_point_100 (by decide) ?_
                exact ret_i hx hb hr hlocks hK hP hD hS dX1_point_101 (np, pD, mV, mF, mM, pX, pY) rfl (Or.inl ⟨rfl, fun q => q.2.2.2.elim c19 (fun z => yn_no p24 c27 z.1), rfl⟩)
            · -- 39 f eq 
              exact absurd (by decide) c39
          · -- 27 f eq 
            obtain ⟨v, hv, rfl⟩ := pt_in rfl (by omega) p24 c27
            have hv31 : v < 2 ^ 31 := by omega
            refine lv_iconst (v := 1) hx hb dX1_point_30 (by decide) ?_
            refine lv_goto (tgt := 35) hx hb dX1_point_31 (by decide) ?_
            refine lv_istore (lv' := [(5, .int 1), (0, .ref (h 0)), (1, .int d), (2, .int (nI v)), (3, .int a), (4, .int b)]) hx hb dX1_point_35 hl (by decide) rfl (fun ls hl => ?_)
            refine lv_iload hx hb dX1_point_37 (lv_at hl 0 rfl) ?_
            refine lv_if_eq (tgt := 92) hx hb dX1_point_39 (by decide) (fun c39 => ?_) (fun c39 => ?_)
            · -- 39 t eq 
              exact absurd c39 (by decide)
            · -- 39 f eq 
              refine lv_iload_n hx hb dX1_point_42 rfl (lv_at hl 2 rfl) ?_
              refine lv_iconst (v := 1) hx hb dX1_point_43 (by decide) ?_
              refine lv_icmp_lt (tgt := 88) hx hb dX1_point_44 (by decide) (fun c44 => ?_) (fun c44 => ?_)
              · -- 44 t lt 
                exact absurd c44 (lt1_of c1 c19)
              · -- 44 f lt 
                refine lv_iload_n hx hb dX1_point_47 rfl (lv_at hl 2 rfl) ?_
                refine lv_iconst (v := 3) hx hb dX1_point_48 (by decide) ?_
                refine lv_icmp_gt (tgt := 88) hx hb dX1_point_49 (by decide) (fun c49 => ?_) (fun c49 => ?_)
                · -- 49 t gt 
                  refine lv_iconst (v := 1) hx hb dX1_point_88 (by decide) ?_
                  refine lv_goto (tgt := 93) hx hb dX1_point_89 (by decide) ?_
                  refine lv_istore (lv' := [(5, .int 1), (0, .ref (h 0)), (1, .int d), (2, .int (nI v)), (3, .int a), (4, .int b)]) hx hb dX1_point_93 hl (by decide) rfl (fun ls hl => ?_)
                  refine lv_iload hx hb dX1_point_95 (lv_at hl 0 rfl) ?_
                  refine lv_if_ne (tgt := 102) hx hb dX1_point_97 (by decide) (fun c97 => ?_) (fun c97 => ?_)
                  · -- 97 t ne 
                    have hok : rOK nv np vP d (nI v) a b := ⟨c1, c6, n15, Or.inr ⟨yn_yes p24 c27, Or.inr (Or.inl c49)⟩⟩
                    have hd0 : ¬ d = 0 := c19
                    have hd4 : 4 ≤ d := ge4_of c49
                    refine lv_aload_n hx hb dX1_point_102 rfl (lv_at hl 1 rfl) ?_
                    refine rf_g_pD hx hb hts hin hown hK hP (by decide +kernel) dX1_point_103 ?_
                    refine lv_aload_n hx hb dX1_point_106 rfl (lv_at hl 1 rfl) ?_
                    refine rf_g_pn hx hb hts hin hown hK hP (by decide +kernel) dX1_point_107 ?_
                    refine lv_iload_n hx hb dX1_point_110 rfl (lv_at hl 2 rfl) ?_
                    refine rf_s_pD (n := np) (x := d) hx hb hK hP hD hS (by omega) dX1_point_111 (fun H locs hP hD hS => ?_)
                    refine lv_aload_n hx hb dX1_point_112 rfl (lv_at hl 1 rfl) ?_
                    refine rf_g_mV hx hb hts hin hown hK hP (by decide +kernel) dX1_point_113 ?_
                    refine lv_aload_n hx hb dX1_point_116 rfl (lv_at hl 1 rfl) ?_
                    refine rf_g_pn hx hb hts hin hown hK hP (by decide +kernel) dX1_point_117 ?_
                    refine lv_iload_n hx hb dX1_point_120 rfl (lv_at hl 2 rfl) ?_
                    refine lv_if_ne (tgt := 128) hx hb dX1_point_121 (by decide) (fun c121 => ?_) (fun c121 => ?_)
                    · -- 121 t ne 
                      refine lv_iload_n hx hb dX1_point_128 rfl (lv_at hl 3 rfl) ?_
                      refine rf_s_mV (n := np) (x := nI v) hx hb hK hP hD hS (by omega) dX1_point_129 (fun H locs hP hD hS => ?_)
                      refine lv_aload_n hx hb dX1_point_130 rfl (lv_at hl 1 rfl) ?_
                      refine rf_g_mF hx hb hts hin hown hK hP (by decide +kernel) dX1_point_131 ?_
                      refine lv_aload_n hx hb dX1_point_134 rfl (lv_at hl 1 rfl) ?_
                      refine rf_g_pn hx hb hts hin hown hK hP (by decide +kernel) dX1_point_135 ?_
                      refine lv_iload_n hx hb dX1_point_138 rfl (lv_at hl 2 rfl) ?_
                      refine lv_iconst (v := 4) hx hb dX1_point_139 (by decide) ?_
                      refine lv_icmp_ge (tgt := 147) hx hb dX1_point_140 (by decide) (fun c140 => ?_) (fun c140 => ?_)
                      · -- 140 t ge 
                        refine lv_iconst (v := 0) hx hb dX1_point_147 (by decide) ?_
                        refine rf_s_mF (n := np) (x := 0) hx hb hK hP hD hS (by omega) dX1_point_148 (fun H locs hP hD hS => ?_)
                        refine lv_aload_n hx hb dX1_point_149 rfl (lv_at hl 1 rfl) ?_
                        refine rf_g_mM hx hb hts hin hown hK hP (by decide +kernel) dX1_point_150 ?_
                        refine lv_aload_n hx hb dX1_point_153 rfl (lv_at hl 1 rfl) ?_
                        refine rf_g_pn hx hb hts hin hown hK hP (by decide +kernel) dX1_point_154 ?_
                        refine lv_iload_n hx hb dX1_point_157 rfl (lv_at hl 2 rfl) ?_
                        refine lv_if_ne (tgt := 165) hx hb dX1_point_158 (by decide) (fun c158 => ?_) (fun c158 => ?_)
                        · -- 158 t ne 
                          refine lv_iload_n hx hb dX1_point_165 rfl (lv_at hl 2 rfl) ?_
                          refine lv_iconst (v := 4) hx hb dX1_point_166 (by decide) ?_
                          refine lv_icmp_ge (tgt := 175) hx hb dX1_point_167 (by decide) (fun c167 => ?_) (fun c167 => ?_)
                          · -- 167 t ge 
                            refine lv_aload_n hx hb dX1_point_175 rfl (lv_at hl 1 rfl) ?_
                            refine rf_g_vP hx hb hts hin hown hK hP (by decide +kernel) dX1_point_176 ?_
                            refine lv_iload_n hx hb dX1_point_179 rfl (lv_at hl 3 rfl) ?_
                            refine rf_l_vP (n := v) hx hb hK hP (by omega) dX1_point_180 ?_
                            refine rf_s_mM (n := np) (x := vP v) hx hb hK hP hD hS (by omega) dX1_point_181 (fun H locs hP hD hS => ?_)
                            refine lv_aload_n hx hb dX1_point_182 rfl (lv_at hl 1 rfl) ?_
                            refine rf_g_pX hx hb hts hin hown hK hP (by decide +kernel) dX1_point_183 ?_
                            refine lv_aload_n hx hb dX1_point_186 rfl (lv_at hl 1 rfl) ?_
                            refine rf_g_pn hx hb hts hin hown hK hP (by decide +kernel) dX1_point_187 ?_
                            refine lv_aload_n hx hb dX1_point_190 rfl (lv_at hl 1 rfl) ?_
                            refine rf_g_pn hx hb hts hin hown hK hP (by decide +kernel) dX1_point_191 ?_
                            refine lv_iconst (v := 1) hx hb dX1_point_194 (by decide) ?_
                            refine lv_iadd hx hb dX1_point_195 ?_
                            refine lv_topi (fun x_4 ex_4 => ?_)
                            obtain rfl : x_4 = nI (np + 1) := ex_4.trans (nI_add np 1)
                            refine rf_s_pX (n := np) (x := nI (np + 1)) hx hb hK hP hD hS (by omega) dX1_point_196 (fun H locs hP hD hS => ?_)
                            refine lv_aload_n hx hb dX1_point_197 rfl (lv_at hl 1 rfl) ?_
                            refine rf_g_pY hx hb hts hin hown hK hP (by decide +kernel) dX1_point_198 ?_
                            refine lv_aload_n hx hb dX1_point_201 rfl (lv_at hl 1 rfl) ?_
                            refine rf_g_pn hx hb hts hin hown hK hP (by decide +kernel) dX1_point_202 ?_
                            refine lv_iconst (v := (-1)) hx hb dX1_point_205 (by decide) ?_
                            refine rf_s_pY (n := np) (x := (-1)) hx hb hK hP hD hS (by omega) dX1_point_206 (fun H locs hP hD hS => ?_)
                            refine lv_aload_n hx hb dX1_point_207 rfl (lv_at hl 1 rfl) ?_
                            refine lv_dup hx hb dX1_point_208 rfl ?_
                            refine rf_g_pn hx hb hts hin hown hK hP (by decide +kernel) dX1_point_209 ?_
                            refine lv_iconst (v := 1) hx hb dX1_point_212 (by decide) ?_
                            refine lv_iadd hx hb dX1_point_213 ?_
                            refine lv_topi (fun x_5 ex_5 => ?_)
                            obtain rfl : x_5 = nI (np + 1) := ex_5.trans (nI_add np 1)
                            refine rf_p_pn hx hb hts hin hown hK hP hD hS (by decide +kernel) dX1_point_214 (fun H locs hP hD hS => ?_)
                            refine lv_aload_n hx hb dX1_point_217 rfl (lv_at hl 1 rfl) ?_
                            refine rf_g_pn hx hb hts hin hown hK hP (by decide +kernel) dX1_point_218 ?_
                            refine lv_iconst (v := 1) hx hb dX1_point_221 (by decide) ?_
                            refine lv_isub hx hb dX1_point_222 ?_
                            refine lv_topi (fun x_6 ex_6 => ?_)
                            obtain rfl : x_6 = nI np := ex_6.trans (nI_pred np)
                            exact ret_i hx hb hr hlocks hK hP hD hS dX1_point_223 (np + 1, upd pD np d, upd mV np (nI v), upd mF np 0, upd mM np (vP v), upd pX np (nI (np + 1)), upd pY np (-1)) rfl (Or.inr ⟨rfl, hok, by simp [hd0, hd4, tN_nI hv31]⟩)
                          · -- 167 f ge 
                            exact absurd hd4 c167
                        · -- 158 f ne 
                          exact absurd c158 hd0
                      · -- 140 f ge 
                        exact absurd hd4 c140
                    · -- 121 f ne 
                      exact absurd c121 hd0
                  · -- 97 f ne 
                    exact absurd c97 (by decide)
                · -- 49 f gt 
                  refine lv_iload_n hx hb dX1_point_52 rfl (lv_at hl 4 rfl) ?_
                  refine lv_if_lt (tgt := 92) hx hb dX1_point_53 (by decide) (fun c53 => ?_) (fun c53 => ?_)
                  · -- 53 t lt 
                    refine lv_iconst (v := 0) hx hb dX1_point_92 (by decide) ?_
                    refine lv_istore (lv' := [(5, .int 0), (0, .ref (h 0)), (1, .int d), (2, .int (nI v)), (3, .int a), (4, .int b)]) hx hb dX1_point_93 hl (by decide) rfl (fun ls hl => ?_)
                    refine lv_iload hx hb dX1_point_95 (lv_at hl 0 rfl) ?_
                    refine lv_if_ne (tgt := 102) hx hb dX1_point_97 (by decide) (fun c97 => ?_) (fun c97 => ?_)
                    · -- 97 t ne 
                      exact absurd (by decide) c97
                    · -- 97 f ne 
                      refine lv_iconst (v := (-1)) hx hb dX1_point_100 (by decide) ?_
                      exact ret_i hx hb hr hlocks hK hP hD hS dX1_point_101 (np, pD, mV, mF, mM, pX, pY) rfl (Or.inl ⟨rfl, fun q => q.2.2.2.elim c19 (fun z => z.2.elim c44 (fun z => z.elim c49 (fun z => z.1 c53))), rfl⟩)
                  · -- 53 f lt 
                    refine lv_iload hx hb dX1_point_56 (lv_at hl 5 rfl) ?_
                    refine lv_iconst (v := 1) hx hb dX1_point_58 (by decide) ?_
                    refine lv_icmp_lt (tgt := 92) hx hb dX1_point_59 (by decide) (fun c59 => ?_) (fun c59 => ?_)
                    · -- 59 t lt 
                      refine lv_iconst (v := 0) hx hb dX1_point_92 (by decide) ?_
                      refine lv_istore (lv' := [(5, .int 0), (0, .ref (h 0)), (1, .int d), (2, .int (nI v)), (3, .int a), (4, .int b)]) hx hb dX1_point_93 hl (by decide) rfl (fun ls hl => ?_)
                      refine lv_iload hx hb dX1_point_95 (lv_at hl 0 rfl) ?_
                      refine lv_if_ne (tgt := 102) hx hb dX1_point_97 (by decide) (fun c97 => ?_) (fun c97 => ?_)
                      · -- 97 t ne 
                        exact absurd (by decide) c97
                      · -- 97 f ne 
                        refine lv_iconst (v := (-1)) hx hb dX1_point_100 (by decide) ?_
                        exact ret_i hx hb hr hlocks hK hP hD hS dX1_point_101 (np, pD, mV, mF, mM, pX, pY) rfl (Or.inl ⟨rfl, fun q => q.2.2.2.elim c19 (fun z => z.2.elim c44 (fun z => z.elim c49 (fun z => z.2.1 c59))), rfl⟩)
                    · -- 59 f lt 
                      refine lv_iload_n hx hb dX1_point_62 rfl (lv_at hl 4 rfl) ?_
                      refine lv_bipush (v := 8) hx hb dX1_point_63 (by decide) ?_
                      refine lv_icmp_ge (tgt := 92) hx hb dX1_point_65 (by decide) (fun c65 => ?_) (fun c65 => ?_)
                      · -- 65 t ge 
                        refine lv_iconst (v := 0) hx hb dX1_point_92 (by decide) ?_
                        refine lv_istore (lv' := [(5, .int 0), (0, .ref (h 0)), (1, .int d), (2, .int (nI v)), (3, .int a), (4, .int b)]) hx hb dX1_point_93 hl (by decide) rfl (fun ls hl => ?_)
                        refine lv_iload hx hb dX1_point_95 (lv_at hl 0 rfl) ?_
                        refine lv_if_ne (tgt := 102) hx hb dX1_point_97 (by decide) (fun c97 => ?_) (fun c97 => ?_)
                        · -- 97 t ne 
                          exact absurd (by decide) c97
                        · -- 97 f ne 
                          refine lv_iconst (v := (-1)) hx hb dX1_point_100 (by decide) ?_
                          exact ret_i hx hb hr hlocks hK hP hD hS dX1_point_101 (np, pD, mV, mF, mM, pX, pY) rfl (Or.inl ⟨rfl, fun q => q.2.2.2.elim c19 (fun z => z.2.elim c44 (fun z => z.elim c49 (fun z => z.2.2.1 c65))), rfl⟩)
                      · -- 65 f ge 
                        refine lv_iload hx hb dX1_point_68 (lv_at hl 5 rfl) ?_
                        refine lv_bipush (v := 8) hx hb dX1_point_70 (by decide) ?_
                        refine lv_icmp_gt (tgt := 92) hx hb dX1_point_72 (by decide) (fun c72 => ?_) (fun c72 => ?_)
                        · -- 72 t gt 
                          refine lv_iconst (v := 0) hx hb dX1_point_92 (by decide) ?_
                          refine lv_istore (lv' := [(5, .int 0), (0, .ref (h 0)), (1, .int d), (2, .int (nI v)), (3, .int a), (4, .int b)]) hx hb dX1_point_93 hl (by decide) rfl (fun ls hl => ?_)
                          refine lv_iload hx hb dX1_point_95 (lv_at hl 0 rfl) ?_
                          refine lv_if_ne (tgt := 102) hx hb dX1_point_97 (by decide) (fun c97 => ?_) (fun c97 => ?_)
                          · -- 97 t ne 
                            exact absurd (by decide) c97
                          · -- 97 f ne 
                            refine lv_iconst (v := (-1)) hx hb dX1_point_100 (by decide) ?_
                            exact ret_i hx hb hr hlocks hK hP hD hS dX1_point_101 (np, pD, mV, mF, mM, pX, pY) rfl (Or.inl ⟨rfl, fun q => q.2.2.2.elim c19 (fun z => z.2.elim c44 (fun z => z.elim c49 (fun z => z.2.2.2.1 c72))), rfl⟩)
                        · -- 72 f gt 
                          refine lv_iload_n hx hb dX1_point_75 rfl (lv_at hl 4 rfl) ?_
                          refine lv_iload hx hb dX1_point_76 (lv_at hl 5 rfl) ?_
                          refine lv_iadd hx hb dX1_point_78 ?_
                          refine lv_aload_n hx hb dX1_point_79 rfl (lv_at hl 1 rfl) ?_
                          refine rf_g_vP hx hb hts hin hown hK hP (by decide +kernel) dX1_point_80 ?_
                          refine lv_iload_n hx hb dX1_point_83 rfl (lv_at hl 3 rfl) ?_
                          refine rf_l_vP (n := v) hx hb hK hP (by omega) dX1_point_84 ?_
                          refine lv_icmp_gt (tgt := 92) hx hb dX1_point_85 (by decide) (fun c85 => ?_) (fun c85 => ?_)
                          · -- 85 t gt 
                            refine lv_iconst (v := 0) hx hb dX1_point_92 (by decide) ?_
                            refine lv_istore (lv' := [(5, .int 0), (0, .ref (h 0)), (1, .int d), (2, .int (nI v)), (3, .int a), (4, .int b)]) hx hb dX1_point_93 hl (by decide) rfl (fun ls hl => ?_)
                            refine lv_iload hx hb dX1_point_95 (lv_at hl 0 rfl) ?_
                            refine lv_if_ne (tgt := 102) hx hb dX1_point_97 (by decide) (fun c97 => ?_) (fun c97 => ?_)
                            · -- 97 t ne 
                              exact absurd (by decide) c97
                            · -- 97 f ne 
                              refine lv_iconst (v := (-1)) hx hb dX1_point_100 (by decide) ?_
                              exact ret_i hx hb hr hlocks hK hP hD hS dX1_point_101 (np, pD, mV, mF, mM, pX, pY) rfl (Or.inl ⟨rfl, fun q => q.2.2.2.elim c19 (fun z => z.2.elim c44 (fun z => z.elim c49 (fun z => z.2.2.2.2 (by rw [tN_nI hv31]; exact c85)))), rfl⟩)
                          · -- 85 f gt 
                            refine lv_iconst (v := 1) hx hb dX1_point_88 (by decide) ?_
                            refine lv_goto (tgt := 93) hx hb dX1_point_89 (by decide) ?_
                            refine lv_istore (lv' := [(5, .int 1), (0, .ref (h 0)), (1, .int d), (2, .int (nI v)), (3, .int a), (4, .int b)]) hx hb dX1_point_93 hl (by decide) rfl (fun ls hl => ?_)
                            refine lv_iload hx hb dX1_point_95 (lv_at hl 0 rfl) ?_
                            refine lv_if_ne (tgt := 102) hx hb dX1_point_97 (by decide) (fun c97 => ?_) (fun c97 => ?_)
                            · -- 97 t ne 
                              have hok : rOK nv np vP d (nI v) a b := ⟨c1, c6, n15, Or.inr ⟨yn_yes p24 c27, Or.inr (Or.inr ⟨c53, c59, c65, c72, by rw [tN_nI hv31]; exact c85⟩)⟩⟩
                              have hd0 : ¬ d = 0 := c19
                              have hd4 : ¬ 4 ≤ d := nge4_of c49
                              refine lv_aload_n hx hb dX1_point_102 rfl (lv_at hl 1 rfl) ?_
                              refine rf_g_pD hx hb hts hin hown hK hP (by decide +kernel) dX1_point_103 ?_
                              refine lv_aload_n hx hb dX1_point_106 rfl (lv_at hl 1 rfl) ?_
                              refine rf_g_pn hx hb hts hin hown hK hP (by decide +kernel) dX1_point_107 ?_
                              refine lv_iload_n hx hb dX1_point_110 rfl (lv_at hl 2 rfl) ?_
                              refine rf_s_pD (n := np) (x := d) hx hb hK hP hD hS (by omega) dX1_point_111 (fun H locs hP hD hS => ?_)
                              refine lv_aload_n hx hb dX1_point_112 rfl (lv_at hl 1 rfl) ?_
                              refine rf_g_mV hx hb hts hin hown hK hP (by decide +kernel) dX1_point_113 ?_
                              refine lv_aload_n hx hb dX1_point_116 rfl (lv_at hl 1 rfl) ?_
                              refine rf_g_pn hx hb hts hin hown hK hP (by decide +kernel) dX1_point_117 ?_
                              refine lv_iload_n hx hb dX1_point_120 rfl (lv_at hl 2 rfl) ?_
                              refine lv_if_ne (tgt := 128) hx hb dX1_point_121 (by decide) (fun c121 => ?_) (fun c121 => ?_)
                              · -- 121 t ne 
                                refine lv_iload_n hx hb dX1_point_128 rfl (lv_at hl 3 rfl) ?_
                                refine rf_s_mV (n := np) (x := nI v) hx hb hK hP hD hS (by omega) dX1_point_129 (fun H locs hP hD hS => ?_)
                                refine lv_aload_n hx hb dX1_point_130 rfl (lv_at hl 1 rfl) ?_
                                refine rf_g_mF hx hb hts hin hown hK hP (by decide +kernel) dX1_point_131 ?_
                                refine lv_aload_n hx hb dX1_point_134 rfl (lv_at hl 1 rfl) ?_
                                refine rf_g_pn hx hb hts hin hown hK hP (by decide +kernel) dX1_point_135 ?_
                                refine lv_iload_n hx hb dX1_point_138 rfl (lv_at hl 2 rfl) ?_
                                refine lv_iconst (v := 4) hx hb dX1_point_139 (by decide) ?_
                                refine lv_icmp_ge (tgt := 147) hx hb dX1_point_140 (by decide) (fun c140 => ?_) (fun c140 => ?_)
                                · -- 140 t ge 
                                  exact absurd c140 hd4
                                · -- 140 f ge 
                                  refine lv_iload_n hx hb dX1_point_143 rfl (lv_at hl 4 rfl) ?_
                                  refine lv_goto (tgt := 148) hx hb dX1_point_144 (by decide) ?_
                                  refine rf_s_mF (n := np) (x := a) hx hb hK hP hD hS (by omega) dX1_point_148 (fun H locs hP hD hS => ?_)
                                  refine lv_aload_n hx hb dX1_point_149 rfl (lv_at hl 1 rfl) ?_
                                  refine rf_g_mM hx hb hts hin hown hK hP (by decide +kernel) dX1_point_150 ?_
                                  refine lv_aload_n hx hb dX1_point_153 rfl (lv_at hl 1 rfl) ?_
                                  refine rf_g_pn hx hb hts hin hown hK hP (by decide +kernel) dX1_point_154 ?_
                                  refine lv_iload_n hx hb dX1_point_157 rfl (lv_at hl 2 rfl) ?_
                                  refine lv_if_ne (tgt := 165) hx hb dX1_point_158 (by decide) (fun c158 => ?_) (fun c158 => ?_)
                                  · -- 158 t ne 
                                    refine lv_iload_n hx hb dX1_point_165 rfl (lv_at hl 2 rfl) ?_
                                    refine lv_iconst (v := 4) hx hb dX1_point_166 (by decide) ?_
                                    refine lv_icmp_ge (tgt := 175) hx hb dX1_point_167 (by decide) (fun c167 => ?_) (fun c167 => ?_)
                                    · -- 167 t ge 
                                      exact absurd c167 hd4
                                    · -- 167 f ge 
                                      refine lv_iload hx hb dX1_point_170 (lv_at hl 5 rfl) ?_
                                      refine lv_goto (tgt := 181) hx hb dX1_point_172 (by decide) ?_
                                      refine rf_s_mM (n := np) (x := b) hx hb hK hP hD hS (by omega) dX1_point_181 (fun H locs hP hD hS => ?_)
                                      refine lv_aload_n hx hb dX1_point_182 rfl (lv_at hl 1 rfl) ?_
                                      refine rf_g_pX hx hb hts hin hown hK hP (by decide +kernel) dX1_point_183 ?_
                                      refine lv_aload_n hx hb dX1_point_186 rfl (lv_at hl 1 rfl) ?_
                                      refine rf_g_pn hx hb hts hin hown hK hP (by decide +kernel) dX1_point_187 ?_
                                      refine lv_aload_n hx hb dX1_point_190 rfl (lv_at hl 1 rfl) ?_
                                      refine rf_g_pn hx hb hts hin hown hK hP (by decide +kernel) dX1_point_191 ?_
                                      refine lv_iconst (v := 1) hx hb dX1_point_194 (by decide) ?_
                                      refine lv_iadd hx hb dX1_point_195 ?_
                                      refine lv_topi (fun x_7 ex_7 => ?_)
                                      obtain rfl : x_7 = nI (np + 1) := ex_7.trans (nI_add np 1)
                                      refine rf_s_pX (n := np) (x := nI (np + 1)) hx hb hK hP hD hS (by omega) dX1_point_196 (fun H locs hP hD hS => ?_)
                                      refine lv_aload_n hx hb dX1_point_197 rfl (lv_at hl 1 rfl) ?_
                                      refine rf_g_pY hx hb hts hin hown hK hP (by decide +kernel) dX1_point_198 ?_
                                      refine lv_aload_n hx hb dX1_point_201 rfl (lv_at hl 1 rfl) ?_
                                      refine rf_g_pn hx hb hts hin hown hK hP (by decide +kernel) dX1_point_202 ?_
                                      refine lv_iconst (v := (-1)) hx hb dX1_point_205 (by decide) ?_
                                      refine rf_s_pY (n := np) (x := (-1)) hx hb hK hP hD hS (by omega) dX1_point_206 (fun H locs hP hD hS => ?_)
                                      refine lv_aload_n hx hb dX1_point_207 rfl (lv_at hl 1 rfl) ?_
                                      refine lv_dup hx hb dX1_point_208 rfl ?_
                                      refine rf_g_pn hx hb hts hin hown hK hP (by decide +kernel) dX1_point_209 ?_
                                      refine lv_iconst (v := 1) hx hb dX1_point_212 (by decide) ?_
                                      refine lv_iadd hx hb dX1_point_213 ?_
                                      refine lv_topi (fun x_8 ex_8 => ?_)
                                      obtain rfl : x_8 = nI (np + 1) := ex_8.trans (nI_add np 1)
                                      refine rf_p_pn hx hb hts hin hown hK hP hD hS (by decide +kernel) dX1_point_214 (fun H locs hP hD hS => ?_)
                                      refine lv_aload_n hx hb dX1_point_217 rfl (lv_at hl 1 rfl) ?_
                                      refine rf_g_pn hx hb hts hin hown hK hP (by decide +kernel) dX1_point_218 ?_
                                      refine lv_iconst (v := 1) hx hb dX1_point_221 (by decide) ?_
                                      refine lv_isub hx hb dX1_point_222 ?_
                                      refine lv_topi (fun x_9 ex_9 => ?_)
                                      obtain rfl : x_9 = nI np := ex_9.trans (nI_pred np)
                                      exact ret_i hx hb hr hlocks hK hP hD hS dX1_point_223 (np + 1, upd pD np d, upd mV np (nI v), upd mF np a, upd mM np b, upd pX np (nI (np + 1)), upd pY np (-1)) rfl (Or.inr ⟨rfl, hok, by simp [hd0, hd4, tN_nI hv31]⟩)
                                  · -- 158 f ne 
                                    exact absurd c158 hd0
                              · -- 121 f ne 
                                exact absurd c121 hd0
                            · -- 97 f ne 
                              exact absurd c97 (by decide)

abbrev rr_next : Room := { frames := 1, cells := 0, slots := 0, locals := 21 }
theorem ri_next : ∀ w ∈ u_ws RX1 TX1 14, w ∈ wsX1_next := by decide +kernel
theorem rp_next_isPoint : cpV wsX1_next RX1 55 RX1 yX1_isPoint wsX1_isPoint cX1_isPoint 2 (some .boolean) 1 := ⟨gX1_next_X1_isPoint, ⟨_, rfl⟩, by decide +kernel⟩
set_option maxHeartbeats 4000000 in
set_option maxRecDepth 100000 in
theorem r_next {l : Launch} {D : va_G} {h : Nat → Nat} {k : Nat → ClassId} {vc hg : Int32} {vP vO vG pD mV mF mM pX pY se pl : Nat → Int32} (np : Nat) (x y z : Int32) (hn : np ≤ 120) : ct l yX1_next wsX1_next rr_next D vwCl (rfT k) [.ref (h 0), .int x, .int y, .int z] (rfW h k vc vP vO vG (nI np) pD mV mF mM pX pY se pl hg) (qI D vwCl (rfT k) (fun (r : Int32) (u : (Nat → Int32) × (Nat → Int32)) => (r = 0 ∧ ((∀ j, j < np → ¬ x = nI j) ∨ ¬ cbn y ∨ ¬ cbn z) ∧ u = (pX, pY)) ∨ (r = 1 ∧ ∃ j, j < np ∧ x = nI j ∧ cbn y ∧ cbn z ∧ u = (upd pX j y, upd pY j z))) (fun u => rfW h k vc vP vO vG (nI np) pD mV mF mM u.1 u.2 se pl hg)) 0 0 := by
  refine ct_of (cc := cX1_next) (maxL := 4) (ret := some .boolean) (by decide) rfl (Nat.le_of_ble_eq_true rfl) ?_
  intro p e s m below meth c A ls hx hb hr hml hlocks hown hnm hts hA hK hP hD hS hl
  have hown : s.vm.findClass RX1 = some m.cls := hown
  have hin := ri_next
  have hl : lv_has ls 4 [(0, .ref (h 0)), (1, .int x), (2, .int y), (3, .int z)] := hl
  refine lv_aload_n hx hb dX1_next_0 rfl (lv_at hl 0 rfl) ?_
  refine lv_iload_n hx hb dX1_next_1 rfl (lv_at hl 1 rfl) ?_
  refine call_vi (As := [.int x]) (rest := []) ⟨hx, hb, hml, hown, hts⟩ (r_isPoint x) rp_next_isPoint ⟨rfl, rfl⟩ ⟨Nat.le_of_ble_eq_true rfl, Nat.le_of_ble_eq_true rfl⟩ rfl rfl 0 rfl rfl hl.1 rfl (Nat.le_of_ble_eq_true rfl) dX1_next_2 ⟨Nat.zero_le _, Nat.zero_le _⟩ hK hP hD hS hA (fun r2 u H locs p2 hP hD hS => ?_)
  try dsimp only at p2
  refine lv_if_eq (tgt := 30) hx hb dX1_next_5 (by decide) (fun c5 => ?_) (fun c5 => ?_)
  · -- 5 t eq 
    refine lv_iconst (v := 0) hx hb dX1_next_30 (by decide) ?_
    exact ret_z hx hb hr hlocks hK hP hD hS dX1_next_31 (pX, pY) rfl (by decide) (Or.inl ⟨rfl, Or.inl (pt_out rfl hn p2 c5), rfl⟩)
  · -- 5 f eq 
    obtain ⟨j, hj, rfl⟩ := pt_in rfl hn p2 c5
    refine lv_iload_n hx hb dX1_next_8 rfl (lv_at hl 2 rfl) ?_
    refine lv_iconst (v := (-1)) hx hb dX1_next_9 (by decide) ?_
    refine lv_icmp_lt (tgt := 30) hx hb dX1_next_10 (by decide) (fun c10 => ?_) (fun c10 => ?_)
    · -- 10 t lt 
      refine lv_iconst (v := 0) hx hb dX1_next_30 (by decide) ?_
      exact ret_z hx hb hr hlocks hK hP hD hS dX1_next_31 (pX, pY) rfl (by decide) (Or.inl ⟨rfl, Or.inr (Or.inl (fun q => q.1 c10)), rfl⟩)
    · -- 10 f lt 
      refine lv_iload_n hx hb dX1_next_13 rfl (lv_at hl 2 rfl) ?_
      refine lv_bipush (v := 120) hx hb dX1_next_14 (by decide) ?_
      refine lv_icmp_ge (tgt := 30) hx hb dX1_next_16 (by decide) (fun c16 => ?_) (fun c16 => ?_)
      · -- 16 t ge 
        refine lv_iconst (v := 0) hx hb dX1_next_30 (by decide) ?_
        exact ret_z hx hb hr hlocks hK hP hD hS dX1_next_31 (pX, pY) rfl (by decide) (Or.inl ⟨rfl, Or.inr (Or.inl (fun q => q.2 c16)), rfl⟩)
      · -- 16 f ge 
        refine lv_iload_n hx hb dX1_next_19 rfl (lv_at hl 3 rfl) ?_
        refine lv_iconst (v := (-1)) hx hb dX1_next_20 (by decide) ?_
        refine lv_icmp_lt (tgt := 30) hx hb dX1_next_21 (by decide) (fun c21 => ?_) (fun c21 => ?_)
        · -- 21 t lt 
          refine lv_iconst (v := 0) hx hb dX1_next_30 (by decide) ?_
          exact ret_z hx hb hr hlocks hK hP hD hS dX1_next_31 (pX, pY) rfl (by decide) (Or.inl ⟨rfl, Or.inr (Or.inr (fun q => q.1 c21)), rfl⟩)
        · -- 21 f lt 
          refine lv_iload_n hx hb dX1_next_24 rfl (lv_at hl 3 rfl) ?_
          refine lv_bipush (v := 120) hx hb dX1_next_25 (by decide) ?_
          refine lv_icmp_lt (tgt := 32) hx hb dX1_next_27 (by decide) (fun c27 => ?_) (fun c27 => ?_)
          · -- 27 t lt 
            refine lv_aload_n hx hb dX1_next_32 rfl (lv_at hl 0 rfl) ?_
            refine rf_g_pX hx hb hts hin hown hK hP (by decide +kernel) dX1_next_33 ?_
            refine lv_iload_n hx hb dX1_next_36 rfl (lv_at hl 1 rfl) ?_
            refine lv_iload_n hx hb dX1_next_37 rfl (lv_at hl 2 rfl) ?_
            refine rf_s_pX (n := j) (x := y) hx hb hK hP hD hS (by omega) dX1_next_38 (fun H locs hP hD hS => ?_)
            refine lv_aload_n hx hb dX1_next_39 rfl (lv_at hl 0 rfl) ?_
            refine rf_g_pY hx hb hts hin hown hK hP (by decide +kernel) dX1_next_40 ?_
            refine lv_iload_n hx hb dX1_next_43 rfl (lv_at hl 1 rfl) ?_
            refine lv_iload_n hx hb dX1_next_44 rfl (lv_at hl 3 rfl) ?_
            refine rf_s_pY (n := j) (x := z) hx hb hK hP hD hS (by omega) dX1_next_45 (fun H locs hP hD hS => ?_)
            refine lv_iconst (v := 1) hx hb dX1_next_46 (by decide) ?_
            exact ret_z hx hb hr hlocks hK hP hD hS dX1_next_47 (upd pX j y, upd pY j z) rfl (by decide) (Or.inr ⟨rfl, j, hj, rfl, ⟨c10, c16⟩, ⟨c21, nle_of_lt c27⟩, rfl⟩)
          · -- 27 f lt 
            refine lv_iconst (v := 0) hx hb dX1_next_30 (by decide) ?_
            exact ret_z hx hb hr hlocks hK hP hD hS dX1_next_31 (pX, pY) rfl (by decide) (Or.inl ⟨rfl, Or.inr (Or.inr (fun q => q.2 (le_of_nlt c27))), rfl⟩)

abbrev rr_clear : Room := { frames := 0, cells := 0, slots := 0, locals := 0 }
theorem ri_clear : ∀ w ∈ u_ws RX1 TX1 14, w ∈ wsX1_clear := by decide +kernel
set_option maxHeartbeats 4000000 in
set_option maxRecDepth 100000 in
theorem r_clear {l : Launch} {D : va_G} {h : Nat → Nat} {k : Nat → ClassId} {vc hg : Int32} {vP vO vG pD mV mF mM pX pY se pl : Nat → Int32} (np : Nat)  : ct l yX1_clear wsX1_clear rr_clear D vwCl (rfT k) [.ref (h 0)] (rfW h k vc vP vO vG (nI np) pD mV mF mM pX pY se pl hg) (qI D vwCl (rfT k) (fun (r : Int32) (u : Unit) => r = nI np) (fun u => rfW h k vc vP vO vG (nI 0) pD mV mF mM pX pY se pl hg)) 0 0 := by
  refine ct_of (cc := cX1_clear) (maxL := 2) (ret := some .int) (by decide) rfl (Nat.le_of_ble_eq_true rfl) ?_
  intro p e s m below meth c A ls hx hb hr hml hlocks hown hnm hts hA hK hP hD hS hl
  have hown : s.vm.findClass RX1 = some m.cls := hown
  have hin := ri_clear
  have hl : lv_has ls 2 [(0, .ref (h 0))] := hl
  refine lv_aload_n hx hb dX1_clear_0 rfl (lv_at hl 0 rfl) ?_
  refine rf_g_pn hx hb hts hin hown hK hP (by decide +kernel) dX1_clear_1 ?_
  refine lv_istore_n (lv' := [(1, .int (nI np)), (0, .ref (h 0))]) hx hb dX1_clear_4 rfl hl (by decide) rfl (fun ls hl => ?_)
  refine lv_aload_n hx hb dX1_clear_5 rfl (lv_at hl 1 rfl) ?_
  refine lv_iconst (v := nI 0) hx hb dX1_clear_6 (by decide) ?_
  refine rf_p_pn hx hb hts hin hown hK hP hD hS (by decide +kernel) dX1_clear_7 (fun H locs hP hD hS => ?_)
  refine lv_iload_n hx hb dX1_clear_10 rfl (lv_at hl 0 rfl) ?_
  exact ret_i hx hb hr hlocks hK hP hD hS dX1_clear_11 () rfl (rfl)
end
section
abbrev rr_come : Room := { frames := 1, cells := 0, slots := 0, locals := 21 }
theorem ri_come : ∀ w ∈ u_ws RX1 TX1 14, w ∈ wsX1_come := by decide +kernel
theorem rp_come_isPoint : cpV wsX1_come RX1 55 RX1 yX1_isPoint wsX1_isPoint cX1_isPoint 2 (some .boolean) 1 := ⟨gX1_come_X1_isPoint, ⟨_, rfl⟩, by decide +kernel⟩
set_option maxHeartbeats 4000000 in
set_option maxRecDepth 100000 in
theorem r_come {l : Launch} {D : va_G} {h : Nat → Nat} {k : Nat → ClassId} {vc : Int32} {vP vO vG pD mV mF mM pX pY se pl : Nat → Int32} (x : Int32) (np hN w : Nat) (hn : np ≤ 120) (hw : w < 2) (hroom : ∀ j, j < np → x = nI j → se (2 * j + w) = 0 → hN < 240) : ct l yX1_come wsX1_come rr_come D vwCl (rfT k) [.ref (h 0), .int x, .int (nI w)] (rfW h k vc vP vO vG (nI np) pD mV mF mM pX pY se pl (nI hN)) (qV D vwCl (rfT k) (fun (u : (Nat → Int32) × (Nat → Int32) × Nat) => Cm np x w se pl hN u.1 u.2.1 u.2.2) (fun u => rfW h k vc vP vO vG (nI np) pD mV mF mM pX pY u.1 u.2.1 (nI u.2.2))) 0 0 := by
  refine ct_of (cc := cX1_come) (maxL := 3) (ret := none) (by decide) rfl (Nat.le_of_ble_eq_true rfl) ?_
  intro p e s m below meth c A ls hx hb hr hml hlocks hown hnm hts hA hK hP hD hS hl
  have hown : s.vm.findClass RX1 = some m.cls := hown
  have hin := ri_come
  have hl : lv_has ls 3 [(0, .ref (h 0)), (1, .int x), (2, .int (nI w))] := hl
  refine lv_aload_n hx hb dX1_come_0 rfl (lv_at hl 0 rfl) ?_
  refine lv_iload_n hx hb dX1_come_1 rfl (lv_at hl 1 rfl) ?_
  refine call_vi (As := [.int x]) (rest := []) ⟨hx, hb, hml, hown, hts⟩ (r_isPoint x) rp_come_isPoint ⟨rfl, rfl⟩ ⟨Nat.le_of_ble_eq_true rfl, Nat.le_of_ble_eq_true rfl⟩ rfl rfl 0 rfl rfl hl.1 rfl (Nat.le_of_ble_eq_true rfl) dX1_come_2 ⟨Nat.zero_le _, Nat.zero_le _⟩ hK hP hD hS hA (fun r2 u H locs p2 hP hD hS => ?_)
  try dsimp only at p2
  refine lv_if_eq (tgt := 21) hx hb dX1_come_5 (by decide) (fun c5 => ?_) (fun c5 => ?_)
  · -- 5 t eq 
    exact ret_v hx hb hr hlocks hK hP hD hS dX1_come_21 (se, pl, hN) rfl (Or.inl ⟨Or.inl (pt_out rfl hn p2 c5), rfl, rfl, rfl⟩)
  · -- 5 f eq 
    obtain ⟨j, hj, rfl⟩ := pt_in rfl hn p2 c5
    refine lv_aload_n hx hb dX1_come_8 rfl (lv_at hl 0 rfl) ?_
    refine rf_g_se hx hb hts hin hown hK hP (by decide +kernel) dX1_come_9 ?_
    refine lv_iconst (v := 2) hx hb dX1_come_12 (by decide) ?_
    refine lv_iload_n hx hb dX1_come_13 rfl (lv_at hl 1 rfl) ?_
    refine lv_imul hx hb dX1_come_14 ?_
    refine lv_topi (fun x_1 ex_1 => ?_)
    obtain rfl : x_1 = nI (2 * j) := ex_1.trans (pk_mul 2 j)
    refine lv_iload_n hx hb dX1_come_15 rfl (lv_at hl 2 rfl) ?_
    refine lv_iadd hx hb dX1_come_16 ?_
    refine lv_topi (fun x_2 ex_2 => ?_)
    obtain rfl : x_2 = nI ((2 * j) + w) := ex_2.trans (nI_add (2 * j) w)
    refine rf_l_se (n := ((2 * j) + w)) hx hb hK hP (by omega) dX1_come_17 ?_
    refine lv_if_eq (tgt := 22) hx hb dX1_come_18 (by decide) (fun c18 => ?_) (fun c18 => ?_)
    · -- 18 t eq 
      have hh9 := hroom j hj rfl c18
      refine lv_aload_n hx hb dX1_come_22 rfl (lv_at hl 0 rfl) ?_
      refine rf_g_se hx hb hts hin hown hK hP (by decide +kernel) dX1_come_23 ?_
      refine lv_iconst (v := 2) hx hb dX1_come_26 (by decide) ?_
      refine lv_iload_n hx hb dX1_come_27 rfl (lv_at hl 1 rfl) ?_
      refine lv_imul hx hb dX1_come_28 ?_
      refine lv_topi (fun x_3 ex_3 => ?_)
      obtain rfl : x_3 = nI (2 * j) := ex_3.trans (pk_mul 2 j)
      refine lv_iload_n hx hb dX1_come_29 rfl (lv_at hl 2 rfl) ?_
      refine lv_iadd hx hb dX1_come_30 ?_
      refine lv_topi (fun x_4 ex_4 => ?_)
      obtain rfl : x_4 = nI ((2 * j) + w) := ex_4.trans (nI_add (2 * j) w)
      refine lv_iconst (v := 1) hx hb dX1_come_31 (by decide) ?_
      refine rf_s_se (n := ((2 * j) + w)) (x := 1) hx hb hK hP hD hS (by omega) dX1_come_32 (by decide) (fun H locs hP hD hS => ?_)
      refine lv_aload_n hx hb dX1_come_33 rfl (lv_at hl 0 rfl) ?_
      refine rf_g_pl hx hb hts hin hown hK hP (by decide +kernel) dX1_come_34 ?_
      refine lv_aload_n hx hb dX1_come_37 rfl (lv_at hl 0 rfl) ?_
      refine rf_g_hg hx hb hts hin hown hK hP (by decide +kernel) dX1_come_38 ?_
      refine lv_iconst (v := 2) hx hb dX1_come_41 (by decide) ?_
      refine lv_iload_n hx hb dX1_come_42 rfl (lv_at hl 1 rfl) ?_
      refine lv_imul hx hb dX1_come_43 ?_
      refine lv_topi (fun x_5 ex_5 => ?_)
      obtain rfl : x_5 = nI (2 * j) := ex_5.trans (pk_mul 2 j)
      refine lv_iload_n hx hb dX1_come_44 rfl (lv_at hl 2 rfl) ?_
      refine lv_iadd hx hb dX1_come_45 ?_
      refine lv_topi (fun x_6 ex_6 => ?_)
      obtain rfl : x_6 = nI ((2 * j) + w) := ex_6.trans (nI_add (2 * j) w)
      refine rf_s_pl (n := hN) (x := nI ((2 * j) + w)) hx hb hK hP hD hS (by omega) dX1_come_46 (fun H locs hP hD hS => ?_)
      refine lv_aload_n hx hb dX1_come_47 rfl (lv_at hl 0 rfl) ?_
      refine lv_dup hx hb dX1_come_48 rfl ?_
      refine rf_g_hg hx hb hts hin hown hK hP (by decide +kernel) dX1_come_49 ?_
      refine lv_iconst (v := 1) hx hb dX1_come_52 (by decide) ?_
      refine lv_iadd hx hb dX1_come_53 ?_
      refine lv_topi (fun x_7 ex_7 => ?_)
      obtain rfl : x_7 = nI (hN + 1) := ex_7.trans (nI_add hN 1)
      refine rf_p_hg hx hb hts hin hown hK hP hD hS (by decide +kernel) dX1_come_54 (fun H locs hP hD hS => ?_)
      exact ret_v hx hb hr hlocks hK hP hD hS dX1_come_57 (upd se (2 * j + w) 1, upd pl hN (nI (2 * j + w)), hN + 1) rfl (Or.inr ⟨j, hj, rfl, c18, rfl, rfl, rfl⟩)
    · -- 18 f eq 
      exact ret_v hx hb hr hlocks hK hP hD hS dX1_come_21 (se, pl, hN) rfl (Or.inl ⟨Or.inr ⟨j, hj, rfl, c18⟩, rfl, rfl, rfl⟩)

abbrev rr_go : Room := { frames := 2, cells := 0, slots := 0, locals := 43 }
theorem ri_go : ∀ w ∈ u_ws RX1 TX1 14, w ∈ wsX1_go := by decide +kernel
set_option maxHeartbeats 4000000 in
set_option maxRecDepth 100000 in
theorem lq_g1 {p : Program} {l : Launch} {e : Env} {s : State} {m : MethodId} {args : Array Value} {below : List Frame} {meth : Method} {c : Code} {A : Nat → Prop} {Q : State → Prop} {D : va_G} {h : Nat → Nat} {k : Nat → ClassId} {vc pn hg : Int32} {vP vO vG pD mV mF mM pX pY pl : Nat → Int32} {x : Int32} {q : Nat} (hx : p.tables.exec = Jvm.exec) (hb : c.code = cX1_go) (hml : c.maxLocals = 7) (hown : s.vm.findClass RX1 = some m.cls) (hts : ∀ w ∈ wsX1_go, w.before args s = true) (hA : ∀ q : Nat, s.heap.size ≤ q → A q) (hK : va_K D vwCl (rfT k) s) 
    (kk : ∀ (i : Nat) (se : Nat → Int32) (H : Heap) (locs : List Loc) (ls : Array Slot), (∀ k, k < 240 → se k = 0) → va_P D vwCl (rfW h k vc vP vO vG pn pD mV mF mM pX pY se pl hg) H → va_D A (rfW h k vc vP vO vG pn pD mV mF mM pX pY se pl hg) → va_S A s.heap H locs → lv_has ls 7 [(0, .ref (h 0)), (1, .int x), (2, .int (nI q)), (3, .int (nI i))] → W p l e rr_go s m args below meth c H locs 0 0 Q (F0 m 22 ls [])) :
    ∀ (n : Nat) (i : Nat) (se : Nat → Int32) (H : Heap) (locs : List Loc) (ls : Array Slot), (i ≤ 240) → (∀ k, k < i → se k = 0) → 240 - i < n → va_P D vwCl (rfW h k vc vP vO vG pn pD mV mF mM pX pY se pl hg) H → va_D A (rfW h k vc vP vO vG pn pD mV mF mM pX pY se pl hg) → va_S A s.heap H locs → lv_has ls 7 [(0, .ref (h 0)), (1, .int x), (2, .int (nI q)), (3, .int (nI i))] → W p l e rr_go s m args below meth c H locs 0 0 Q (F0 m 2 ls []) := by
  have hin := ri_go
  intro n
  induction n with
  | zero =>
    intro i se H locs ls hi hse hmz
    exact absurd hmz (Nat.not_lt_zero _)
  | succ n ih =>
    intro i se H locs ls hi hse hmz hP hD hS hl
    refine lv_iload_n hx hb dX1_go_2 rfl (lv_at hl 3 rfl) ?_
    refine lv_sipush (v := 240) hx hb dX1_go_3 (by decide) ?_
    refine lv_icmp_ge (tgt := 22) hx hb dX1_go_6 (by decide) (fun c6 => ?_) (fun c6 => ?_)
    · -- 6 t ge 
      have n6 : 240 ≤ i := (nI_leI (a := 240) (b := i) (by omega) (by omega)).mp c6
      exact kk i se H locs ls (fun k hk => hse k (by omega)) hP hD hS (lv_sub hl [0, 1, 2, 3] rfl)
    · -- 6 f ge 
      have n6 : ¬ 240 ≤ i := fun z => c6 ((nI_leI (a := 240) (b := i) (by omega) (by omega)).mpr z)
      refine lv_aload_n hx hb dX1_go_9 rfl (lv_at hl 0 rfl) ?_
      refine rf_g_se hx hb hts hin hown hK hP (by decide +kernel) dX1_go_10 ?_
      refine lv_iload_n hx hb dX1_go_13 rfl (lv_at hl 3 rfl) ?_
      refine lv_iconst (v := 0) hx hb dX1_go_14 (by decide) ?_
      refine rf_s_se (n := i) (x := 0) hx hb hK hP hD hS (by omega) dX1_go_15 (by decide) (fun H locs hP hD hS => ?_)
      refine lv_iinc (v := nI (i + 1)) (lv' := [(3, .int (nI (i + 1))), (0, .ref (h 0)), (1, .int x), (2, .int (nI q))]) hx hb dX1_go_16 hl (k := 3) rfl (nI_add i 1) (by decide) rfl (fun ls hl => ?_)
      refine lv_goto (tgt := 2) hx hb dX1_go_19 (by decide) ?_
      exact ih (i + 1) (upd se i 0) H locs ls (by omega) (zz_s hse) (by omega) hP hD hS (lv_sub hl [1, 2, 3, 0] rfl)

theorem rp_go_come : cpV wsX1_go RX1 61 RX1 yX1_come wsX1_come cX1_come 3 none 2 := ⟨gX1_go_X1_come, ⟨_, rfl⟩, by decide +kernel⟩
set_option maxHeartbeats 4000000 in
set_option maxRecDepth 100000 in
theorem lq_g2 {p : Program} {l : Launch} {e : Env} {s : State} {m : MethodId} {args : Array Value} {below : List Frame} {meth : Method} {c : Code} {A : Nat → Prop} {Q : State → Prop} {D : va_G} {h : Nat → Nat} {k : Nat → ClassId} {vP vO vG pD mV mF mM pX pY : Nat → Int32} {x : Int32} {q w0 nv np : Nat} (hx : p.tables.exec = Jvm.exec) (hb : c.code = cX1_go) (hml : c.maxLocals = 7) (hown : s.vm.findClass RX1 = some m.cls) (hts : ∀ w ∈ wsX1_go, w.before args s = true) (hA : ∀ q : Nat, s.heap.size ≤ q → A q) (hK : va_K D vwCl (rfT k) s) (hn : np ≤ 120)
    (kk : ∀ (hN : Nat) (se : Nat → Int32) (pl : Nat → Int32) (H : Heap) (locs : List Loc) (ls : Array Slot), (RvR nv np vG pD mV mF mM pX pY x q w0 se pl 0 (fun _ _ => False)) → va_P D vwCl (rfW h k (nI nv) vP vO vG (nI np) pD mV mF mM pX pY se pl (nI hN)) H → va_D A (rfW h k (nI nv) vP vO vG (nI np) pD mV mF mM pX pY se pl (nI hN)) → va_S A s.heap H locs → lv_has ls 7 [(0, .ref (h 0)), (1, .int x), (2, .int (nI q))] → W p l e rr_go s m args below meth c H locs 0 0 Q (F0 m 204 ls [])) :
    ∀ (n : Nat) (hN : Nat) (se : Nat → Int32) (pl : Nat → Int32) (H : Heap) (locs : List Loc) (ls : Array Slot), (RvR nv np vG pD mV mF mM pX pY x q w0 se pl hN (fun _ _ => False)) → 2 * (240 - cs se) + hN < n → va_P D vwCl (rfW h k (nI nv) vP vO vG (nI np) pD mV mF mM pX pY se pl (nI hN)) H → va_D A (rfW h k (nI nv) vP vO vG (nI np) pD mV mF mM pX pY se pl (nI hN)) → va_S A s.heap H locs → lv_has ls 7 [(0, .ref (h 0)), (1, .int x), (2, .int (nI q))] → W p l e rr_go s m args below meth c H locs 0 0 Q (F0 m 54 ls []) := by
  have hin := ri_go
  intro n
  induction n with
  | zero =>
    intro hN se pl H locs ls hRv hmz
    exact absurd hmz (Nat.not_lt_zero _)
  | succ n ih =>
    intro hN se pl H locs ls hRv hmz hP hD hS hl
    have hle240 := cs_le se
    have hNle : hN ≤ cs se := hRv.2.1
    refine lv_aload_n hx hb dX1_go_54 rfl (lv_at hl 0 rfl) ?_
    refine rf_g_hg hx hb hts hin hown hK hP (by decide +kernel) dX1_go_55 ?_
    refine lv_if_le (tgt := 204) hx hb dX1_go_58 (by decide) (fun c58 => ?_) (fun c58 => ?_)
    · -- 58 t le 
      have n58 : hN = 0 := by
        have h58 : hN ≤ 0 := (nI_leI (a := hN) (b := 0) (by omega) (by decide)).mp c58
        omega
      subst n58
      exact kk 0 se pl H locs ls (hRv) hP hD hS (lv_sub hl [0, 1, 2] rfl)
    · -- 58 f le 
      have n58 : 0 < hN := by
        rcases Nat.eq_zero_or_pos hN with z | z
        · subst z; exact absurd (Int32.le_refl 0) c58
        · exact z
      obtain ⟨p, w, hp, hw2, hpl, hsp, hRp⟩ := Rv_pop hn hRv n58
      have hMR := hRp.2.2.2.1 p w hp hw2 hsp
      refine lv_aload_n hx hb dX1_go_61 rfl (lv_at hl 0 rfl) ?_
      refine lv_dup hx hb dX1_go_62 rfl ?_
      refine rf_g_hg hx hb hts hin hown hK hP (by decide +kernel) dX1_go_63 ?_
      refine lv_iconst (v := 1) hx hb dX1_go_66 (by decide) ?_
      refine lv_isub hx hb dX1_go_67 ?_
      refine lv_topi (fun x_1 ex_1 => ?_)
      obtain rfl : x_1 = nI (hN - 1) := ex_1.trans (pk_sub (a := hN) (b := 1) (by omega))
      refine rf_p_hg hx hb hts hin hown hK hP hD hS (by decide +kernel) dX1_go_68 (fun H locs hP hD hS => ?_)
      refine lv_aload_n hx hb dX1_go_71 rfl (lv_at hl 0 rfl) ?_
      refine rf_g_pl hx hb hts hin hown hK hP (by decide +kernel) dX1_go_72 ?_
      refine lv_aload_n hx hb dX1_go_75 rfl (lv_at hl 0 rfl) ?_
      refine rf_g_hg hx hb hts hin hown hK hP (by decide +kernel) dX1_go_76 ?_
      refine rf_l_pl (n := (hN - 1)) hx hb hK hP (by omega) dX1_go_79 ?_
      refine lv_topi (fun x_2 ex_2 => ?_)
      obtain rfl : x_2 = nI (2 * p + w) := ex_2.trans (hpl)
      refine lv_iconst (v := 2) hx hb dX1_go_80 (by decide) ?_
      refine lv_idiv hx hb dX1_go_81 (by decide) ?_
      refine lv_topi (fun x_3 ex_3 => ?_)
      obtain rfl : x_3 = nI p := ex_3.trans ((pk_div (d := 2) (by omega) (by decide) (by decide)).trans (by rw [show (2 * p + w) / 2 = p by omega]))
      refine lv_istore_n (lv' := [(3, .int (nI p)), (0, .ref (h 0)), (1, .int x), (2, .int (nI q))]) hx hb dX1_go_82 rfl hl (by decide) rfl (fun ls hl => ?_)
      refine lv_aload_n hx hb dX1_go_83 rfl (lv_at hl 1 rfl) ?_
      refine rf_g_pl hx hb hts hin hown hK hP (by decide +kernel) dX1_go_84 ?_
      refine lv_aload_n hx hb dX1_go_87 rfl (lv_at hl 1 rfl) ?_
      refine rf_g_hg hx hb hts hin hown hK hP (by decide +kernel) dX1_go_88 ?_
      refine rf_l_pl (n := (hN - 1)) hx hb hK hP (by omega) dX1_go_91 ?_
      refine lv_topi (fun x_4 ex_4 => ?_)
      obtain rfl : x_4 = nI (2 * p + w) := ex_4.trans (hpl)
      refine lv_iconst (v := 2) hx hb dX1_go_92 (by decide) ?_
      refine lv_irem hx hb dX1_go_93 (by decide) ?_
      refine lv_topi (fun x_5 ex_5 => ?_)
      obtain rfl : x_5 = nI w := ex_5.trans ((pk_rem (d := 2) (by omega) (by decide) (by decide)).trans (by rw [show (2 * p + w) % 2 = w by omega]))
      refine lv_istore (lv' := [(4, .int (nI w)), (3, .int (nI p)), (0, .ref (h 0)), (1, .int x), (2, .int (nI q))]) hx hb dX1_go_94 hl (by decide) rfl (fun ls hl => ?_)
      refine lv_aload_n hx hb dX1_go_96 rfl (lv_at hl 2 rfl) ?_
      refine rf_g_mV hx hb hts hin hown hK hP (by decide +kernel) dX1_go_97 ?_
      refine lv_iload_n hx hb dX1_go_100 rfl (lv_at hl 1 rfl) ?_
      refine rf_l_mV (n := p) hx hb hK hP (by omega) dX1_go_101 ?_
      refine lv_iload_n hx hb dX1_go_102 rfl (lv_at hl 3 rfl) ?_
      refine lv_icmp_ne (tgt := 147) hx hb dX1_go_103 (by decide) (fun c103 => ?_) (fun c103 => ?_)
      · -- 103 t ne 
        refine lv_iconst (v := 0) hx hb dX1_go_147 (by decide) ?_
        refine lv_istore (lv' := [(5, .int 0), (4, .int (nI w)), (3, .int (nI p)), (0, .ref (h 0)), (1, .int x), (2, .int (nI q))]) hx hb dX1_go_148 hl (by decide) rfl (fun ls hl => ?_)
        refine lv_iload hx hb dX1_go_150 (lv_at hl 0 rfl) ?_
        refine lv_if_ne (tgt := 160) hx hb dX1_go_152 (by decide) (fun c152 => ?_) (fun c152 => ?_)
        · -- 152 t ne 
          exact absurd (by decide) c152
        · -- 152 f ne 
          refine lv_iload hx hb dX1_go_155 (lv_at hl 1 rfl) ?_
          refine lv_goto (tgt := 175) hx hb dX1_go_157 (by decide) ?_
          refine lv_istore (lv' := [(6, .int (nI w)), (5, .int 0), (4, .int (nI w)), (3, .int (nI p)), (0, .ref (h 0)), (1, .int x), (2, .int (nI q))]) hx hb dX1_go_175 hl (by decide) rfl (fun ls hl => ?_)
          have hTh : ThR pD mV mF mM x q p w w := Or.inr (Or.inr ⟨fun z => c103 z.1, rfl⟩)
          have hlt : w < 2 := ThR_lt hTh hw2
          refine lv_aload_n hx hb dX1_go_177 rfl (lv_at hl 4 rfl) ?_
          refine lv_aload_n hx hb dX1_go_178 rfl (lv_at hl 4 rfl) ?_
          refine rf_g_pX hx hb hts hin hown hK hP (by decide +kernel) dX1_go_179 ?_
          refine lv_iload_n hx hb dX1_go_182 rfl (lv_at hl 3 rfl) ?_
          refine rf_l_pX (n := p) hx hb hK hP (by omega) dX1_go_183 ?_
          refine lv_iload hx hb dX1_go_184 (lv_at hl 0 rfl) ?_
          refine call_vv (As := [.int (pX p), .int (nI w)]) (rest := []) ⟨hx, hb, hml, hown, hts⟩ (r_come (pX p) np (hN - 1) w hn hlt (fun j hj _ h0 => Rv_room (np := np) (E := ed pX pY np) (Th := ThR pD mV mF mM x q) (Pd := fun _ _ => True) (w0 := w0) (pl := pl) (X := fun _ _ => True) hRp.2.1 (i := 2 * j + w) (by omega) h0)) rp_go_come ⟨rfl, rfl⟩ ⟨Nat.le_of_ble_eq_true rfl, Nat.le_of_ble_eq_true rfl⟩ rfl rfl 0 rfl rfl hl.1 rfl (Nat.le_of_ble_eq_true rfl) dX1_go_186 ⟨Nat.zero_le _, Nat.zero_le _⟩ hK hP hD hS hA (fun u H locs p186 hP hD hS => ?_)
          obtain ⟨se_186, pl_186, hg_186⟩ := u
          have hP : va_P D vwCl (rfW h k (nI nv) vP vO vG (nI np) pD mV mF mM pX pY se_186 pl_186 (nI hg_186)) H := hP
          have hD : va_D A (rfW h k (nI nv) vP vO vG (nI np) pD mV mF mM pX pY se_186 pl_186 (nI hg_186)) := hD
          try dsimp only at p186
          have hR1 := Cm_step hn hlt (fun _ _ _ _ h1 h2 => ThR_lt h2 h1) hRp (fun j hj hxj => MR_st hMR ⟨Or.inl hxj, hj⟩ hTh) p186
          refine lv_aload_n hx hb dX1_go_189 rfl (lv_at hl 4 rfl) ?_
          refine lv_aload_n hx hb dX1_go_190 rfl (lv_at hl 4 rfl) ?_
          refine rf_g_pY hx hb hts hin hown hK hP (by decide +kernel) dX1_go_191 ?_
          refine lv_iload_n hx hb dX1_go_194 rfl (lv_at hl 3 rfl) ?_
          refine rf_l_pY (n := p) hx hb hK hP (by omega) dX1_go_195 ?_
          refine lv_iload hx hb dX1_go_196 (lv_at hl 0 rfl) ?_
          refine call_vv (As := [.int (pY p), .int (nI w)]) (rest := []) ⟨hx, hb, hml, hown, hts⟩ (r_come (pY p) np hg_186 w hn hlt (fun j hj _ h0 => Rv_room (np := np) (E := ed pX pY np) (Th := ThR pD mV mF mM x q) (Pd := fun _ _ => True) (w0 := w0) (pl := pl) (X := fun _ _ => True) hR1.1.2.1 (i := 2 * j + w) (by omega) h0)) rp_go_come ⟨rfl, rfl⟩ ⟨Nat.le_of_ble_eq_true rfl, Nat.le_of_ble_eq_true rfl⟩ rfl rfl 0 rfl rfl hl.1 rfl (Nat.le_of_ble_eq_true rfl) dX1_go_198 ⟨Nat.zero_le _, Nat.zero_le _⟩ hK hP hD hS hA (fun u H locs p198 hP hD hS => ?_)
          obtain ⟨se_198, pl_198, hg_198⟩ := u
          have hP : va_P D vwCl (rfW h k (nI nv) vP vO vG (nI np) pD mV mF mM pX pY se_198 pl_198 (nI hg_198)) H := hP
          have hD : va_D A (rfW h k (nI nv) vP vO vG (nI np) pD mV mF mM pX pY se_198 pl_198 (nI hg_198)) := hD
          try dsimp only at p198
          obtain ⟨hR9, hu9⟩ := Rv_it (Th := ThR pD mV mF mM x q) (Pd := fun p w => MR nv np vG pD mV mF mM pX pY x q w p) hn hp hlt (fun _ _ _ _ h1 h2 => ThR_lt h2 h1) (fun t h => ThR_fn h hTh) (fun j he => MR_st hMR he hTh) hRp p186 p198
          refine lv_goto (tgt := 54) hx hb dX1_go_201 (by decide) ?_
          exact ih hg_198 se_198 pl_198 H locs ls (hR9) (by omega) hP hD hS (lv_sub hl [4, 5, 6] rfl)
      · -- 103 f ne 
        refine lv_iload_n hx hb dX1_go_106 rfl (lv_at hl 4 rfl) ?_
        refine lv_aload_n hx hb dX1_go_107 rfl (lv_at hl 2 rfl) ?_
        refine rf_g_mF hx hb hts hin hown hK hP (by decide +kernel) dX1_go_108 ?_
        refine lv_iload_n hx hb dX1_go_111 rfl (lv_at hl 1 rfl) ?_
        refine rf_l_mF (n := p) hx hb hK hP (by omega) dX1_go_112 ?_
        refine lv_icmp_lt (tgt := 147) hx hb dX1_go_113 (by decide) (fun c113 => ?_) (fun c113 => ?_)
        · -- 113 t lt 
          refine lv_iconst (v := 0) hx hb dX1_go_147 (by decide) ?_
          refine lv_istore (lv' := [(5, .int 0), (4, .int (nI w)), (3, .int (nI p)), (0, .ref (h 0)), (1, .int x), (2, .int (nI q))]) hx hb dX1_go_148 hl (by decide) rfl (fun ls hl => ?_)
          refine lv_iload hx hb dX1_go_150 (lv_at hl 0 rfl) ?_
          refine lv_if_ne (tgt := 160) hx hb dX1_go_152 (by decide) (fun c152 => ?_) (fun c152 => ?_)
          · -- 152 t ne 
            exact absurd (by decide) c152
          · -- 152 f ne 
            refine lv_iload hx hb dX1_go_155 (lv_at hl 1 rfl) ?_
            refine lv_goto (tgt := 175) hx hb dX1_go_157 (by decide) ?_
            refine lv_istore (lv' := [(6, .int (nI w)), (5, .int 0), (4, .int (nI w)), (3, .int (nI p)), (0, .ref (h 0)), (1, .int x), (2, .int (nI q))]) hx hb dX1_go_175 hl (by decide) rfl (fun ls hl => ?_)
            have hTh : ThR pD mV mF mM x q p w w := Or.inr (Or.inr ⟨fun z => z.2.1 c113, rfl⟩)
            have hlt : w < 2 := ThR_lt hTh hw2
            refine lv_aload_n hx hb dX1_go_177 rfl (lv_at hl 4 rfl) ?_
            refine lv_aload_n hx hb dX1_go_178 rfl (lv_at hl 4 rfl) ?_
            refine rf_g_pX hx hb hts hin hown hK hP (by decide +kernel) dX1_go_179 ?_
            refine lv_iload_n hx hb dX1_go_182 rfl (lv_at hl 3 rfl) ?_
            refine rf_l_pX (n := p) hx hb hK hP (by omega) dX1_go_183 ?_
            refine lv_iload hx hb dX1_go_184 (lv_at hl 0 rfl) ?_
            refine call_vv (As := [.int (pX p), .int (nI w)]) (rest := []) ⟨hx, hb, hml, hown, hts⟩ (r_come (pX p) np (hN - 1) w hn hlt (fun j hj _ h0 => Rv_room (np := np) (E := ed pX pY np) (Th := ThR pD mV mF mM x q) (Pd := fun _ _ => True) (w0 := w0) (pl := pl) (X := fun _ _ => True) hRp.2.1 (i := 2 * j + w) (by omega) h0)) rp_go_come ⟨rfl, rfl⟩ ⟨Nat.le_of_ble_eq_true rfl, Nat.le_of_ble_eq_true rfl⟩ rfl rfl 0 rfl rfl hl.1 rfl (Nat.le_of_ble_eq_true rfl) dX1_go_186 ⟨Nat.zero_le _, Nat.zero_le _⟩ hK hP hD hS hA (fun u H locs p186 hP hD hS => ?_)
            obtain ⟨se_186, pl_186, hg_186⟩ := u
            have hP : va_P D vwCl (rfW h k (nI nv) vP vO vG (nI np) pD mV mF mM pX pY se_186 pl_186 (nI hg_186)) H := hP
            have hD : va_D A (rfW h k (nI nv) vP vO vG (nI np) pD mV mF mM pX pY se_186 pl_186 (nI hg_186)) := hD
            try dsimp only at p186
            have hR1 := Cm_step hn hlt (fun _ _ _ _ h1 h2 => ThR_lt h2 h1) hRp (fun j hj hxj => MR_st hMR ⟨Or.inl hxj, hj⟩ hTh) p186
            refine lv_aload_n hx hb dX1_go_189 rfl (lv_at hl 4 rfl) ?_
            refine lv_aload_n hx hb dX1_go_190 rfl (lv_at hl 4 rfl) ?_
            refine rf_g_pY hx hb hts hin hown hK hP (by decide +kernel) dX1_go_191 ?_
            refine lv_iload_n hx hb dX1_go_194 rfl (lv_at hl 3 rfl) ?_
            refine rf_l_pY (n := p) hx hb hK hP (by omega) dX1_go_195 ?_
            refine lv_iload hx hb dX1_go_196 (lv_at hl 0 rfl) ?_
            refine call_vv (As := [.int (pY p), .int (nI w)]) (rest := []) ⟨hx, hb, hml, hown, hts⟩ (r_come (pY p) np hg_186 w hn hlt (fun j hj _ h0 => Rv_room (np := np) (E := ed pX pY np) (Th := ThR pD mV mF mM x q) (Pd := fun _ _ => True) (w0 := w0) (pl := pl) (X := fun _ _ => True) hR1.1.2.1 (i := 2 * j + w) (by omega) h0)) rp_go_come ⟨rfl, rfl⟩ ⟨Nat.le_of_ble_eq_true rfl, Nat.le_of_ble_eq_true rfl⟩ rfl rfl 0 rfl rfl hl.1 rfl (Nat.le_of_ble_eq_true rfl) dX1_go_198 ⟨Nat.zero_le _, Nat.zero_le _⟩ hK hP hD hS hA (fun u H locs p198 hP hD hS => ?_)
            obtain ⟨se_198, pl_198, hg_198⟩ := u
            have hP : va_P D vwCl (rfW h k (nI nv) vP vO vG (nI np) pD mV mF mM pX pY se_198 pl_198 (nI hg_198)) H := hP
            have hD : va_D A (rfW h k (nI nv) vP vO vG (nI np) pD mV mF mM pX pY se_198 pl_198 (nI hg_198)) := hD
            try dsimp only at p198
            obtain ⟨hR9, hu9⟩ := Rv_it (Th := ThR pD mV mF mM x q) (Pd := fun p w => MR nv np vG pD mV mF mM pX pY x q w p) hn hp hlt (fun _ _ _ _ h1 h2 => ThR_lt h2 h1) (fun t h => ThR_fn h hTh) (fun j he => MR_st hMR he hTh) hRp p186 p198
            refine lv_goto (tgt := 54) hx hb dX1_go_201 (by decide) ?_
            exact ih hg_198 se_198 pl_198 H locs ls (hR9) (by omega) hP hD hS (lv_sub hl [4, 5, 6] rfl)
        · -- 113 f lt 
          refine lv_iload_n hx hb dX1_go_116 rfl (lv_at hl 4 rfl) ?_
          refine lv_aload_n hx hb dX1_go_117 rfl (lv_at hl 2 rfl) ?_
          refine rf_g_mF hx hb hts hin hown hK hP (by decide +kernel) dX1_go_118 ?_
          refine lv_iload_n hx hb dX1_go_121 rfl (lv_at hl 1 rfl) ?_
          refine rf_l_mF (n := p) hx hb hK hP (by omega) dX1_go_122 ?_
          refine lv_aload_n hx hb dX1_go_123 rfl (lv_at hl 2 rfl) ?_
          refine rf_g_mM hx hb hts hin hown hK hP (by decide +kernel) dX1_go_124 ?_
          refine lv_iload_n hx hb dX1_go_127 rfl (lv_at hl 1 rfl) ?_
          refine rf_l_mM (n := p) hx hb hK hP (by omega) dX1_go_128 ?_
          refine lv_iadd hx hb dX1_go_129 ?_
          refine lv_icmp_ge (tgt := 147) hx hb dX1_go_130 (by decide) (fun c130 => ?_) (fun c130 => ?_)
          · -- 130 t ge 
            refine lv_iconst (v := 0) hx hb dX1_go_147 (by decide) ?_
            refine lv_istore (lv' := [(5, .int 0), (4, .int (nI w)), (3, .int (nI p)), (0, .ref (h 0)), (1, .int x), (2, .int (nI q))]) hx hb dX1_go_148 hl (by decide) rfl (fun ls hl => ?_)
            refine lv_iload hx hb dX1_go_150 (lv_at hl 0 rfl) ?_
            refine lv_if_ne (tgt := 160) hx hb dX1_go_152 (by decide) (fun c152 => ?_) (fun c152 => ?_)
            · -- 152 t ne 
              exact absurd (by decide) c152
            · -- 152 f ne 
              refine lv_iload hx hb dX1_go_155 (lv_at hl 1 rfl) ?_
              refine lv_goto (tgt := 175) hx hb dX1_go_157 (by decide) ?_
              refine lv_istore (lv' := [(6, .int (nI w)), (5, .int 0), (4, .int (nI w)), (3, .int (nI p)), (0, .ref (h 0)), (1, .int x), (2, .int (nI q))]) hx hb dX1_go_175 hl (by decide) rfl (fun ls hl => ?_)
              have hTh : ThR pD mV mF mM x q p w w := Or.inr (Or.inr ⟨fun z => z.2.2.1 c130, rfl⟩)
              have hlt : w < 2 := ThR_lt hTh hw2
              refine lv_aload_n hx hb dX1_go_177 rfl (lv_at hl 4 rfl) ?_
              refine lv_aload_n hx hb dX1_go_178 rfl (lv_at hl 4 rfl) ?_
              refine rf_g_pX hx hb hts hin hown hK hP (by decide +kernel) dX1_go_179 ?_
              refine lv_iload_n hx hb dX1_go_182 rfl (lv_at hl 3 rfl) ?_
              refine rf_l_pX (n := p) hx hb hK hP (by omega) dX1_go_183 ?_
              refine lv_iload hx hb dX1_go_184 (lv_at hl 0 rfl) ?_
              refine call_vv (As := [.int (pX p), .int (nI w)]) (rest := []) ⟨hx, hb, hml, hown, hts⟩ (r_come (pX p) np (hN - 1) w hn hlt (fun j hj _ h0 => Rv_room (np := np) (E := ed pX pY np) (Th := ThR pD mV mF mM x q) (Pd := fun _ _ => True) (w0 := w0) (pl := pl) (X := fun _ _ => True) hRp.2.1 (i := 2 * j + w) (by omega) h0)) rp_go_come ⟨rfl, rfl⟩ ⟨Nat.le_of_ble_eq_true rfl, Nat.le_of_ble_eq_true rfl⟩ rfl rfl 0 rfl rfl hl.1 rfl (Nat.le_of_ble_eq_true rfl) dX1_go_186 ⟨Nat.zero_le _, Nat.zero_le _⟩ hK hP hD hS hA (fun u H locs p186 hP hD hS => ?_)
              obtain ⟨se_186, pl_186, hg_186⟩ := u
              have hP : va_P D vwCl (rfW h k (nI nv) vP vO vG (nI np) pD mV mF mM pX pY se_186 pl_186 (nI hg_186)) H := hP
              have hD : va_D A (rfW h k (nI nv) vP vO vG (nI np) pD mV mF mM pX pY se_186 pl_186 (nI hg_186)) := hD
              try dsimp only at p186
              have hR1 := Cm_step hn hlt (fun _ _ _ _ h1 h2 => ThR_lt h2 h1) hRp (fun j hj hxj => MR_st hMR ⟨Or.inl hxj, hj⟩ hTh) p186
              refine lv_aload_n hx hb dX1_go_189 rfl (lv_at hl 4 rfl) ?_
              refine lv_aload_n hx hb dX1_go_190 rfl (lv_at hl 4 rfl) ?_
              refine rf_g_pY hx hb hts hin hown hK hP (by decide +kernel) dX1_go_191 ?_
              refine lv_iload_n hx hb dX1_go_194 rfl (lv_at hl 3 rfl) ?_
              refine rf_l_pY (n := p) hx hb hK hP (by omega) dX1_go_195 ?_
              refine lv_iload hx hb dX1_go_196 (lv_at hl 0 rfl) ?_
              refine call_vv (As := [.int (pY p), .int (nI w)]) (rest := []) ⟨hx, hb, hml, hown, hts⟩ (r_come (pY p) np hg_186 w hn hlt (fun j hj _ h0 => Rv_room (np := np) (E := ed pX pY np) (Th := ThR pD mV mF mM x q) (Pd := fun _ _ => True) (w0 := w0) (pl := pl) (X := fun _ _ => True) hR1.1.2.1 (i := 2 * j + w) (by omega) h0)) rp_go_come ⟨rfl, rfl⟩ ⟨Nat.le_of_ble_eq_true rfl, Nat.le_of_ble_eq_true rfl⟩ rfl rfl 0 rfl rfl hl.1 rfl (Nat.le_of_ble_eq_true rfl) dX1_go_198 ⟨Nat.zero_le _, Nat.zero_le _⟩ hK hP hD hS hA (fun u H locs p198 hP hD hS => ?_)
              obtain ⟨se_198, pl_198, hg_198⟩ := u
              have hP : va_P D vwCl (rfW h k (nI nv) vP vO vG (nI np) pD mV mF mM pX pY se_198 pl_198 (nI hg_198)) H := hP
              have hD : va_D A (rfW h k (nI nv) vP vO vG (nI np) pD mV mF mM pX pY se_198 pl_198 (nI hg_198)) := hD
              try dsimp only at p198
              obtain ⟨hR9, hu9⟩ := Rv_it (Th := ThR pD mV mF mM x q) (Pd := fun p w => MR nv np vG pD mV mF mM pX pY x q w p) hn hp hlt (fun _ _ _ _ h1 h2 => ThR_lt h2 h1) (fun t h => ThR_fn h hTh) (fun j he => MR_st hMR he hTh) hRp p186 p198
              refine lv_goto (tgt := 54) hx hb dX1_go_201 (by decide) ?_
              exact ih hg_198 se_198 pl_198 H locs ls (hR9) (by omega) hP hD hS (lv_sub hl [4, 5, 6] rfl)
          · -- 130 f ge 
            refine lv_aload_n hx hb dX1_go_133 rfl (lv_at hl 2 rfl) ?_
            refine rf_g_pD hx hb hts hin hown hK hP (by decide +kernel) dX1_go_134 ?_
            refine lv_iload_n hx hb dX1_go_137 rfl (lv_at hl 1 rfl) ?_
            refine rf_l_pD (n := p) hx hb hK hP (by omega) dX1_go_138 ?_
            refine lv_iconst (v := 3) hx hb dX1_go_139 (by decide) ?_
            refine lv_icmp_eq (tgt := 147) hx hb dX1_go_140 (by decide) (fun c140 => ?_) (fun c140 => ?_)
            · -- 140 t eq 
              refine lv_iconst (v := 0) hx hb dX1_go_147 (by decide) ?_
              refine lv_istore (lv' := [(5, .int 0), (4, .int (nI w)), (3, .int (nI p)), (0, .ref (h 0)), (1, .int x), (2, .int (nI q))]) hx hb dX1_go_148 hl (by decide) rfl (fun ls hl => ?_)
              refine lv_iload hx hb dX1_go_150 (lv_at hl 0 rfl) ?_
              refine lv_if_ne (tgt := 160) hx hb dX1_go_152 (by decide) (fun c152 => ?_) (fun c152 => ?_)
              · -- 152 t ne 
                exact absurd (by decide) c152
              · -- 152 f ne 
                refine lv_iload hx hb dX1_go_155 (lv_at hl 1 rfl) ?_
                refine lv_goto (tgt := 175) hx hb dX1_go_157 (by decide) ?_
                refine lv_istore (lv' := [(6, .int (nI w)), (5, .int 0), (4, .int (nI w)), (3, .int (nI p)), (0, .ref (h 0)), (1, .int x), (2, .int (nI q))]) hx hb dX1_go_175 hl (by decide) rfl (fun ls hl => ?_)
                have hTh : ThR pD mV mF mM x q p w w := Or.inr (Or.inr ⟨fun z => z.2.2.2 c140, rfl⟩)
                have hlt : w < 2 := ThR_lt hTh hw2
                refine lv_aload_n hx hb dX1_go_177 rfl (lv_at hl 4 rfl) ?_
                refine lv_aload_n hx hb dX1_go_178 rfl (lv_at hl 4 rfl) ?_
                refine rf_g_pX hx hb hts hin hown hK hP (by decide +kernel) dX1_go_179 ?_
                refine lv_iload_n hx hb dX1_go_182 rfl (lv_at hl 3 rfl) ?_
                refine rf_l_pX (n := p) hx hb hK hP (by omega) dX1_go_183 ?_
                refine lv_iload hx hb dX1_go_184 (lv_at hl 0 rfl) ?_
                refine call_vv (As := [.int (pX p), .int (nI w)]) (rest := []) ⟨hx, hb, hml, hown, hts⟩ (r_come (pX p) np (hN - 1) w hn hlt (fun j hj _ h0 => Rv_room (np := np) (E := ed pX pY np) (Th := ThR pD mV mF mM x q) (Pd := fun _ _ => True) (w0 := w0) (pl := pl) (X := fun _ _ => True) hRp.2.1 (i := 2 * j + w) (by omega) h0)) rp_go_come ⟨rfl, rfl⟩ ⟨Nat.le_of_ble_eq_true rfl, Nat.le_of_ble_eq_true rfl⟩ rfl rfl 0 rfl rfl hl.1 rfl (Nat.le_of_ble_eq_true rfl) dX1_go_186 ⟨Nat.zero_le _, Nat.zero_le _⟩ hK hP hD hS hA (fun u H locs p186 hP hD hS => ?_)
                obtain ⟨se_186, pl_186, hg_186⟩ := u
                have hP : va_P D vwCl (rfW h k (nI nv) vP vO vG (nI np) pD mV mF mM pX pY se_186 pl_186 (nI hg_186)) H := hP
                have hD : va_D A (rfW h k (nI nv) vP vO vG (nI np) pD mV mF mM pX pY se_186 pl_186 (nI hg_186)) := hD
                try dsimp only at p186
                have hR1 := Cm_step hn hlt (fun _ _ _ _ h1 h2 => ThR_lt h2 h1) hRp (fun j hj hxj => MR_st hMR ⟨Or.inl hxj, hj⟩ hTh) p186
                refine lv_aload_n hx hb dX1_go_189 rfl (lv_at hl 4 rfl) ?_
                refine lv_aload_n hx hb dX1_go_190 rfl (lv_at hl 4 rfl) ?_
                refine rf_g_pY hx hb hts hin hown hK hP (by decide +kernel) dX1_go_191 ?_
                refine lv_iload_n hx hb dX1_go_194 rfl (lv_at hl 3 rfl) ?_
                refine rf_l_pY (n := p) hx hb hK hP (by omega) dX1_go_195 ?_
                refine lv_iload hx hb dX1_go_196 (lv_at hl 0 rfl) ?_
                refine call_vv (As := [.int (pY p), .int (nI w)]) (rest := []) ⟨hx, hb, hml, hown, hts⟩ (r_come (pY p) np hg_186 w hn hlt (fun j hj _ h0 => Rv_room (np := np) (E := ed pX pY np) (Th := ThR pD mV mF mM x q) (Pd := fun _ _ => True) (w0 := w0) (pl := pl) (X := fun _ _ => True) hR1.1.2.1 (i := 2 * j + w) (by omega) h0)) rp_go_come ⟨rfl, rfl⟩ ⟨Nat.le_of_ble_eq_true rfl, Nat.le_of_ble_eq_true rfl⟩ rfl rfl 0 rfl rfl hl.1 rfl (Nat.le_of_ble_eq_true rfl) dX1_go_198 ⟨Nat.zero_le _, Nat.zero_le _⟩ hK hP hD hS hA (fun u H locs p198 hP hD hS => ?_)
                obtain ⟨se_198, pl_198, hg_198⟩ := u
                have hP : va_P D vwCl (rfW h k (nI nv) vP vO vG (nI np) pD mV mF mM pX pY se_198 pl_198 (nI hg_198)) H := hP
                have hD : va_D A (rfW h k (nI nv) vP vO vG (nI np) pD mV mF mM pX pY se_198 pl_198 (nI hg_198)) := hD
                try dsimp only at p198
                obtain ⟨hR9, hu9⟩ := Rv_it (Th := ThR pD mV mF mM x q) (Pd := fun p w => MR nv np vG pD mV mF mM pX pY x q w p) hn hp hlt (fun _ _ _ _ h1 h2 => ThR_lt h2 h1) (fun t h => ThR_fn h hTh) (fun j he => MR_st hMR he hTh) hRp p186 p198
                refine lv_goto (tgt := 54) hx hb dX1_go_201 (by decide) ?_
                exact ih hg_198 se_198 pl_198 H locs ls (hR9) (by omega) hP hD hS (lv_sub hl [4, 5, 6] rfl)
            · -- 140 f eq 
              refine lv_iconst (v := 1) hx hb dX1_go_143 (by decide) ?_
              refine lv_goto (tgt := 148) hx hb dX1_go_144 (by decide) ?_
              refine lv_istore (lv' := [(5, .int 1), (4, .int (nI w)), (3, .int (nI p)), (0, .ref (h 0)), (1, .int x), (2, .int (nI q))]) hx hb dX1_go_148 hl (by decide) rfl (fun ls hl => ?_)
              refine lv_iload hx hb dX1_go_150 (lv_at hl 0 rfl) ?_
              refine lv_if_ne (tgt := 160) hx hb dX1_go_152 (by decide) (fun c152 => ?_) (fun c152 => ?_)
              · -- 152 t ne 
                refine lv_aload_n hx hb dX1_go_160 rfl (lv_at hl 3 rfl) ?_
                refine rf_g_pD hx hb hts hin hown hK hP (by decide +kernel) dX1_go_161 ?_
                refine lv_iload_n hx hb dX1_go_164 rfl (lv_at hl 2 rfl) ?_
                refine rf_l_pD (n := p) hx hb hK hP (by omega) dX1_go_165 ?_
                refine lv_iconst (v := 1) hx hb dX1_go_166 (by decide) ?_
                refine lv_icmp_ne (tgt := 174) hx hb dX1_go_167 (by decide) (fun c167 => ?_) (fun c167 => ?_)
                · -- 167 t ne 
                  refine lv_iconst (v := nI 0) hx hb dX1_go_174 (by decide) ?_
                  refine lv_istore (lv' := [(6, .int (nI 0)), (5, .int 1), (4, .int (nI w)), (3, .int (nI p)), (0, .ref (h 0)), (1, .int x), (2, .int (nI q))]) hx hb dX1_go_175 hl (by decide) rfl (fun ls hl => ?_)
                  have hTh : ThR pD mV mF mM x q p w 0 := Or.inr (Or.inl ⟨⟨c103, c113, c130, c140⟩, c167, rfl⟩)
                  have hlt : 0 < 2 := ThR_lt hTh hw2
                  refine lv_aload_n hx hb dX1_go_177 rfl (lv_at hl 4 rfl) ?_
                  refine lv_aload_n hx hb dX1_go_178 rfl (lv_at hl 4 rfl) ?_
                  refine rf_g_pX hx hb hts hin hown hK hP (by decide +kernel) dX1_go_179 ?_
                  refine lv_iload_n hx hb dX1_go_182 rfl (lv_at hl 3 rfl) ?_
                  refine rf_l_pX (n := p) hx hb hK hP (by omega) dX1_go_183 ?_
                  refine lv_iload hx hb dX1_go_184 (lv_at hl 0 rfl) ?_
                  refine call_vv (As := [.int (pX p), .int (nI 0)]) (rest := []) ⟨hx, hb, hml, hown, hts⟩ (r_come (pX p) np (hN - 1) 0 hn hlt (fun j hj _ h0 => Rv_room (np := np) (E := ed pX pY np) (Th := ThR pD mV mF mM x q) (Pd := fun _ _ => True) (w0 := w0) (pl := pl) (X := fun _ _ => True) hRp.2.1 (i := 2 * j + 0) (by omega) h0)) rp_go_come ⟨rfl, rfl⟩ ⟨Nat.le_of_ble_eq_true rfl, Nat.le_of_ble_eq_true rfl⟩ rfl rfl 0 rfl rfl hl.1 rfl (Nat.le_of_ble_eq_true rfl) dX1_go_186 ⟨Nat.zero_le _, Nat.zero_le _⟩ hK hP hD hS hA (fun u H locs p186 hP hD hS => ?_)
                  obtain ⟨se_186, pl_186, hg_186⟩ := u
                  have hP : va_P D vwCl (rfW h k (nI nv) vP vO vG (nI np) pD mV mF mM pX pY se_186 pl_186 (nI hg_186)) H := hP
                  have hD : va_D A (rfW h k (nI nv) vP vO vG (nI np) pD mV mF mM pX pY se_186 pl_186 (nI hg_186)) := hD
                  try dsimp only at p186
                  have hR1 := Cm_step hn hlt (fun _ _ _ _ h1 h2 => ThR_lt h2 h1) hRp (fun j hj hxj => MR_st hMR ⟨Or.inl hxj, hj⟩ hTh) p186
                  refine lv_aload_n hx hb dX1_go_189 rfl (lv_at hl 4 rfl) ?_
                  refine lv_aload_n hx hb dX1_go_190 rfl (lv_at hl 4 rfl) ?_
                  refine rf_g_pY hx hb hts hin hown hK hP (by decide +kernel) dX1_go_191 ?_
                  refine lv_iload_n hx hb dX1_go_194 rfl (lv_at hl 3 rfl) ?_
                  refine rf_l_pY (n := p) hx hb hK hP (by omega) dX1_go_195 ?_
                  refine lv_iload hx hb dX1_go_196 (lv_at hl 0 rfl) ?_
                  refine call_vv (As := [.int (pY p), .int (nI 0)]) (rest := []) ⟨hx, hb, hml, hown, hts⟩ (r_come (pY p) np hg_186 0 hn hlt (fun j hj _ h0 => Rv_room (np := np) (E := ed pX pY np) (Th := ThR pD mV mF mM x q) (Pd := fun _ _ => True) (w0 := w0) (pl := pl) (X := fun _ _ => True) hR1.1.2.1 (i := 2 * j + 0) (by omega) h0)) rp_go_come ⟨rfl, rfl⟩ ⟨Nat.le_of_ble_eq_true rfl, Nat.le_of_ble_eq_true rfl⟩ rfl rfl 0 rfl rfl hl.1 rfl (Nat.le_of_ble_eq_true rfl) dX1_go_198 ⟨Nat.zero_le _, Nat.zero_le _⟩ hK hP hD hS hA (fun u H locs p198 hP hD hS => ?_)
                  obtain ⟨se_198, pl_198, hg_198⟩ := u
                  have hP : va_P D vwCl (rfW h k (nI nv) vP vO vG (nI np) pD mV mF mM pX pY se_198 pl_198 (nI hg_198)) H := hP
                  have hD : va_D A (rfW h k (nI nv) vP vO vG (nI np) pD mV mF mM pX pY se_198 pl_198 (nI hg_198)) := hD
                  try dsimp only at p198
                  obtain ⟨hR9, hu9⟩ := Rv_it (Th := ThR pD mV mF mM x q) (Pd := fun p w => MR nv np vG pD mV mF mM pX pY x q w p) hn hp hlt (fun _ _ _ _ h1 h2 => ThR_lt h2 h1) (fun t h => ThR_fn h hTh) (fun j he => MR_st hMR he hTh) hRp p186 p198
                  refine lv_goto (tgt := 54) hx hb dX1_go_201 (by decide) ?_
                  exact ih hg_198 se_198 pl_198 H locs ls (hR9) (by omega) hP hD hS (lv_sub hl [4, 5, 6] rfl)
                · -- 167 f ne 
                  refine lv_iconst (v := nI 1) hx hb dX1_go_170 (by decide) ?_
                  refine lv_goto (tgt := 175) hx hb dX1_go_171 (by decide) ?_
                  refine lv_istore (lv' := [(6, .int (nI 1)), (5, .int 1), (4, .int (nI w)), (3, .int (nI p)), (0, .ref (h 0)), (1, .int x), (2, .int (nI q))]) hx hb dX1_go_175 hl (by decide) rfl (fun ls hl => ?_)
                  have hTh : ThR pD mV mF mM x q p w 1 := Or.inl ⟨⟨c103, c113, c130, c140⟩, c167, rfl⟩
                  have hlt : 1 < 2 := ThR_lt hTh hw2
                  refine lv_aload_n hx hb dX1_go_177 rfl (lv_at hl 4 rfl) ?_
                  refine lv_aload_n hx hb dX1_go_178 rfl (lv_at hl 4 rfl) ?_
                  refine rf_g_pX hx hb hts hin hown hK hP (by decide +kernel) dX1_go_179 ?_
                  refine lv_iload_n hx hb dX1_go_182 rfl (lv_at hl 3 rfl) ?_
                  refine rf_l_pX (n := p) hx hb hK hP (by omega) dX1_go_183 ?_
                  refine lv_iload hx hb dX1_go_184 (lv_at hl 0 rfl) ?_
                  refine call_vv (As := [.int (pX p), .int (nI 1)]) (rest := []) ⟨hx, hb, hml, hown, hts⟩ (r_come (pX p) np (hN - 1) 1 hn hlt (fun j hj _ h0 => Rv_room (np := np) (E := ed pX pY np) (Th := ThR pD mV mF mM x q) (Pd := fun _ _ => True) (w0 := w0) (pl := pl) (X := fun _ _ => True) hRp.2.1 (i := 2 * j + 1) (by omega) h0)) rp_go_come ⟨rfl, rfl⟩ ⟨Nat.le_of_ble_eq_true rfl, Nat.le_of_ble_eq_true rfl⟩ rfl rfl 0 rfl rfl hl.1 rfl (Nat.le_of_ble_eq_true rfl) dX1_go_186 ⟨Nat.zero_le _, Nat.zero_le _⟩ hK hP hD hS hA (fun u H locs p186 hP hD hS => ?_)
                  obtain ⟨se_186, pl_186, hg_186⟩ := u
                  have hP : va_P D vwCl (rfW h k (nI nv) vP vO vG (nI np) pD mV mF mM pX pY se_186 pl_186 (nI hg_186)) H := hP
                  have hD : va_D A (rfW h k (nI nv) vP vO vG (nI np) pD mV mF mM pX pY se_186 pl_186 (nI hg_186)) := hD
                  try dsimp only at p186
                  have hR1 := Cm_step hn hlt (fun _ _ _ _ h1 h2 => ThR_lt h2 h1) hRp (fun j hj hxj => MR_st hMR ⟨Or.inl hxj, hj⟩ hTh) p186
                  refine lv_aload_n hx hb dX1_go_189 rfl (lv_at hl 4 rfl) ?_
                  refine lv_aload_n hx hb dX1_go_190 rfl (lv_at hl 4 rfl) ?_
                  refine rf_g_pY hx hb hts hin hown hK hP (by decide +kernel) dX1_go_191 ?_
                  refine lv_iload_n hx hb dX1_go_194 rfl (lv_at hl 3 rfl) ?_
                  refine rf_l_pY (n := p) hx hb hK hP (by omega) dX1_go_195 ?_
                  refine lv_iload hx hb dX1_go_196 (lv_at hl 0 rfl) ?_
                  refine call_vv (As := [.int (pY p), .int (nI 1)]) (rest := []) ⟨hx, hb, hml, hown, hts⟩ (r_come (pY p) np hg_186 1 hn hlt (fun j hj _ h0 => Rv_room (np := np) (E := ed pX pY np) (Th := ThR pD mV mF mM x q) (Pd := fun _ _ => True) (w0 := w0) (pl := pl) (X := fun _ _ => True) hR1.1.2.1 (i := 2 * j + 1) (by omega) h0)) rp_go_come ⟨rfl, rfl⟩ ⟨Nat.le_of_ble_eq_true rfl, Nat.le_of_ble_eq_true rfl⟩ rfl rfl 0 rfl rfl hl.1 rfl (Nat.le_of_ble_eq_true rfl) dX1_go_198 ⟨Nat.zero_le _, Nat.zero_le _⟩ hK hP hD hS hA (fun u H locs p198 hP hD hS => ?_)
                  obtain ⟨se_198, pl_198, hg_198⟩ := u
                  have hP : va_P D vwCl (rfW h k (nI nv) vP vO vG (nI np) pD mV mF mM pX pY se_198 pl_198 (nI hg_198)) H := hP
                  have hD : va_D A (rfW h k (nI nv) vP vO vG (nI np) pD mV mF mM pX pY se_198 pl_198 (nI hg_198)) := hD
                  try dsimp only at p198
                  obtain ⟨hR9, hu9⟩ := Rv_it (Th := ThR pD mV mF mM x q) (Pd := fun p w => MR nv np vG pD mV mF mM pX pY x q w p) hn hp hlt (fun _ _ _ _ h1 h2 => ThR_lt h2 h1) (fun t h => ThR_fn h hTh) (fun j he => MR_st hMR he hTh) hRp p186 p198
                  refine lv_goto (tgt := 54) hx hb dX1_go_201 (by decide) ?_
                  exact ih hg_198 se_198 pl_198 H locs ls (hR9) (by omega) hP hD hS (lv_sub hl [4, 5, 6] rfl)
              · -- 152 f ne 
                exact absurd c152 (by decide)

theorem rp_go_isVariable : cpV wsX1_go RX1 51 RX1 yX1_isVariable wsX1_isVariable cX1_isVariable 2 (some .boolean) 1 := ⟨gX1_go_X1_isVariable, ⟨_, rfl⟩, by decide +kernel⟩
set_option maxHeartbeats 4000000 in
set_option maxRecDepth 100000 in
theorem r_go {l : Launch} {D : va_G} {h : Nat → Nat} {k : Nat → ClassId} {vP vO vG pD mV mF mM pX pY se pl : Nat → Int32} (x : Int32) (nv np q hN : Nat) (hnv : nv ≤ 20) (hn : np ≤ 120) : ct l yX1_go wsX1_go rr_go D vwCl (rfT k) [.ref (h 0), .int x, .int (nI q)] (rfW h k (nI nv) vP vO vG (nI np) pD mV mF mM pX pY se pl (nI hN)) (qV D vwCl (rfT k) (fun (u : (Nat → Int32) × (Nat → Int32) × Nat) => GoR nv np vG pD mV mF mM pX pY x q u.1) (fun u => rfW h k (nI nv) vP vO vG (nI np) pD mV mF mM pX pY u.1 u.2.1 (nI u.2.2))) 0 0 := by
  refine ct_of (cc := cX1_go) (maxL := 7) (ret := none) (by decide) rfl (Nat.le_of_ble_eq_true rfl) ?_
  intro p e s m below meth c A ls hx hb hr hml hlocks hown hnm hts hA hK hP hD hS hl
  have hown : s.vm.findClass RX1 = some m.cls := hown
  have hin := ri_go
  have hl : lv_has ls 7 [(0, .ref (h 0)), (1, .int x), (2, .int (nI q))] := hl
  refine lv_iconst (v := nI 0) hx hb dX1_go_0 (by decide) ?_
  refine lv_istore_n (lv' := [(3, .int (nI 0)), (0, .ref (h 0)), (1, .int x), (2, .int (nI q))]) hx hb dX1_go_1 rfl hl (by decide) rfl (fun ls hl => ?_)
  refine lq_g1 hx hb hml hown hts hA hK  ?_ _ 0 se _ _ ls (Nat.zero_le _) (fun k hk => absurd hk (Nat.not_lt_zero k)) (Nat.lt_succ_self _) hP hD hS (lv_sub hl [1, 2, 3, 0] rfl)
  intro i1 se1 H locs ls hse hP hD hS hl
  refine lv_aload_n hx hb dX1_go_22 rfl (lv_at hl 0 rfl) ?_
  refine lv_iconst (v := nI 0) hx hb dX1_go_23 (by decide) ?_
  refine rf_p_hg hx hb hts hin hown hK hP hD hS (by decide +kernel) dX1_go_24 (fun H locs hP hD hS => ?_)
  refine lv_aload_n hx hb dX1_go_27 rfl (lv_at hl 0 rfl) ?_
  refine lv_iconst (v := nI 0) hx hb dX1_go_28 (by decide) ?_
  refine lv_aload_n hx hb dX1_go_29 rfl (lv_at hl 0 rfl) ?_
  refine lv_iload_n hx hb dX1_go_30 rfl (lv_at hl 1 rfl) ?_
  refine call_vi (As := [.int x]) (rest := [.int (nI 0), .ref (h 0)]) ⟨hx, hb, hml, hown, hts⟩ (r_isVariable x) rp_go_isVariable ⟨rfl, rfl⟩ ⟨Nat.le_of_ble_eq_true rfl, Nat.le_of_ble_eq_true rfl⟩ rfl rfl 0 rfl rfl hl.1 rfl (Nat.le_of_ble_eq_true rfl) dX1_go_31 ⟨Nat.zero_le _, Nat.zero_le _⟩ hK hP hD hS hA (fun r31 u H locs p31 hP hD hS => ?_)
  try dsimp only at p31
  refine lv_if_eq (tgt := 50) hx hb dX1_go_34 (by decide) (fun c34 => ?_) (fun c34 => ?_)
  · -- 34 t eq 
    refine lv_iconst (v := nI 0) hx hb dX1_go_50 (by decide) ?_
    
    refine call_vv (As := [.int (nI 0), .int (nI 0)]) (rest := []) ⟨hx, hb, hml, hown, hts⟩ (r_come (nI 0) np 0 0 hn (by decide) (fun _ _ _ _ => by decide)) rp_go_come ⟨rfl, rfl⟩ ⟨Nat.le_of_ble_eq_true rfl, Nat.le_of_ble_eq_true rfl⟩ rfl rfl 0 rfl rfl hl.1 rfl (Nat.le_of_ble_eq_true rfl) dX1_go_51 ⟨Nat.zero_le _, Nat.zero_le _⟩ hK hP hD hS hA (fun u H locs p51 hP hD hS => ?_)
    obtain ⟨se_51, pl_51, hg_51⟩ := u
    have hP : va_P D vwCl (rfW h k (nI nv) vP vO vG (nI np) pD mV mF mM pX pY se_51 pl_51 (nI hg_51)) H := hP
    have hD : va_D A (rfW h k (nI nv) vP vO vG (nI np) pD mV mF mM pX pY se_51 pl_51 (nI hg_51)) := hD
    try dsimp only at p51
    refine lq_g2 hx hb hml hown hts hA hK (x := x) (q := q) (w0 := 0) (nv := nv) hn ?_ _ hg_51 se_51 pl_51 _ _ ls (Rv_begin hn (Or.inr ⟨rfl, gv_no1 (pt_out rfl (by omega) p31 c34)⟩) hse p51) (Nat.lt_succ_self _) hP hD hS (lv_sub hl [0, 1, 2] rfl)
    intro hN9 se9 pl9 H locs ls hR9 hP hD hS hl
    have hGo := Rv_end hn (Or.inr ⟨rfl, gv_no1 (pt_out rfl (by omega) p31 c34)⟩) hR9
    exact ret_v hx hb hr hlocks hK hP hD hS dX1_go_204 (se9, pl9, hN9) rfl (hGo)
  · -- 34 f eq 
    obtain ⟨v, hv, hxv⟩ := pt_in rfl (by omega) p31 c34
    rw [hxv] at hl
    refine lv_aload_n hx hb dX1_go_37 rfl (lv_at hl 0 rfl) ?_
    refine rf_g_vG hx hb hts hin hown hK hP (by decide +kernel) dX1_go_38 ?_
    refine lv_iload_n hx hb dX1_go_41 rfl (lv_at hl 1 rfl) ?_
    refine rf_l_vG (n := v) hx hb hK hP (by omega) dX1_go_42 ?_
    refine lv_if_eq (tgt := 50) hx hb dX1_go_43 (by decide) (fun c43 => ?_) (fun c43 => ?_)
    · -- 43 t eq 
      refine lv_iconst (v := nI 0) hx hb dX1_go_50 (by decide) ?_
      rw [← hxv] at hl
      refine call_vv (As := [.int (nI 0), .int (nI 0)]) (rest := []) ⟨hx, hb, hml, hown, hts⟩ (r_come (nI 0) np 0 0 hn (by decide) (fun _ _ _ _ => by decide)) rp_go_come ⟨rfl, rfl⟩ ⟨Nat.le_of_ble_eq_true rfl, Nat.le_of_ble_eq_true rfl⟩ rfl rfl 0 rfl rfl hl.1 rfl (Nat.le_of_ble_eq_true rfl) dX1_go_51 ⟨Nat.zero_le _, Nat.zero_le _⟩ hK hP hD hS hA (fun u H locs p51 hP hD hS => ?_)
      obtain ⟨se_51, pl_51, hg_51⟩ := u
      have hP : va_P D vwCl (rfW h k (nI nv) vP vO vG (nI np) pD mV mF mM pX pY se_51 pl_51 (nI hg_51)) H := hP
      have hD : va_D A (rfW h k (nI nv) vP vO vG (nI np) pD mV mF mM pX pY se_51 pl_51 (nI hg_51)) := hD
      try dsimp only at p51
      refine lq_g2 hx hb hml hown hts hA hK (x := x) (q := q) (w0 := 0) (nv := nv) hn ?_ _ hg_51 se_51 pl_51 _ _ ls (Rv_begin hn (Or.inr ⟨rfl, gv_no2 hnv hv hxv c43⟩) hse p51) (Nat.lt_succ_self _) hP hD hS (lv_sub hl [0, 1, 2] rfl)
      intro hN9 se9 pl9 H locs ls hR9 hP hD hS hl
      have hGo := Rv_end hn (Or.inr ⟨rfl, gv_no2 hnv hv hxv c43⟩) hR9
      exact ret_v hx hb hr hlocks hK hP hD hS dX1_go_204 (se9, pl9, hN9) rfl (hGo)
    · -- 43 f eq 
      refine lv_iconst (v := nI 1) hx hb dX1_go_46 (by decide) ?_
      refine lv_goto (tgt := 51) hx hb dX1_go_47 (by decide) ?_
      rw [← hxv] at hl
      refine call_vv (As := [.int (nI 0), .int (nI 1)]) (rest := []) ⟨hx, hb, hml, hown, hts⟩ (r_come (nI 0) np 0 1 hn (by decide) (fun _ _ _ _ => by decide)) rp_go_come ⟨rfl, rfl⟩ ⟨Nat.le_of_ble_eq_true rfl, Nat.le_of_ble_eq_true rfl⟩ rfl rfl 0 rfl rfl hl.1 rfl (Nat.le_of_ble_eq_true rfl) dX1_go_51 ⟨Nat.zero_le _, Nat.zero_le _⟩ hK hP hD hS hA (fun u H locs p51 hP hD hS => ?_)
      obtain ⟨se_51, pl_51, hg_51⟩ := u
      have hP : va_P D vwCl (rfW h k (nI nv) vP vO vG (nI np) pD mV mF mM pX pY se_51 pl_51 (nI hg_51)) H := hP
      have hD : va_D A (rfW h k (nI nv) vP vO vG (nI np) pD mV mF mM pX pY se_51 pl_51 (nI hg_51)) := hD
      try dsimp only at p51
      refine lq_g2 hx hb hml hown hts hA hK (x := x) (q := q) (w0 := 1) (nv := nv) hn ?_ _ hg_51 se_51 pl_51 _ _ ls (Rv_begin hn (Or.inl ⟨rfl, v, hv, hxv, c43⟩) hse p51) (Nat.lt_succ_self _) hP hD hS (lv_sub hl [0, 1, 2] rfl)
      intro hN9 se9 pl9 H locs ls hR9 hP hD hS hl
      have hGo := Rv_end hn (Or.inl ⟨rfl, v, hv, hxv, c43⟩) hR9
      exact ret_v hx hb hr hlocks hK hP hD hS dX1_go_204 (se9, pl9, hN9) rfl (hGo)
end
section
/-! The reference's answers, as functions of what it keeps. -/
noncomputable def bxN (nv np : Nat) (vP vG pD mV mF mM pX pY : Nat → Int32) (w j v : Nat) : Nat := bxr (fun t => tb (MR nv np vG pD mV mF mM pX pY (nI v) t w j)) (tN (vP v))
noncomputable def frv (nv np : Nat) (vP vO vG pD mV mF mM pX pY : Nat → Int32) (j : Nat) : Int32 :=
  if pD j < 1 ∨ 3 < pD j ∨ tb (rch (ed pX pY np) np j) = false then 0
  else if pD j = 1 then (if vO (tN (mV j)) = 0 then 0 else if ¬ vP (tN (mV j)) ≤ mM j then 3 else if nI (bxN nv np vP vG pD mV mF mM pX pY 1 j (tN (mV j))) = 0 then 0 else 2)
  else (if nI (bxN nv np vP vG pD mV mF mM pX pY 0 j (tN (mV j))) &&& (lb (mM j) <<< (mF j &&& 31)) = 0 then 0 else 1)
/-- the reference's rows are in range -/
def RI (nv np : Nat) (vP pD mV : Nat → Int32) : Prop := nv ≤ 20 ∧ np ≤ 120 ∧ (∀ v, v < nv → vP v = nI (tN (vP v)) ∧ tN (vP v) ≤ 8) ∧ ∀ q, q < np → ¬ pD q < 1 → ¬ 3 < pD q → mV q = nI (tN (mV q)) ∧ tN (mV q) < nv
theorem se_no {se : Nat → Int32} {i : Nat} (h : ∀ i, i < 240 → se i = 0 ∨ se i = 1) (hi : i < 240) (hn : ¬ se i = 0) : se i = 1 := (h i hi).elim (fun z => absurd z hn) id
theorem se_z {x : Int32} (h : x = 0) : ¬ x = 1 := fun z => i01 (h.symm.trans z)
theorem m1_neg {m : Nat} (hm : m ≤ 120) : nI m + (-1) < 0 ↔ m = 0 := by
  cases m with
  | zero => exact ⟨fun _ => rfl, fun _ => by decide⟩
  | succ m =>
    rw [pk_m1]
    exact ⟨fun h => absurd h (nI_pos (by omega)), fun h => by omega⟩
theorem cnt_mle (f : Nat → Bool) {a b : Nat} (h : a ≤ b) : cnt f a ≤ cnt f b := by
  induction b with
  | zero => rw [show a = 0 by omega]; exact Nat.le_refl _
  | succ b ih =>
    by_cases e : a = b + 1
    · rw [e]; exact Nat.le_refl _
    · have := ih (by omega)
      simp only [cnt]
      omega
theorem cd_1 {f : Nat → Bool} {p n s : Nat} (hp : p < n) (h : f p = true) (hs : s = cnt f n - cnt f (p + 1)) : s + 1 = cnt f n - cnt f p := by
  have h1 := cnt_s1 h
  have h2 := cnt_mle f (show p + 1 ≤ n from hp)
  omega
theorem cd_0 {f : Nat → Bool} {p n s : Nat} (h : f p = false) (hs : s = cnt f n - cnt f (p + 1)) : s = cnt f n - cnt f p := by
  rw [hs, cnt_s0 h]
/-- the first of the points from m on -/
def fst9 (f : Nat → Bool) (n m : Nat) (r : Int32) : Prop := (r = -1 ∧ ∀ q, m ≤ q → q < n → f q = false) ∨ ∃ j, m ≤ j ∧ j < n ∧ r = nI j ∧ f j = true ∧ ∀ q, m ≤ q → q < j → f q = false
theorem fst_1 {f : Nat → Bool} {n p : Nat} (hp : p < n) (h : f p = true) : fst9 f n p (nI p) := Or.inr ⟨p, Nat.le_refl _, hp, rfl, h, fun q h1 h2 => by omega⟩
theorem fst_0 {f : Nat → Bool} {n p : Nat} {r : Int32} (h : f p = false) (hr : fst9 f n (p + 1) r) : fst9 f n p r := by
  have hq : ∀ q, p ≤ q → ¬ p + 1 ≤ q → f q = false := fun q h1 h2 => by rw [show q = p by omega]; exact h
  rcases hr with ⟨h1, h2⟩ | ⟨j, h1, h2, h3, h4, h5⟩
  · refine Or.inl ⟨h1, fun q hq1 hq2 => ?_⟩
    by_cases e : p + 1 ≤ q
    · exact h2 q e hq2
    · exact hq q hq1 e
  · refine Or.inr ⟨j, by omega, h2, h3, h4, fun q hq1 hq2 => ?_⟩
    by_cases e : p + 1 ≤ q
    · exact h5 q e hq2
    · exact hq q hq1 e
theorem fst_e {f : Nat → Bool} {n : Nat} : fst9 f n n (-1) := Or.inl ⟨rfl, fun q h1 h2 => by omega⟩
theorem gt1_of {x : Int32} (h : ¬ x ≤ 1) : 1 < x := by
  rw [i32_le] at h
  rw [i32_lt]
  omega
theorem nlt_of_le {x y : Int32} (h : x ≤ y) : ¬ y < x := by
  rw [i32_le] at h
  rw [i32_lt]
  omega
theorem lt_of_nle {x y : Int32} (h : ¬ x ≤ y) : y < x := by
  rw [i32_le] at h
  rw [i32_lt]
  omega
theorem ex_of {a b c : Prop} (h : a ∨ b ∨ c) (ha : ¬ a) (hb : ¬ b) : c := h.elim (fun z => absurd z ha) (fun z => z.elim (fun z => absurd z hb) id)
theorem pt_un {np j : Nat} {r : Int32} {P : Nat → Int32 → Prop} {r0 : Int32} (hn : np ≤ 120) (hj : j < np) (h : ((∀ j', j' < np → ¬ nI j = nI j') ∧ r = r0) ∨ ∃ j', j' < np ∧ nI j = nI j' ∧ P j' r) : P j r := by
  rcases h with ⟨h, _⟩ | ⟨j', h1, h2, h3⟩
  · exact absurd rfl (h j hj)
  · have : j = j' := (nI_eq (by omega) (by omega)).mp h2
    subst this
    exact h3
theorem pv_un {np nv j v : Nat} {r : Int32} {f : Nat → Nat → Int32} (hn : np ≤ 120) (hnv : nv ≤ 20) (hj : j < np) (hv : v < nv) (h : ((((∀ j', j' < np → ¬ nI j = nI j') ∨ ∀ v', v' < nv → ¬ nI v = nI v') ∧ r = 0) ∨ ∃ j' v', j' < np ∧ v' < nv ∧ nI j = nI j' ∧ nI v = nI v' ∧ r = f j' v')) : r = f j v := by
  rcases h with ⟨h | h, _⟩ | ⟨j', v', h1, h2, h3, h4, h5⟩
  · exact absurd rfl (h j hj)
  · exact absurd rfl (h v hv)
  · have e1 : j = j' := (nI_eq (by omega) (by omega)).mp h3
    have e2 : v = v' := (nI_eq (by omega) (by omega)).mp h4
    rw [e1, e2]; exact h5
end
section
abbrev rr_isReached : Room := { frames := 3, cells := 0, slots := 0, locals := 69 }
theorem ri_isReached : ∀ w ∈ u_ws RX1 TX1 14, w ∈ wsX1_isReached := by decide +kernel
theorem rp_isReached_go : cpV wsX1_isReached RX1 65 RX1 yX1_go wsX1_go cX1_go 7 none 2 := ⟨gX1_isReached_X1_go, ⟨_, rfl⟩, by decide +kernel⟩
theorem rp_isReached_isPoint : cpV wsX1_isReached RX1 55 RX1 yX1_isPoint wsX1_isPoint cX1_isPoint 2 (some .boolean) 1 := ⟨gX1_isReached_X1_isPoint, ⟨_, rfl⟩, by decide +kernel⟩
set_option maxHeartbeats 4000000 in
set_option maxRecDepth 100000 in
theorem r_isReached {l : Launch} {D : va_G} {h : Nat → Nat} {k : Nat → ClassId} {vP vO vG pD mV mF mM pX pY se pl : Nat → Int32} (nv np hN : Nat) (x : Int32) (hi : RI nv np vP pD mV) : ct l yX1_isReached wsX1_isReached rr_isReached D vwCl (rfT k) [.ref (h 0), .int x] (rfW h k (nI nv) vP vO vG (nI np) pD mV mF mM pX pY se pl (nI hN)) (qI D vwCl (rfT k) (fun (r : Int32) (u : (Nat → Int32) × (Nat → Int32) × Nat) => ((∀ j, j < np → ¬ x = nI j) ∧ r = 0) ∨ ∃ j, j < np ∧ x = nI j ∧ ((r = 1 ∧ rch (ed pX pY np) np j) ∨ (r = 0 ∧ ¬ rch (ed pX pY np) np j))) (fun u => rfW h k (nI nv) vP vO vG (nI np) pD mV mF mM pX pY u.1 u.2.1 (nI u.2.2))) 0 0 := by
  refine ct_of (cc := cX1_isReached) (maxL := 2) (ret := some .boolean) (by decide) rfl (Nat.le_of_ble_eq_true rfl) ?_
  intro p e s m below meth c A ls hx hb hr hml hlocks hown hnm hts hA hK hP hD hS hl
  have hown : s.vm.findClass RX1 = some m.cls := hown
  have hin := ri_isReached
  have hl : lv_has ls 2 [(0, .ref (h 0)), (1, .int x)] := hl
  have hnv : nv ≤ 20 := hi.1
  have hn : np ≤ 120 := hi.2.1
  refine lv_aload_n hx hb dX1_isReached_0 rfl (lv_at hl 0 rfl) ?_
  refine lv_bipush (v := (-2)) hx hb dX1_isReached_1 (by decide) ?_
  refine lv_iconst (v := nI 0) hx hb dX1_isReached_3 (by decide) ?_
  refine call_vv (As := [.int (-2), .int (nI 0)]) (rest := []) ⟨hx, hb, hml, hown, hts⟩ (r_go (-2) nv np 0 hN hnv hn) rp_isReached_go ⟨rfl, rfl⟩ ⟨Nat.le_of_ble_eq_true rfl, Nat.le_of_ble_eq_true rfl⟩ rfl rfl 0 rfl rfl hl.1 rfl (Nat.le_of_ble_eq_true rfl) dX1_isReached_4 ⟨Nat.zero_le _, Nat.zero_le _⟩ hK hP hD hS hA (fun u H locs p4 hP hD hS => ?_)
  obtain ⟨se_4, pl_4, hg_4⟩ := u
  have hP : va_P D vwCl (rfW h k (nI nv) vP vO vG (nI np) pD mV mF mM pX pY se_4 pl_4 (nI hg_4)) H := hP
  have hD : va_D A (rfW h k (nI nv) vP vO vG (nI np) pD mV mF mM pX pY se_4 pl_4 (nI hg_4)) := hD
  try dsimp only at p4
  refine lv_aload_n hx hb dX1_isReached_7 rfl (lv_at hl 0 rfl) ?_
  refine lv_iload_n hx hb dX1_isReached_8 rfl (lv_at hl 1 rfl) ?_
  refine call_vi (As := [.int x]) (rest := []) ⟨hx, hb, hml, hown, hts⟩ (r_isPoint x) rp_isReached_isPoint ⟨rfl, rfl⟩ ⟨Nat.le_of_ble_eq_true rfl, Nat.le_of_ble_eq_true rfl⟩ rfl rfl 0 rfl rfl hl.1 rfl (Nat.le_of_ble_eq_true rfl) dX1_isReached_9 ⟨Nat.zero_le _, Nat.zero_le _⟩ hK hP hD hS hA (fun r9 u H locs p9 hP hD hS => ?_)
  try dsimp only at p9
  refine lv_if_eq (tgt := 43) hx hb dX1_isReached_12 (by decide) (fun c12 => ?_) (fun c12 => ?_)
  · -- 12 t eq 
    refine lv_iconst (v := 0) hx hb dX1_isReached_43 (by decide) ?_
    exact ret_z hx hb hr hlocks hK hP hD hS dX1_isReached_44 (se_4, pl_4, hg_4) rfl (by decide) (Or.inl ⟨pt_out rfl hn p9 c12, rfl⟩)
  · -- 12 f eq 
    obtain ⟨j, hj, rfl⟩ := pt_in rfl hn p9 c12
    refine lv_aload_n hx hb dX1_isReached_15 rfl (lv_at hl 0 rfl) ?_
    refine rf_g_se hx hb hts hin hown hK hP (by decide +kernel) dX1_isReached_16 ?_
    refine lv_iconst (v := 2) hx hb dX1_isReached_19 (by decide) ?_
    refine lv_iload_n hx hb dX1_isReached_20 rfl (lv_at hl 1 rfl) ?_
    refine lv_imul hx hb dX1_isReached_21 ?_
    refine lv_topi (fun x_1 ex_1 => ?_)
    obtain rfl : x_1 = nI (2 * j) := ex_1.trans (pk_mul 2 j)
    refine rf_l_se (n := (2 * j)) hx hb hK hP (by omega) dX1_isReached_22 ?_
    refine lv_if_ne (tgt := 39) hx hb dX1_isReached_23 (by decide) (fun c23 => ?_) (fun c23 => ?_)
    · -- 23 t ne 
      refine lv_iconst (v := 1) hx hb dX1_isReached_39 (by decide) ?_
      refine lv_goto (tgt := 44) hx hb dX1_isReached_40 (by decide) ?_
      exact ret_z hx hb hr hlocks hK hP hD hS dX1_isReached_44 (se_4, pl_4, hg_4) rfl (by decide) (Or.inr ⟨j, hj, rfl, Or.inl ⟨rfl, (p4.2.2 j hj).mpr (Or.inl (se_no p4.1 (by omega) c23))⟩⟩)
    · -- 23 f ne 
      refine lv_aload_n hx hb dX1_isReached_26 rfl (lv_at hl 0 rfl) ?_
      refine rf_g_se hx hb hts hin hown hK hP (by decide +kernel) dX1_isReached_27 ?_
      refine lv_iconst (v := 2) hx hb dX1_isReached_30 (by decide) ?_
      refine lv_iload_n hx hb dX1_isReached_31 rfl (lv_at hl 1 rfl) ?_
      refine lv_imul hx hb dX1_isReached_32 ?_
      refine lv_topi (fun x_2 ex_2 => ?_)
      obtain rfl : x_2 = nI (2 * j) := ex_2.trans (pk_mul 2 j)
      refine lv_iconst (v := 1) hx hb dX1_isReached_33 (by decide) ?_
      refine lv_iadd hx hb dX1_isReached_34 ?_
      refine lv_topi (fun x_3 ex_3 => ?_)
      obtain rfl : x_3 = nI ((2 * j) + 1) := ex_3.trans (nI_add (2 * j) 1)
      refine rf_l_se (n := ((2 * j) + 1)) hx hb hK hP (by omega) dX1_isReached_35 ?_
      refine lv_if_eq (tgt := 43) hx hb dX1_isReached_36 (by decide) (fun c36 => ?_) (fun c36 => ?_)
      · -- 36 t eq 
        refine lv_iconst (v := 0) hx hb dX1_isReached_43 (by decide) ?_
        exact ret_z hx hb hr hlocks hK hP hD hS dX1_isReached_44 (se_4, pl_4, hg_4) rfl (by decide) (Or.inr ⟨j, hj, rfl, Or.inr ⟨rfl, fun z => ((p4.2.2 j hj).mp z).elim (se_z c23) (se_z c36)⟩⟩)
      · -- 36 f eq 
        refine lv_iconst (v := 1) hx hb dX1_isReached_39 (by decide) ?_
        refine lv_goto (tgt := 44) hx hb dX1_isReached_40 (by decide) ?_
        exact ret_z hx hb hr hlocks hK hP hD hS dX1_isReached_44 (se_4, pl_4, hg_4) rfl (by decide) (Or.inr ⟨j, hj, rfl, Or.inl ⟨rfl, (p4.2.2 j hj).mpr (Or.inr (se_no p4.1 (by omega) c36))⟩⟩)

abbrev rr_bits : Room := { frames := 3, cells := 0, slots := 0, locals := 69 }
theorem ri_bits : ∀ w ∈ u_ws RX1 TX1 14, w ∈ wsX1_bits := by decide +kernel
theorem rp_bits_go : cpV wsX1_bits RX1 65 RX1 yX1_go wsX1_go cX1_go 7 none 2 := ⟨gX1_bits_X1_go, ⟨_, rfl⟩, by decide +kernel⟩
theorem rp_bits_isPoint : cpV wsX1_bits RX1 55 RX1 yX1_isPoint wsX1_isPoint cX1_isPoint 2 (some .boolean) 1 := ⟨gX1_bits_X1_isPoint, ⟨_, rfl⟩, by decide +kernel⟩
theorem rp_bits_isVariable : cpV wsX1_bits RX1 51 RX1 yX1_isVariable wsX1_isVariable cX1_isVariable 2 (some .boolean) 1 := ⟨gX1_bits_X1_isVariable, ⟨_, rfl⟩, by decide +kernel⟩
set_option maxHeartbeats 4000000 in
set_option maxRecDepth 100000 in
theorem lq_bt {p : Program} {l : Launch} {e : Env} {s : State} {m : MethodId} {args : Array Value} {below : List Frame} {meth : Method} {c : Code} {A : Nat → Prop} {Q : State → Prop} {D : va_G} {h : Nat → Nat} {k : Nat → ClassId} {vP vO vG pD mV mF mM pX pY : Nat → Int32} {nv np j v w : Nat} (hx : p.tables.exec = Jvm.exec) (hb : c.code = cX1_bits) (hml : c.maxLocals = 6) (hown : s.vm.findClass RX1 = some m.cls) (hts : ∀ w ∈ wsX1_bits, w.before args s = true) (hA : ∀ q : Nat, s.heap.size ≤ q → A q) (hK : va_K D vwCl (rfT k) s) (hnv : nv ≤ 20) (hn : np ≤ 120) (hj : j < np) (hv : v < nv) (hw : w < 2) (hvp : vP v = nI (tN (vP v))) (hvp8 : tN (vP v) ≤ 8)
    (kk : ∀ (i : Nat) (se : Nat → Int32) (pl : Nat → Int32) (hN : Nat) (H : Heap) (locs : List Loc) (ls : Array Slot), (i = tN (vP v)) → va_P D vwCl (rfW h k (nI nv) vP vO vG (nI np) pD mV mF mM pX pY se pl (nI hN)) H → va_D A (rfW h k (nI nv) vP vO vG (nI np) pD mV mF mM pX pY se pl (nI hN)) → va_S A s.heap H locs → lv_has ls 6 [(0, .ref (h 0)), (1, .int (nI j)), (2, .int (nI v)), (3, .int (nI w)), (4, .int (nI (bxr (fun t => tb (MR nv np vG pD mV mF mM pX pY (nI v) t w j)) i))), (5, .int (nI i))] → W p l e rr_bits s m args below meth c H locs 0 0 Q (F0 m 73 ls [])) :
    ∀ (n : Nat) (i : Nat) (se : Nat → Int32) (pl : Nat → Int32) (hN : Nat) (H : Heap) (locs : List Loc) (ls : Array Slot), (i ≤ tN (vP v)) → tN (vP v) - i < n → va_P D vwCl (rfW h k (nI nv) vP vO vG (nI np) pD mV mF mM pX pY se pl (nI hN)) H → va_D A (rfW h k (nI nv) vP vO vG (nI np) pD mV mF mM pX pY se pl (nI hN)) → va_S A s.heap H locs → lv_has ls 6 [(0, .ref (h 0)), (1, .int (nI j)), (2, .int (nI v)), (3, .int (nI w)), (4, .int (nI (bxr (fun t => tb (MR nv np vG pD mV mF mM pX pY (nI v) t w j)) i))), (5, .int (nI i))] → W p l e rr_bits s m args below meth c H locs 0 0 Q (F0 m 6 ls []) := by
  have hin := ri_bits
  intro n
  induction n with
  | zero =>
    intro i se pl hN H locs ls hi hmz
    exact absurd hmz (Nat.not_lt_zero _)
  | succ n ih =>
    intro i se pl hN H locs ls hi hmz hP hD hS hl
    refine lv_aload_n hx hb dX1_bits_6 rfl (lv_at hl 0 rfl) ?_
    refine lv_iload_n hx hb dX1_bits_7 rfl (lv_at hl 1 rfl) ?_
    refine call_vi (As := [.int (nI j)]) (rest := []) ⟨hx, hb, hml, hown, hts⟩ (r_isPoint (nI j)) rp_bits_isPoint ⟨rfl, rfl⟩ ⟨Nat.le_of_ble_eq_true rfl, Nat.le_of_ble_eq_true rfl⟩ rfl rfl 0 rfl rfl hl.1 rfl (Nat.le_of_ble_eq_true rfl) dX1_bits_8 ⟨Nat.zero_le _, Nat.zero_le _⟩ hK hP hD hS hA (fun r8 u H locs p8 hP hD hS => ?_)
    try dsimp only at p8
    refine lv_if_eq (tgt := 73) hx hb dX1_bits_11 (by decide) (fun c11 => ?_) (fun c11 => ?_)
    · -- 11 t eq 
      exact absurd rfl (pt_out rfl hn p8 c11 j hj)
    · -- 11 f eq 
      refine lv_aload_n hx hb dX1_bits_14 rfl (lv_at hl 0 rfl) ?_
      refine lv_iload_n hx hb dX1_bits_15 rfl (lv_at hl 2 rfl) ?_
      refine call_vi (As := [.int (nI v)]) (rest := []) ⟨hx, hb, hml, hown, hts⟩ (r_isVariable (nI v)) rp_bits_isVariable ⟨rfl, rfl⟩ ⟨Nat.le_of_ble_eq_true rfl, Nat.le_of_ble_eq_true rfl⟩ rfl rfl 0 rfl rfl hl.1 rfl (Nat.le_of_ble_eq_true rfl) dX1_bits_16 ⟨Nat.zero_le _, Nat.zero_le _⟩ hK hP hD hS hA (fun r16 u H locs p16 hP hD hS => ?_)
      try dsimp only at p16
      refine lv_if_eq (tgt := 73) hx hb dX1_bits_19 (by decide) (fun c19 => ?_) (fun c19 => ?_)
      · -- 19 t eq 
        exact absurd rfl (pt_out rfl (by omega) p16 c19 v hv)
      · -- 19 f eq 
        refine lv_iload hx hb dX1_bits_22 (lv_at hl 5 rfl) ?_
        refine lv_aload_n hx hb dX1_bits_24 rfl (lv_at hl 0 rfl) ?_
        refine rf_g_vP hx hb hts hin hown hK hP (by decide +kernel) dX1_bits_25 ?_
        refine lv_iload_n hx hb dX1_bits_28 rfl (lv_at hl 2 rfl) ?_
        refine rf_l_vP (n := v) hx hb hK hP (by omega) dX1_bits_29 ?_
        refine lv_topi (fun x_1 ex_1 => ?_)
        obtain rfl : x_1 = nI (tN (vP v)) := ex_1.trans (hvp)
        refine lv_icmp_ge (tgt := 73) hx hb dX1_bits_30 (by decide) (fun c30 => ?_) (fun c30 => ?_)
        · -- 30 t ge 
          have n30 : tN (vP v) ≤ i := (nI_leI (by omega) (by omega)).mp c30
          exact kk i se pl hN H locs ls (by omega) hP hD hS (lv_sub hl [0, 1, 2, 3, 4, 5] rfl)
        · -- 30 f ge 
          have n30 : ¬ tN (vP v) ≤ i := fun z => c30 ((nI_leI (by omega) (by omega)).mpr z)
          refine lv_aload_n hx hb dX1_bits_33 rfl (lv_at hl 0 rfl) ?_
          refine lv_iload_n hx hb dX1_bits_34 rfl (lv_at hl 2 rfl) ?_
          refine lv_iload hx hb dX1_bits_35 (lv_at hl 5 rfl) ?_
          refine call_vv (As := [.int (nI v), .int (nI i)]) (rest := []) ⟨hx, hb, hml, hown, hts⟩ (r_go (nI v) nv np i hN hnv hn) rp_bits_go ⟨rfl, rfl⟩ ⟨Nat.le_of_ble_eq_true rfl, Nat.le_of_ble_eq_true rfl⟩ rfl rfl 0 rfl rfl hl.1 rfl (Nat.le_of_ble_eq_true rfl) dX1_bits_37 ⟨Nat.zero_le _, Nat.zero_le _⟩ hK hP hD hS hA (fun u H locs p37 hP hD hS => ?_)
          obtain ⟨se_37, pl_37, hg_37⟩ := u
          have hP : va_P D vwCl (rfW h k (nI nv) vP vO vG (nI np) pD mV mF mM pX pY se_37 pl_37 (nI hg_37)) H := hP
          have hD : va_D A (rfW h k (nI nv) vP vO vG (nI np) pD mV mF mM pX pY se_37 pl_37 (nI hg_37)) := hD
          try dsimp only at p37
          refine lv_aload_n hx hb dX1_bits_40 rfl (lv_at hl 0 rfl) ?_
          refine rf_g_se hx hb hts hin hown hK hP (by decide +kernel) dX1_bits_41 ?_
          refine lv_iconst (v := 2) hx hb dX1_bits_44 (by decide) ?_
          refine lv_iload_n hx hb dX1_bits_45 rfl (lv_at hl 1 rfl) ?_
          refine lv_imul hx hb dX1_bits_46 ?_
          refine lv_topi (fun x_2 ex_2 => ?_)
          obtain rfl : x_2 = nI (2 * j) := ex_2.trans (pk_mul 2 j)
          refine lv_iload_n hx hb dX1_bits_47 rfl (lv_at hl 3 rfl) ?_
          refine lv_iadd hx hb dX1_bits_48 ?_
          refine lv_topi (fun x_3 ex_3 => ?_)
          obtain rfl : x_3 = nI ((2 * j) + w) := ex_3.trans (nI_add (2 * j) w)
          refine rf_l_se (n := ((2 * j) + w)) hx hb hK hP (by omega) dX1_bits_49 ?_
          refine lv_if_eq (tgt := 63) hx hb dX1_bits_50 (by decide) (fun c50 => ?_) (fun c50 => ?_)
          · -- 50 t eq 
            have hf : (fun t => tb (MR nv np vG pD mV mF mM pX pY (nI v) t w j)) i = false := tb_f (fun z => se_z c50 ((p37.2.1 j w hj hw).mpr z))
            refine lv_iload hx hb dX1_bits_63 (lv_at hl 4 rfl) ?_
            refine lv_topi (fun x_4 ex_4 => ?_)
            obtain rfl : x_4 = nI (bxr (fun t => tb (MR nv np vG pD mV mF mM pX pY (nI v) t w j)) (i + 1)) := ex_4.trans (bxr_0 hf)
            refine lv_istore (lv' := [(4, .int (nI (bxr (fun t => tb (MR nv np vG pD mV mF mM pX pY (nI v) t w j)) (i + 1)))), (0, .ref (h 0)), (1, .int (nI j)), (2, .int (nI v)), (3, .int (nI w)), (5, .int (nI i))]) hx hb dX1_bits_65 hl (by decide) rfl (fun ls hl => ?_)
            refine lv_iinc (v := nI (i + 1)) (lv' := [(5, .int (nI (i + 1))), (4, .int (nI (bxr (fun t => tb (MR nv np vG pD mV mF mM pX pY (nI v) t w j)) (i + 1)))), (0, .ref (h 0)), (1, .int (nI j)), (2, .int (nI v)), (3, .int (nI w))]) hx hb dX1_bits_67 hl (k := 5) rfl (nI_add i 1) (by decide) rfl (fun ls hl => ?_)
            refine lv_goto (tgt := 6) hx hb dX1_bits_70 (by decide) ?_
            exact ih (i + 1) se_37 pl_37 hg_37 H locs ls (by omega) (by omega) hP hD hS (lv_sub hl [2, 3, 4, 5, 1, 0] rfl)
          · -- 50 f eq 
            have hf : (fun t => tb (MR nv np vG pD mV mF mM pX pY (nI v) t w j)) i = true := tb_t ((p37.2.1 j w hj hw).mp (se_no p37.1 (by omega) c50))
            refine lv_iload hx hb dX1_bits_53 (lv_at hl 4 rfl) ?_
            refine lv_iconst (v := 1) hx hb dX1_bits_55 (by decide) ?_
            refine lv_iload hx hb dX1_bits_56 (lv_at hl 5 rfl) ?_
            refine lv_ishl hx hb dX1_bits_58 ?_
            refine lv_ior hx hb dX1_bits_59 ?_
            refine lv_topi (fun x_5 ex_5 => ?_)
            obtain rfl : x_5 = nI (bxr (fun t => tb (MR nv np vG pD mV mF mM pX pY (nI v) t w j)) (i + 1)) := ex_5.trans (bxr_1 hf (by omega))
            refine lv_goto (tgt := 65) hx hb dX1_bits_60 (by decide) ?_
            refine lv_istore (lv' := [(4, .int (nI (bxr (fun t => tb (MR nv np vG pD mV mF mM pX pY (nI v) t w j)) (i + 1)))), (0, .ref (h 0)), (1, .int (nI j)), (2, .int (nI v)), (3, .int (nI w)), (5, .int (nI i))]) hx hb dX1_bits_65 hl (by decide) rfl (fun ls hl => ?_)
            refine lv_iinc (v := nI (i + 1)) (lv' := [(5, .int (nI (i + 1))), (4, .int (nI (bxr (fun t => tb (MR nv np vG pD mV mF mM pX pY (nI v) t w j)) (i + 1)))), (0, .ref (h 0)), (1, .int (nI j)), (2, .int (nI v)), (3, .int (nI w))]) hx hb dX1_bits_67 hl (k := 5) rfl (nI_add i 1) (by decide) rfl (fun ls hl => ?_)
            refine lv_goto (tgt := 6) hx hb dX1_bits_70 (by decide) ?_
            exact ih (i + 1) se_37 pl_37 hg_37 H locs ls (by omega) (by omega) hP hD hS (lv_sub hl [2, 3, 4, 5, 1, 0] rfl)

set_option maxHeartbeats 4000000 in
set_option maxRecDepth 100000 in
theorem r_bits {l : Launch} {D : va_G} {h : Nat → Nat} {k : Nat → ClassId} {vP vO vG pD mV mF mM pX pY se pl : Nat → Int32} (nv np hN : Nat) (x y : Int32) (w : Nat) (hi : RI nv np vP pD mV) (hw : w < 2) : ct l yX1_bits wsX1_bits rr_bits D vwCl (rfT k) [.ref (h 0), .int x, .int y, .int (nI w)] (rfW h k (nI nv) vP vO vG (nI np) pD mV mF mM pX pY se pl (nI hN)) (qI D vwCl (rfT k) (fun (r : Int32) (u : (Nat → Int32) × (Nat → Int32) × Nat) => (((∀ j, j < np → ¬ x = nI j) ∨ ∀ v, v < nv → ¬ y = nI v) ∧ r = 0) ∨ ∃ j v, j < np ∧ v < nv ∧ x = nI j ∧ y = nI v ∧ r = nI (bxN nv np vP vG pD mV mF mM pX pY w j v)) (fun u => rfW h k (nI nv) vP vO vG (nI np) pD mV mF mM pX pY u.1 u.2.1 (nI u.2.2))) 0 0 := by
  refine ct_of (cc := cX1_bits) (maxL := 6) (ret := some .int) (by decide) rfl (Nat.le_of_ble_eq_true rfl) ?_
  intro p e s m below meth c A ls hx hb hr hml hlocks hown hnm hts hA hK hP hD hS hl
  have hown : s.vm.findClass RX1 = some m.cls := hown
  have hin := ri_bits
  have hl : lv_has ls 6 [(0, .ref (h 0)), (1, .int x), (2, .int y), (3, .int (nI w))] := hl
  have hnv : nv ≤ 20 := hi.1
  have hn : np ≤ 120 := hi.2.1
  refine lv_iconst (v := nI 0) hx hb dX1_bits_0 (by decide) ?_
  refine lv_istore (lv' := [(4, .int (nI 0)), (0, .ref (h 0)), (1, .int x), (2, .int y), (3, .int (nI w))]) hx hb dX1_bits_1 hl (by decide) rfl (fun ls hl => ?_)
  refine lv_iconst (v := nI 0) hx hb dX1_bits_3 (by decide) ?_
  refine lv_istore (lv' := [(5, .int (nI 0)), (4, .int (nI 0)), (0, .ref (h 0)), (1, .int x), (2, .int y), (3, .int (nI w))]) hx hb dX1_bits_4 hl (by decide) rfl (fun ls hl => ?_)
  by_cases hc : (∃ j, j < np ∧ x = nI j) ∧ ∃ v, v < nv ∧ y = nI v
  · obtain ⟨⟨j, hj, rfl⟩, v, hv, rfl⟩ := hc
    refine lq_bt hx hb hml hown hts hA hK hnv hn hj hv hw (hi.2.2.1 v hv).1 (hi.2.2.1 v hv).2 ?_ _ 0 se pl hN _ _ ls (Nat.zero_le _) (Nat.lt_succ_self _) hP hD hS (lv_sub hl [2, 3, 4, 5, 1, 0] rfl)
    intro i1 se9 pl9 hN9 H locs ls hie hP hD hS hl
    subst hie
    refine lv_iload hx hb dX1_bits_73 (lv_at hl 4 rfl) ?_
    exact ret_i hx hb hr hlocks hK hP hD hS dX1_bits_75 (se9, pl9, hN9) rfl (Or.inr ⟨j, v, hj, hv, rfl, rfl, rfl⟩)
  · skip
    refine lv_aload_n hx hb dX1_bits_6 rfl (lv_at hl 2 rfl) ?_
    refine lv_iload_n hx hb dX1_bits_7 rfl (lv_at hl 3 rfl) ?_
    refine call_vi (As := [.int x]) (rest := []) ⟨hx, hb, hml, hown, hts⟩ (r_isPoint x) rp_bits_isPoint ⟨rfl, rfl⟩ ⟨Nat.le_of_ble_eq_true rfl, Nat.le_of_ble_eq_true rfl⟩ rfl rfl 0 rfl rfl hl.1 rfl (Nat.le_of_ble_eq_true rfl) dX1_bits_8 ⟨Nat.zero_le _, Nat.zero_le _⟩ hK hP hD hS hA (fun r8 u H locs p8 hP hD hS => ?_)
    try dsimp only at p8
    refine lv_if_eq (tgt := 73) hx hb dX1_bits_11 (by decide) (fun c11 => ?_) (fun c11 => ?_)
    · -- 11 t eq 
      refine lv_iload hx hb dX1_bits_73 (lv_at hl 1 rfl) ?_
      exact ret_i hx hb hr hlocks hK hP hD hS dX1_bits_75 (se, pl, hN) rfl (Or.inl ⟨Or.inl (pt_out rfl hn p8 c11), rfl⟩)
    · -- 11 f eq 
      obtain ⟨j, hj, hxj⟩ := pt_in rfl hn p8 c11
      refine lv_aload_n hx hb dX1_bits_14 rfl (lv_at hl 2 rfl) ?_
      refine lv_iload_n hx hb dX1_bits_15 rfl (lv_at hl 4 rfl) ?_
      refine call_vi (As := [.int y]) (rest := []) ⟨hx, hb, hml, hown, hts⟩ (r_isVariable y) rp_bits_isVariable ⟨rfl, rfl⟩ ⟨Nat.le_of_ble_eq_true rfl, Nat.le_of_ble_eq_true rfl⟩ rfl rfl 0 rfl rfl hl.1 rfl (Nat.le_of_ble_eq_true rfl) dX1_bits_16 ⟨Nat.zero_le _, Nat.zero_le _⟩ hK hP hD hS hA (fun r16 u H locs p16 hP hD hS => ?_)
      try dsimp only at p16
      refine lv_if_eq (tgt := 73) hx hb dX1_bits_19 (by decide) (fun c19 => ?_) (fun c19 => ?_)
      · -- 19 t eq 
        refine lv_iload hx hb dX1_bits_73 (lv_at hl 1 rfl) ?_
        exact ret_i hx hb hr hlocks hK hP hD hS dX1_bits_75 (se, pl, hN) rfl (Or.inl ⟨Or.inr (pt_out rfl (by omega) p16 c19), rfl⟩)
      · -- 19 f eq 
        exact absurd ⟨⟨j, hj, hxj⟩, pt_in rfl (by omega) p16 c19⟩ hc

abbrev rr_without : Room := { frames := 4, cells := 0, slots := 0, locals := 94 }
theorem ri_without : ∀ w ∈ u_ws RX1 TX1 14, w ∈ wsX1_without := by decide +kernel
theorem rp_without_bits : cpV wsX1_without RX1 68 RX1 yX1_bits wsX1_bits cX1_bits 6 (some .int) 3 := ⟨gX1_without_X1_bits, ⟨_, rfl⟩, by decide +kernel⟩
set_option maxHeartbeats 4000000 in
set_option maxRecDepth 100000 in
theorem r_without {l : Launch} {D : va_G} {h : Nat → Nat} {k : Nat → ClassId} {vP vO vG pD mV mF mM pX pY se pl : Nat → Int32} (nv np hN : Nat) (x y : Int32) (hi : RI nv np vP pD mV) : ct l yX1_without wsX1_without rr_without D vwCl (rfT k) [.ref (h 0), .int x, .int y] (rfW h k (nI nv) vP vO vG (nI np) pD mV mF mM pX pY se pl (nI hN)) (qI D vwCl (rfT k) (fun (r : Int32) (u : (Nat → Int32) × (Nat → Int32) × Nat) => (((∀ j, j < np → ¬ x = nI j) ∨ ∀ v, v < nv → ¬ y = nI v) ∧ r = 0) ∨ ∃ j v, j < np ∧ v < nv ∧ x = nI j ∧ y = nI v ∧ r = nI (bxN nv np vP vG pD mV mF mM pX pY 0 j v)) (fun u => rfW h k (nI nv) vP vO vG (nI np) pD mV mF mM pX pY u.1 u.2.1 (nI u.2.2))) 0 0 := by
  refine ct_of (cc := cX1_without) (maxL := 3) (ret := some .int) (by decide) rfl (Nat.le_of_ble_eq_true rfl) ?_
  intro p e s m below meth c A ls hx hb hr hml hlocks hown hnm hts hA hK hP hD hS hl
  have hown : s.vm.findClass RX1 = some m.cls := hown
  have hin := ri_without
  have hl : lv_has ls 3 [(0, .ref (h 0)), (1, .int x), (2, .int y)] := hl
  refine lv_aload_n hx hb dX1_without_0 rfl (lv_at hl 0 rfl) ?_
  refine lv_iload_n hx hb dX1_without_1 rfl (lv_at hl 1 rfl) ?_
  refine lv_iload_n hx hb dX1_without_2 rfl (lv_at hl 2 rfl) ?_
  refine lv_iconst (v := nI 0) hx hb dX1_without_3 (by decide) ?_
  refine call_vi (As := [.int x, .int y, .int (nI 0)]) (rest := []) ⟨hx, hb, hml, hown, hts⟩ (r_bits nv np hN x y 0 hi (by decide)) rp_without_bits ⟨rfl, rfl⟩ ⟨Nat.le_of_ble_eq_true rfl, Nat.le_of_ble_eq_true rfl⟩ rfl rfl 0 rfl rfl hl.1 rfl (Nat.le_of_ble_eq_true rfl) dX1_without_4 ⟨Nat.zero_le _, Nat.zero_le _⟩ hK hP hD hS hA (fun r4 u H locs p4 hP hD hS => ?_)
  obtain ⟨se_4, pl_4, hg_4⟩ := u
  have hP : va_P D vwCl (rfW h k (nI nv) vP vO vG (nI np) pD mV mF mM pX pY se_4 pl_4 (nI hg_4)) H := hP
  have hD : va_D A (rfW h k (nI nv) vP vO vG (nI np) pD mV mF mM pX pY se_4 pl_4 (nI hg_4)) := hD
  try dsimp only at p4
  exact ret_i hx hb hr hlocks hK hP hD hS dX1_without_7 (se_4, pl_4, hg_4) rfl (p4)

abbrev rr_having : Room := { frames := 4, cells := 0, slots := 0, locals := 94 }
theorem ri_having : ∀ w ∈ u_ws RX1 TX1 14, w ∈ wsX1_having := by decide +kernel
theorem rp_having_bits : cpV wsX1_having RX1 68 RX1 yX1_bits wsX1_bits cX1_bits 6 (some .int) 3 := ⟨gX1_having_X1_bits, ⟨_, rfl⟩, by decide +kernel⟩
set_option maxHeartbeats 4000000 in
set_option maxRecDepth 100000 in
theorem r_having {l : Launch} {D : va_G} {h : Nat → Nat} {k : Nat → ClassId} {vP vO vG pD mV mF mM pX pY se pl : Nat → Int32} (nv np hN : Nat) (x y : Int32) (hi : RI nv np vP pD mV) : ct l yX1_having wsX1_having rr_having D vwCl (rfT k) [.ref (h 0), .int x, .int y] (rfW h k (nI nv) vP vO vG (nI np) pD mV mF mM pX pY se pl (nI hN)) (qI D vwCl (rfT k) (fun (r : Int32) (u : (Nat → Int32) × (Nat → Int32) × Nat) => (((∀ j, j < np → ¬ x = nI j) ∨ ∀ v, v < nv → ¬ y = nI v) ∧ r = 0) ∨ ∃ j v, j < np ∧ v < nv ∧ x = nI j ∧ y = nI v ∧ r = nI (bxN nv np vP vG pD mV mF mM pX pY 1 j v)) (fun u => rfW h k (nI nv) vP vO vG (nI np) pD mV mF mM pX pY u.1 u.2.1 (nI u.2.2))) 0 0 := by
  refine ct_of (cc := cX1_having) (maxL := 3) (ret := some .int) (by decide) rfl (Nat.le_of_ble_eq_true rfl) ?_
  intro p e s m below meth c A ls hx hb hr hml hlocks hown hnm hts hA hK hP hD hS hl
  have hown : s.vm.findClass RX1 = some m.cls := hown
  have hin := ri_having
  have hl : lv_has ls 3 [(0, .ref (h 0)), (1, .int x), (2, .int y)] := hl
  refine lv_aload_n hx hb dX1_having_0 rfl (lv_at hl 0 rfl) ?_
  refine lv_iload_n hx hb dX1_having_1 rfl (lv_at hl 1 rfl) ?_
  refine lv_iload_n hx hb dX1_having_2 rfl (lv_at hl 2 rfl) ?_
  refine lv_iconst (v := nI 1) hx hb dX1_having_3 (by decide) ?_
  refine call_vi (As := [.int x, .int y, .int (nI 1)]) (rest := []) ⟨hx, hb, hml, hown, hts⟩ (r_bits nv np hN x y 1 hi (by decide)) rp_having_bits ⟨rfl, rfl⟩ ⟨Nat.le_of_ble_eq_true rfl, Nat.le_of_ble_eq_true rfl⟩ rfl rfl 0 rfl rfl hl.1 rfl (Nat.le_of_ble_eq_true rfl) dX1_having_4 ⟨Nat.zero_le _, Nat.zero_le _⟩ hK hP hD hS hA (fun r4 u H locs p4 hP hD hS => ?_)
  obtain ⟨se_4, pl_4, hg_4⟩ := u
  have hP : va_P D vwCl (rfW h k (nI nv) vP vO vG (nI np) pD mV mF mM pX pY se_4 pl_4 (nI hg_4)) H := hP
  have hD : va_D A (rfW h k (nI nv) vP vO vG (nI np) pD mV mF mM pX pY se_4 pl_4 (nI hg_4)) := hD
  try dsimp only at p4
  exact ret_i hx hb hr hlocks hK hP hD hS dX1_having_7 (se_4, pl_4, hg_4) rfl (p4)

abbrev rr_fault : Room := { frames := 5, cells := 0, slots := 0, locals := 116 }
theorem ri_fault : ∀ w ∈ u_ws RX1 TX1 14, w ∈ wsX1_fault := by decide +kernel
theorem rp_fault_having : cpV wsX1_fault RX1 79 RX1 yX1_having wsX1_having cX1_having 3 (some .int) 2 := ⟨gX1_fault_X1_having, ⟨_, rfl⟩, by decide +kernel⟩
theorem rp_fault_isPoint : cpV wsX1_fault RX1 55 RX1 yX1_isPoint wsX1_isPoint cX1_isPoint 2 (some .boolean) 1 := ⟨gX1_fault_X1_isPoint, ⟨_, rfl⟩, by decide +kernel⟩
theorem rp_fault_isReached : cpV wsX1_fault RX1 72 RX1 yX1_isReached wsX1_isReached cX1_isReached 2 (some .boolean) 1 := ⟨gX1_fault_X1_isReached, ⟨_, rfl⟩, by decide +kernel⟩
theorem rp_fault_without : cpV wsX1_fault RX1 75 RX1 yX1_without wsX1_without cX1_without 3 (some .int) 2 := ⟨gX1_fault_X1_without, ⟨_, rfl⟩, by decide +kernel⟩
set_option maxHeartbeats 4000000 in
set_option maxRecDepth 100000 in
theorem r_fault {l : Launch} {D : va_G} {h : Nat → Nat} {k : Nat → ClassId} {vP vO vG pD mV mF mM pX pY se pl : Nat → Int32} (nv np hN : Nat) (x : Int32) (hi : RI nv np vP pD mV) : ct l yX1_fault wsX1_fault rr_fault D vwCl (rfT k) [.ref (h 0), .int x] (rfW h k (nI nv) vP vO vG (nI np) pD mV mF mM pX pY se pl (nI hN)) (qI D vwCl (rfT k) (fun (r : Int32) (u : (Nat → Int32) × (Nat → Int32) × Nat) => ((∀ j, j < np → ¬ x = nI j) ∧ r = -1) ∨ ∃ j, j < np ∧ x = nI j ∧ r = frv nv np vP vO vG pD mV mF mM pX pY j) (fun u => rfW h k (nI nv) vP vO vG (nI np) pD mV mF mM pX pY u.1 u.2.1 (nI u.2.2))) 0 0 := by
  refine ct_of (cc := cX1_fault) (maxL := 5) (ret := some .int) (by decide) rfl (Nat.le_of_ble_eq_true rfl) ?_
  intro p e s m below meth c A ls hx hb hr hml hlocks hown hnm hts hA hK hP hD hS hl
  have hown : s.vm.findClass RX1 = some m.cls := hown
  have hin := ri_fault
  have hl : lv_has ls 5 [(0, .ref (h 0)), (1, .int x)] := hl
  have hnv : nv ≤ 20 := hi.1
  have hn : np ≤ 120 := hi.2.1
  refine lv_aload_n hx hb dX1_fault_0 rfl (lv_at hl 0 rfl) ?_
  refine lv_iload_n hx hb dX1_fault_1 rfl (lv_at hl 1 rfl) ?_
  refine call_vi (As := [.int x]) (rest := []) ⟨hx, hb, hml, hown, hts⟩ (r_isPoint x) rp_fault_isPoint ⟨rfl, rfl⟩ ⟨Nat.le_of_ble_eq_true rfl, Nat.le_of_ble_eq_true rfl⟩ rfl rfl 0 rfl rfl hl.1 rfl (Nat.le_of_ble_eq_true rfl) dX1_fault_2 ⟨Nat.zero_le _, Nat.zero_le _⟩ hK hP hD hS hA (fun r2 u H locs p2 hP hD hS => ?_)
  try dsimp only at p2
  refine lv_if_ne (tgt := 10) hx hb dX1_fault_5 (by decide) (fun c5 => ?_) (fun c5 => ?_)
  · -- 5 t ne 
    obtain ⟨j, hj, rfl⟩ := pt_in rfl hn p2 c5
    refine lv_aload_n hx hb dX1_fault_10 rfl (lv_at hl 0 rfl) ?_
    refine rf_g_pD hx hb hts hin hown hK hP (by decide +kernel) dX1_fault_11 ?_
    refine lv_iload_n hx hb dX1_fault_14 rfl (lv_at hl 1 rfl) ?_
    refine rf_l_pD (n := j) hx hb hK hP (by omega) dX1_fault_15 ?_
    refine lv_istore_n (lv' := [(2, .int (pD j)), (0, .ref (h 0)), (1, .int (nI j))]) hx hb dX1_fault_16 rfl hl (by decide) rfl (fun ls hl => ?_)
    refine lv_iload_n hx hb dX1_fault_17 rfl (lv_at hl 0 rfl) ?_
    refine lv_iconst (v := 1) hx hb dX1_fault_18 (by decide) ?_
    refine lv_icmp_lt (tgt := 35) hx hb dX1_fault_19 (by decide) (fun c19 => ?_) (fun c19 => ?_)
    · -- 19 t lt 
      refine lv_iconst (v := 0) hx hb dX1_fault_35 (by decide) ?_
      exact ret_i hx hb hr hlocks hK hP hD hS dX1_fault_36 (se, pl, hN) rfl (Or.inr ⟨j, hj, rfl, by unfold frv; rw [if_pos (Or.inl c19)]⟩)
    · -- 19 f lt 
      refine lv_iload_n hx hb dX1_fault_22 rfl (lv_at hl 0 rfl) ?_
      refine lv_iconst (v := 3) hx hb dX1_fault_23 (by decide) ?_
      refine lv_icmp_gt (tgt := 35) hx hb dX1_fault_24 (by decide) (fun c24 => ?_) (fun c24 => ?_)
      · -- 24 t gt 
        refine lv_iconst (v := 0) hx hb dX1_fault_35 (by decide) ?_
        exact ret_i hx hb hr hlocks hK hP hD hS dX1_fault_36 (se, pl, hN) rfl (Or.inr ⟨j, hj, rfl, by unfold frv; rw [if_pos (Or.inr (Or.inl c24))]⟩)
      · -- 24 f gt 
        refine lv_aload_n hx hb dX1_fault_27 rfl (lv_at hl 1 rfl) ?_
        refine lv_iload_n hx hb dX1_fault_28 rfl (lv_at hl 2 rfl) ?_
        refine call_vi (As := [.int (nI j)]) (rest := []) ⟨hx, hb, hml, hown, hts⟩ (r_isReached nv np hN (nI j) hi) rp_fault_isReached ⟨rfl, rfl⟩ ⟨Nat.le_of_ble_eq_true rfl, Nat.le_of_ble_eq_true rfl⟩ rfl rfl 0 rfl rfl hl.1 rfl (Nat.le_of_ble_eq_true rfl) dX1_fault_29 ⟨Nat.zero_le _, Nat.zero_le _⟩ hK hP hD hS hA (fun r29 u H locs p29 hP hD hS => ?_)
        obtain ⟨se_29, pl_29, hg_29⟩ := u
        have hP : va_P D vwCl (rfW h k (nI nv) vP vO vG (nI np) pD mV mF mM pX pY se_29 pl_29 (nI hg_29)) H := hP
        have hD : va_D A (rfW h k (nI nv) vP vO vG (nI np) pD mV mF mM pX pY se_29 pl_29 (nI hg_29)) := hD
        try dsimp only at p29
        have q29 := pt_un (P := fun j r => (r = 1 ∧ rch (ed pX pY np) np j) ∨ (r = 0 ∧ ¬ rch (ed pX pY np) np j)) hn hj p29
        refine lv_if_ne (tgt := 37) hx hb dX1_fault_32 (by decide) (fun c32 => ?_) (fun c32 => ?_)
        · -- 32 t ne 
          have hnz : ¬ (pD j < 1 ∨ 3 < pD j ∨ tb (rch (ed pX pY np) np j) = false) := fun z => z.elim c19 (fun z => z.elim c24 (fun z => by rw [tb_t (yn_yes q29 c32)] at z; cases z))
          refine lv_aload_n hx hb dX1_fault_37 rfl (lv_at hl 1 rfl) ?_
          refine rf_g_mV hx hb hts hin hown hK hP (by decide +kernel) dX1_fault_38 ?_
          refine lv_iload_n hx hb dX1_fault_41 rfl (lv_at hl 2 rfl) ?_
          refine rf_l_mV (n := j) hx hb hK hP (by omega) dX1_fault_42 ?_
          refine lv_topi (fun x_1 ex_1 => ?_)
          obtain rfl : x_1 = nI (tN (mV j)) := ex_1.trans ((hi.2.2.2 j hj c19 c24).1)
          refine lv_istore_n (lv' := [(3, .int (nI (tN (mV j)))), (2, .int (pD j)), (0, .ref (h 0)), (1, .int (nI j))]) hx hb dX1_fault_43 rfl hl (by decide) rfl (fun ls hl => ?_)
          refine lv_iload_n hx hb dX1_fault_44 rfl (lv_at hl 1 rfl) ?_
          refine lv_iconst (v := 1) hx hb dX1_fault_45 (by decide) ?_
          refine lv_icmp_eq (tgt := 86) hx hb dX1_fault_46 (by decide) (fun c46 => ?_) (fun c46 => ?_)
          · -- 46 t eq 
            refine lv_aload_n hx hb dX1_fault_86 rfl (lv_at hl 2 rfl) ?_
            refine rf_g_vO hx hb hts hin hown hK hP (by decide +kernel) dX1_fault_87 ?_
            refine lv_iload_n hx hb dX1_fault_90 rfl (lv_at hl 0 rfl) ?_
            refine rf_l_vO (n := (tN (mV j))) hx hb hK hP (Nat.lt_of_lt_of_le (hi.2.2.2 j hj c19 c24).2 hnv) dX1_fault_91 ?_
            refine lv_if_ne (tgt := 97) hx hb dX1_fault_92 (by decide) (fun c92 => ?_) (fun c92 => ?_)
            · -- 92 t ne 
              refine lv_aload_n hx hb dX1_fault_97 rfl (lv_at hl 2 rfl) ?_
              refine rf_g_mM hx hb hts hin hown hK hP (by decide +kernel) dX1_fault_98 ?_
              refine lv_iload_n hx hb dX1_fault_101 rfl (lv_at hl 3 rfl) ?_
              refine rf_l_mM (n := j) hx hb hK hP (by omega) dX1_fault_102 ?_
              refine lv_aload_n hx hb dX1_fault_103 rfl (lv_at hl 2 rfl) ?_
              refine rf_g_vP hx hb hts hin hown hK hP (by decide +kernel) dX1_fault_104 ?_
              refine lv_iload_n hx hb dX1_fault_107 rfl (lv_at hl 0 rfl) ?_
              refine rf_l_vP (n := (tN (mV j))) hx hb hK hP (Nat.lt_of_lt_of_le (hi.2.2.2 j hj c19 c24).2 hnv) dX1_fault_108 ?_
              refine lv_icmp_ge (tgt := 116) hx hb dX1_fault_109 (by decide) (fun c109 => ?_) (fun c109 => ?_)
              · -- 109 t ge 
                refine lv_aload_n hx hb dX1_fault_116 rfl (lv_at hl 2 rfl) ?_
                refine lv_iload_n hx hb dX1_fault_117 rfl (lv_at hl 3 rfl) ?_
                refine lv_iload_n hx hb dX1_fault_118 rfl (lv_at hl 0 rfl) ?_
                refine call_vi (As := [.int (nI j), .int (nI (tN (mV j)))]) (rest := []) ⟨hx, hb, hml, hown, hts⟩ (r_having nv np hg_29 (nI j) (nI (tN (mV j))) hi) rp_fault_having ⟨rfl, rfl⟩ ⟨Nat.le_of_ble_eq_true rfl, Nat.le_of_ble_eq_true rfl⟩ rfl rfl 0 rfl rfl hl.1 rfl (Nat.le_of_ble_eq_true rfl) dX1_fault_119 ⟨Nat.zero_le _, Nat.zero_le _⟩ hK hP hD hS hA (fun r119 u H locs p119 hP hD hS => ?_)
                obtain ⟨se_119, pl_119, hg_119⟩ := u
                have hP : va_P D vwCl (rfW h k (nI nv) vP vO vG (nI np) pD mV mF mM pX pY se_119 pl_119 (nI hg_119)) H := hP
                have hD : va_D A (rfW h k (nI nv) vP vO vG (nI np) pD mV mF mM pX pY se_119 pl_119 (nI hg_119)) := hD
                try dsimp only at p119
                obtain rfl := pv_un (f := fun a b => nI (bxN nv np vP vG pD mV mF mM pX pY 1 a b)) hn hnv hj (hi.2.2.2 j hj c19 c24).2 p119
                refine lv_if_eq (tgt := 129) hx hb dX1_fault_122 (by decide) (fun c122 => ?_) (fun c122 => ?_)
                · -- 122 t eq 
                  refine lv_iconst (v := 0) hx hb dX1_fault_129 (by decide) ?_
                  exact ret_i hx hb hr hlocks hK hP hD hS dX1_fault_130 (se_119, pl_119, hg_119) rfl (Or.inr ⟨j, hj, rfl, by unfold frv; rw [if_neg hnz, if_pos c46, if_neg c92, if_neg (fun z => z c109), if_pos c122]⟩)
                · -- 122 f eq 
                  refine lv_iconst (v := 2) hx hb dX1_fault_125 (by decide) ?_
                  refine lv_goto (tgt := 130) hx hb dX1_fault_126 (by decide) ?_
                  exact ret_i hx hb hr hlocks hK hP hD hS dX1_fault_130 (se_119, pl_119, hg_119) rfl (Or.inr ⟨j, hj, rfl, by unfold frv; rw [if_neg hnz, if_pos c46, if_neg c92, if_neg (fun z => z c109), if_neg c122]⟩)
              · -- 109 f ge 
                refine lv_iconst (v := 3) hx hb dX1_fault_112 (by decide) ?_
                refine lv_goto (tgt := 130) hx hb dX1_fault_113 (by decide) ?_
                exact ret_i hx hb hr hlocks hK hP hD hS dX1_fault_130 (se_29, pl_29, hg_29) rfl (Or.inr ⟨j, hj, rfl, by unfold frv; rw [if_neg hnz, if_pos c46, if_neg c92, if_pos c109]⟩)
            · -- 92 f ne 
              refine lv_iconst (v := 0) hx hb dX1_fault_95 (by decide) ?_
              exact ret_i hx hb hr hlocks hK hP hD hS dX1_fault_96 (se_29, pl_29, hg_29) rfl (Or.inr ⟨j, hj, rfl, by unfold frv; rw [if_neg hnz, if_pos c46, if_pos c92]⟩)
          · -- 46 f eq 
            refine lv_iconst (v := 1) hx hb dX1_fault_49 (by decide) ?_
            refine lv_aload_n hx hb dX1_fault_50 rfl (lv_at hl 2 rfl) ?_
            refine rf_g_mM hx hb hts hin hown hK hP (by decide +kernel) dX1_fault_51 ?_
            refine lv_iload_n hx hb dX1_fault_54 rfl (lv_at hl 3 rfl) ?_
            refine rf_l_mM (n := j) hx hb hK hP (by omega) dX1_fault_55 ?_
            refine lv_ishl hx hb dX1_fault_56 ?_
            refine lv_iconst (v := 1) hx hb dX1_fault_57 (by decide) ?_
            refine lv_isub hx hb dX1_fault_58 ?_
            refine lv_aload_n hx hb dX1_fault_59 rfl (lv_at hl 2 rfl) ?_
            refine rf_g_mF hx hb hts hin hown hK hP (by decide +kernel) dX1_fault_60 ?_
            refine lv_iload_n hx hb dX1_fault_63 rfl (lv_at hl 3 rfl) ?_
            refine rf_l_mF (n := j) hx hb hK hP (by omega) dX1_fault_64 ?_
            refine lv_ishl hx hb dX1_fault_65 ?_
            refine lv_topi (fun x_2 ex_2 => ?_)
            obtain rfl : x_2 = lb (mM j) <<< (mF j &&& 31) := ex_2.trans (rfl)
            refine lv_istore (lv' := [(4, .int (lb (mM j) <<< (mF j &&& 31))), (3, .int (nI (tN (mV j)))), (2, .int (pD j)), (0, .ref (h 0)), (1, .int (nI j))]) hx hb dX1_fault_66 hl (by decide) rfl (fun ls hl => ?_)
            refine lv_aload_n hx hb dX1_fault_68 rfl (lv_at hl 3 rfl) ?_
            refine lv_iload_n hx hb dX1_fault_69 rfl (lv_at hl 4 rfl) ?_
            refine lv_iload_n hx hb dX1_fault_70 rfl (lv_at hl 1 rfl) ?_
            refine call_vi (As := [.int (nI j), .int (nI (tN (mV j)))]) (rest := []) ⟨hx, hb, hml, hown, hts⟩ (r_without nv np hg_29 (nI j) (nI (tN (mV j))) hi) rp_fault_without ⟨rfl, rfl⟩ ⟨Nat.le_of_ble_eq_true rfl, Nat.le_of_ble_eq_true rfl⟩ rfl rfl 0 rfl rfl hl.1 rfl (Nat.le_of_ble_eq_true rfl) dX1_fault_71 ⟨Nat.zero_le _, Nat.zero_le _⟩ hK hP hD hS hA (fun r71 u H locs p71 hP hD hS => ?_)
            obtain ⟨se_71, pl_71, hg_71⟩ := u
            have hP : va_P D vwCl (rfW h k (nI nv) vP vO vG (nI np) pD mV mF mM pX pY se_71 pl_71 (nI hg_71)) H := hP
            have hD : va_D A (rfW h k (nI nv) vP vO vG (nI np) pD mV mF mM pX pY se_71 pl_71 (nI hg_71)) := hD
            try dsimp only at p71
            obtain rfl := pv_un (f := fun a b => nI (bxN nv np vP vG pD mV mF mM pX pY 0 a b)) hn hnv hj (hi.2.2.2 j hj c19 c24).2 p71
            refine lv_iload hx hb dX1_fault_74 (lv_at hl 0 rfl) ?_
            refine lv_iand hx hb dX1_fault_76 ?_
            refine lv_if_eq (tgt := 84) hx hb dX1_fault_77 (by decide) (fun c77 => ?_) (fun c77 => ?_)
            · -- 77 t eq 
              refine lv_iconst (v := 0) hx hb dX1_fault_84 (by decide) ?_
              exact ret_i hx hb hr hlocks hK hP hD hS dX1_fault_85 (se_71, pl_71, hg_71) rfl (Or.inr ⟨j, hj, rfl, by unfold frv; rw [if_neg hnz, if_neg c46, if_pos c77]⟩)
            · -- 77 f eq 
              refine lv_iconst (v := 1) hx hb dX1_fault_80 (by decide) ?_
              refine lv_goto (tgt := 85) hx hb dX1_fault_81 (by decide) ?_
              exact ret_i hx hb hr hlocks hK hP hD hS dX1_fault_85 (se_71, pl_71, hg_71) rfl (Or.inr ⟨j, hj, rfl, by unfold frv; rw [if_neg hnz, if_neg c46, if_neg c77]⟩)
        · -- 32 f ne 
          refine lv_iconst (v := 0) hx hb dX1_fault_35 (by decide) ?_
          exact ret_i hx hb hr hlocks hK hP hD hS dX1_fault_36 (se_29, pl_29, hg_29) rfl (Or.inr ⟨j, hj, rfl, by unfold frv; rw [if_pos (Or.inr (Or.inr (tb_f (yn_no q29 c32))))]⟩)
  · -- 5 f ne 
    refine lv_iconst (v := (-1)) hx hb dX1_fault_8 (by decide) ?_
    exact ret_i hx hb hr hlocks hK hP hD hS dX1_fault_9 (se, pl, hN) rfl (Or.inl ⟨pt_out rfl hn p2 c5, rfl⟩)

abbrev rr_count : Room := { frames := 6, cells := 0, slots := 0, locals := 140 }
theorem ri_count : ∀ w ∈ u_ws RX1 TX1 14, w ∈ wsX1_count := by decide +kernel
theorem rp_count_fault : cpV wsX1_count RX1 82 RX1 yX1_fault wsX1_fault cX1_fault 5 (some .int) 1 := ⟨gX1_count_X1_fault, ⟨_, rfl⟩, by decide +kernel⟩
theorem rp_count_isReached : cpV wsX1_count RX1 72 RX1 yX1_isReached wsX1_isReached cX1_isReached 2 (some .boolean) 1 := ⟨gX1_count_X1_isReached, ⟨_, rfl⟩, by decide +kernel⟩
set_option maxHeartbeats 4000000 in
set_option maxRecDepth 100000 in
theorem lq_ct {p : Program} {l : Launch} {e : Env} {s : State} {m : MethodId} {args : Array Value} {below : List Frame} {meth : Method} {c : Code} {A : Nat → Prop} {Q : State → Prop} {D : va_G} {h : Nat → Nat} {k : Nat → ClassId} {vP vO vG pD mV mF mM pX pY : Nat → Int32} {x : Int32} {nv np : Nat} (hx : p.tables.exec = Jvm.exec) (hb : c.code = cX1_count) (hml : c.maxLocals = 8) (hown : s.vm.findClass RX1 = some m.cls) (hts : ∀ w ∈ wsX1_count, w.before args s = true) (hA : ∀ q : Nat, s.heap.size ≤ q → A q) (hK : va_K D vwCl (rfT k) s) (hi : RI nv np vP pD mV)
    (kk : ∀ (mk : Nat) (rs : Nat) (fl : Nat) (fs : Int32) (se : Nat → Int32) (pl : Nat → Int32) (hN : Nat) (H : Heap) (locs : List Loc) (ls : Array Slot), (x ≤ 0 ∨ 4 ≤ x ∨ (rs = cnt (fun q => tb (rch (ed pX pY np) np q)) np ∧ (1 < x → fl = cnt (fun q => tb (0 < frv nv np vP vO vG pD mV mF mM pX pY q)) np ∧ fst9 (fun q => tb (0 < frv nv np vP vO vG pD mV mF mM pX pY q)) np 0 fs))) → va_P D vwCl (rfW h k (nI nv) vP vO vG (nI np) pD mV mF mM pX pY se pl (nI hN)) H → va_D A (rfW h k (nI nv) vP vO vG (nI np) pD mV mF mM pX pY se pl (nI hN)) → va_S A s.heap H locs → lv_has ls 8 [(0, .ref (h 0)), (1, .int x), (2, .int (nI rs)), (3, .int (nI fl)), (4, .int fs), (5, .int 0)] → W p l e rr_count s m args below meth c H locs 0 0 Q (F0 m 103 ls [])) :
    ∀ (n : Nat) (mk : Nat) (rs : Nat) (fl : Nat) (fs : Int32) (se : Nat → Int32) (pl : Nat → Int32) (hN : Nat) (H : Heap) (locs : List Loc) (ls : Array Slot), (mk ≤ np) → (rs = cnt (fun q => tb (rch (ed pX pY np) np q)) np - cnt (fun q => tb (rch (ed pX pY np) np q)) mk) → (1 < x → fl = cnt (fun q => tb (0 < frv nv np vP vO vG pD mV mF mM pX pY q)) np - cnt (fun q => tb (0 < frv nv np vP vO vG pD mV mF mM pX pY q)) mk ∧ fst9 (fun q => tb (0 < frv nv np vP vO vG pD mV mF mM pX pY q)) np mk fs) → mk < n → va_P D vwCl (rfW h k (nI nv) vP vO vG (nI np) pD mV mF mM pX pY se pl (nI hN)) H → va_D A (rfW h k (nI nv) vP vO vG (nI np) pD mV mF mM pX pY se pl (nI hN)) → va_S A s.heap H locs → lv_has ls 8 [(0, .ref (h 0)), (1, .int x), (2, .int (nI rs)), (3, .int (nI fl)), (4, .int fs), (5, .int 0), (6, .int (nI mk + (-1)))] → W p l e rr_count s m args below meth c H locs 0 0 Q (F0 m 18 ls []) := by
  have hin := ri_count
  intro n
  induction n with
  | zero =>
    intro mk rs fl fs se pl hN H locs ls hm hrs hfl hmz
    exact absurd hmz (Nat.not_lt_zero _)
  | succ n ih =>
    intro mk rs fl fs se pl hN H locs ls hm hrs hfl hmz hP hD hS hl
    have hnv : nv ≤ 20 := hi.1
    have hn : np ≤ 120 := hi.2.1
    refine lv_iload hx hb dX1_count_18 (lv_at hl 6 rfl) ?_
    refine lv_if_lt (tgt := 103) hx hb dX1_count_20 (by decide) (fun c20 => ?_) (fun c20 => ?_)
    · -- 20 t lt 
      have n20 : mk = 0 := (m1_neg (by omega)).mp c20
      exact kk mk rs fl fs se pl hN H locs ls (Or.inr (Or.inr ⟨by rw [hrs, n20]; simp [cnt], fun z => ⟨by rw [(hfl z).1, n20]; simp [cnt], n20 ▸ (hfl z).2⟩⟩)) hP hD hS (lv_sub hl [0, 1, 2, 3, 4, 5] rfl)
    · -- 20 f lt 
      have n20 : ¬ mk = 0 := fun z => c20 ((m1_neg (by omega)).mpr z)
      obtain ⟨p, rfl⟩ : ∃ p, mk = p + 1 := ⟨mk - 1, by omega⟩
      rw [pk_m1] at hl
      have hp : p < np := by omega
      refine lv_iload_n hx hb dX1_count_23 rfl (lv_at hl 1 rfl) ?_
      refine lv_if_le (tgt := 103) hx hb dX1_count_24 (by decide) (fun c24 => ?_) (fun c24 => ?_)
      · -- 24 t le 
        exact kk (p + 1) rs fl fs se pl hN H locs ls (Or.inl c24) hP hD hS (lv_sub hl [0, 1, 2, 3, 4, 5] rfl)
      · -- 24 f le 
        refine lv_iload_n hx hb dX1_count_27 rfl (lv_at hl 1 rfl) ?_
        refine lv_iconst (v := 4) hx hb dX1_count_28 (by decide) ?_
        refine lv_icmp_ge (tgt := 103) hx hb dX1_count_29 (by decide) (fun c29 => ?_) (fun c29 => ?_)
        · -- 29 t ge 
          exact kk (p + 1) rs fl fs se pl hN H locs ls (Or.inr (Or.inl c29)) hP hD hS (lv_sub hl [0, 1, 2, 3, 4, 5] rfl)
        · -- 29 f ge 
          refine lv_aload_n hx hb dX1_count_32 rfl (lv_at hl 0 rfl) ?_
          refine lv_iload hx hb dX1_count_33 (lv_at hl 6 rfl) ?_
          refine call_vi (As := [.int (nI p)]) (rest := []) ⟨hx, hb, hml, hown, hts⟩ (r_isReached nv np hN (nI p) hi) rp_count_isReached ⟨rfl, rfl⟩ ⟨Nat.le_of_ble_eq_true rfl, Nat.le_of_ble_eq_true rfl⟩ rfl rfl 0 rfl rfl hl.1 rfl (Nat.le_of_ble_eq_true rfl) dX1_count_35 ⟨Nat.zero_le _, Nat.zero_le _⟩ hK hP hD hS hA (fun r35 u H locs p35 hP hD hS => ?_)
          obtain ⟨se_35, pl_35, hg_35⟩ := u
          have hP : va_P D vwCl (rfW h k (nI nv) vP vO vG (nI np) pD mV mF mM pX pY se_35 pl_35 (nI hg_35)) H := hP
          have hD : va_D A (rfW h k (nI nv) vP vO vG (nI np) pD mV mF mM pX pY se_35 pl_35 (nI hg_35)) := hD
          try dsimp only at p35
          have q35 := pt_un (P := fun j r => (r = 1 ∧ rch (ed pX pY np) np j) ∨ (r = 0 ∧ ¬ rch (ed pX pY np) np j)) hn hp p35
          refine lv_if_eq (tgt := 47) hx hb dX1_count_38 (by decide) (fun c38 => ?_) (fun c38 => ?_)
          · -- 38 t eq 
            have hfr : (fun q => tb (rch (ed pX pY np) np q)) p = false := tb_f (yn_no q35 c38)
            refine lv_iload_n hx hb dX1_count_47 rfl (lv_at hl 2 rfl) ?_
            refine lv_istore_n (lv' := [(2, .int (nI rs)), (0, .ref (h 0)), (1, .int x), (3, .int (nI fl)), (4, .int fs), (5, .int 0), (6, .int (nI p))]) hx hb dX1_count_48 rfl hl (by decide) rfl (fun ls hl => ?_)
            refine lv_iload_n hx hb dX1_count_49 rfl (lv_at hl 2 rfl) ?_
            refine lv_iconst (v := 1) hx hb dX1_count_50 (by decide) ?_
            refine lv_icmp_le (tgt := 67) hx hb dX1_count_51 (by decide) (fun c51 => ?_) (fun c51 => ?_)
            · -- 51 t le 
              refine lv_iconst (v := 0) hx hb dX1_count_67 (by decide) ?_
              refine lv_istore (lv' := [(7, .int 0), (2, .int (nI rs)), (0, .ref (h 0)), (1, .int x), (3, .int (nI fl)), (4, .int fs), (5, .int 0), (6, .int (nI p))]) hx hb dX1_count_68 hl (by decide) rfl (fun ls hl => ?_)
              refine lv_iload hx hb dX1_count_70 (lv_at hl 0 rfl) ?_
              refine lv_if_eq (tgt := 81) hx hb dX1_count_72 (by decide) (fun c72 => ?_) (fun c72 => ?_)
              · -- 72 t eq 
                refine lv_iload_n hx hb dX1_count_81 rfl (lv_at hl 4 rfl) ?_
                refine lv_istore_n (lv' := [(3, .int (nI fl)), (7, .int 0), (2, .int (nI rs)), (0, .ref (h 0)), (1, .int x), (4, .int fs), (5, .int 0), (6, .int (nI p))]) hx hb dX1_count_82 rfl hl (by decide) rfl (fun ls hl => ?_)
                refine lv_iload hx hb dX1_count_83 (lv_at hl 1 rfl) ?_
                refine lv_if_eq (tgt := 93) hx hb dX1_count_85 (by decide) (fun c85 => ?_) (fun c85 => ?_)
                · -- 85 t eq 
                  refine lv_iload hx hb dX1_count_93 (lv_at hl 5 rfl) ?_
                  refine lv_istore (lv' := [(4, .int fs), (3, .int (nI fl)), (7, .int 0), (2, .int (nI rs)), (0, .ref (h 0)), (1, .int x), (5, .int 0), (6, .int (nI p))]) hx hb dX1_count_95 hl (by decide) rfl (fun ls hl => ?_)
                  refine lv_iinc (v := (nI p) + (-1)) (lv' := [(6, .int ((nI p) + (-1))), (4, .int fs), (3, .int (nI fl)), (7, .int 0), (2, .int (nI rs)), (0, .ref (h 0)), (1, .int x), (5, .int 0)]) hx hb dX1_count_97 hl (k := 7) rfl (rfl) (by decide) rfl (fun ls hl => ?_)
                  refine lv_goto (tgt := 18) hx hb dX1_count_100 (by decide) ?_
                  exact ih p rs fl fs se_35 pl_35 hg_35 H locs ls (by omega) (cd_0 hfr hrs) (fun z => absurd z (nlt_of_le c51)) (by omega) hP hD hS (lv_sub hl [5, 6, 4, 2, 1, 7, 0] rfl)
                · -- 85 f eq 
                  exact absurd (by decide) c85
              · -- 72 f eq 
                exact absurd (by decide) c72
            · -- 51 f le 
              refine lv_aload_n hx hb dX1_count_54 rfl (lv_at hl 1 rfl) ?_
              refine lv_iload hx hb dX1_count_55 (lv_at hl 6 rfl) ?_
              refine call_vi (As := [.int (nI p)]) (rest := []) ⟨hx, hb, hml, hown, hts⟩ (r_fault nv np hg_35 (nI p) hi) rp_count_fault ⟨rfl, rfl⟩ ⟨Nat.le_of_ble_eq_true rfl, Nat.le_of_ble_eq_true rfl⟩ rfl rfl 0 rfl rfl hl.1 rfl (Nat.le_of_ble_eq_true rfl) dX1_count_57 ⟨Nat.zero_le _, Nat.zero_le _⟩ hK hP hD hS hA (fun r57 u H locs p57 hP hD hS => ?_)
              obtain ⟨se_57, pl_57, hg_57⟩ := u
              have hP : va_P D vwCl (rfW h k (nI nv) vP vO vG (nI np) pD mV mF mM pX pY se_57 pl_57 (nI hg_57)) H := hP
              have hD : va_D A (rfW h k (nI nv) vP vO vG (nI np) pD mV mF mM pX pY se_57 pl_57 (nI hg_57)) := hD
              try dsimp only at p57
              obtain rfl := pt_un (P := fun j r => r = frv nv np vP vO vG pD mV mF mM pX pY j) hn hp p57
              refine lv_if_le (tgt := 67) hx hb dX1_count_60 (by decide) (fun c60 => ?_) (fun c60 => ?_)
              · -- 60 t le 
                have hff : (fun q => tb (0 < frv nv np vP vO vG pD mV mF mM pX pY q)) p = false := tb_f (nlt_of_le c60)
                refine lv_iconst (v := 0) hx hb dX1_count_67 (by decide) ?_
                refine lv_istore (lv' := [(7, .int 0), (2, .int (nI rs)), (0, .ref (h 0)), (1, .int x), (3, .int (nI fl)), (4, .int fs), (5, .int 0), (6, .int (nI p))]) hx hb dX1_count_68 hl (by decide) rfl (fun ls hl => ?_)
                refine lv_iload hx hb dX1_count_70 (lv_at hl 0 rfl) ?_
                refine lv_if_eq (tgt := 81) hx hb dX1_count_72 (by decide) (fun c72 => ?_) (fun c72 => ?_)
                · -- 72 t eq 
                  refine lv_iload_n hx hb dX1_count_81 rfl (lv_at hl 4 rfl) ?_
                  refine lv_istore_n (lv' := [(3, .int (nI fl)), (7, .int 0), (2, .int (nI rs)), (0, .ref (h 0)), (1, .int x), (4, .int fs), (5, .int 0), (6, .int (nI p))]) hx hb dX1_count_82 rfl hl (by decide) rfl (fun ls hl => ?_)
                  refine lv_iload hx hb dX1_count_83 (lv_at hl 1 rfl) ?_
                  refine lv_if_eq (tgt := 93) hx hb dX1_count_85 (by decide) (fun c85 => ?_) (fun c85 => ?_)
                  · -- 85 t eq 
                    refine lv_iload hx hb dX1_count_93 (lv_at hl 5 rfl) ?_
                    refine lv_istore (lv' := [(4, .int fs), (3, .int (nI fl)), (7, .int 0), (2, .int (nI rs)), (0, .ref (h 0)), (1, .int x), (5, .int 0), (6, .int (nI p))]) hx hb dX1_count_95 hl (by decide) rfl (fun ls hl => ?_)
                    refine lv_iinc (v := (nI p) + (-1)) (lv' := [(6, .int ((nI p) + (-1))), (4, .int fs), (3, .int (nI fl)), (7, .int 0), (2, .int (nI rs)), (0, .ref (h 0)), (1, .int x), (5, .int 0)]) hx hb dX1_count_97 hl (k := 7) rfl (rfl) (by decide) rfl (fun ls hl => ?_)
                    refine lv_goto (tgt := 18) hx hb dX1_count_100 (by decide) ?_
                    exact ih p rs fl fs se_57 pl_57 hg_57 H locs ls (by omega) (cd_0 hfr hrs) (fun z => ⟨cd_0 hff (hfl z).1, fst_0 hff (hfl z).2⟩) (by omega) hP hD hS (lv_sub hl [5, 6, 4, 2, 1, 7, 0] rfl)
                  · -- 85 f eq 
                    exact absurd (by decide) c85
                · -- 72 f eq 
                  exact absurd (by decide) c72
              · -- 60 f le 
                have hff : (fun q => tb (0 < frv nv np vP vO vG pD mV mF mM pX pY q)) p = true := tb_t (lt_of_nle c60)
                refine lv_iconst (v := 1) hx hb dX1_count_63 (by decide) ?_
                refine lv_goto (tgt := 68) hx hb dX1_count_64 (by decide) ?_
                refine lv_istore (lv' := [(7, .int 1), (2, .int (nI rs)), (0, .ref (h 0)), (1, .int x), (3, .int (nI fl)), (4, .int fs), (5, .int 0), (6, .int (nI p))]) hx hb dX1_count_68 hl (by decide) rfl (fun ls hl => ?_)
                refine lv_iload hx hb dX1_count_70 (lv_at hl 0 rfl) ?_
                refine lv_if_eq (tgt := 81) hx hb dX1_count_72 (by decide) (fun c72 => ?_) (fun c72 => ?_)
                · -- 72 t eq 
                  exact absurd c72 (by decide)
                · -- 72 f eq 
                  refine lv_iload_n hx hb dX1_count_75 rfl (lv_at hl 4 rfl) ?_
                  refine lv_iconst (v := 1) hx hb dX1_count_76 (by decide) ?_
                  refine lv_iadd hx hb dX1_count_77 ?_
                  refine lv_topi (fun x_1 ex_1 => ?_)
                  obtain rfl : x_1 = nI (fl + 1) := ex_1.trans (nI_add fl 1)
                  refine lv_goto (tgt := 82) hx hb dX1_count_78 (by decide) ?_
                  refine lv_istore_n (lv' := [(3, .int (nI (fl + 1))), (7, .int 1), (2, .int (nI rs)), (0, .ref (h 0)), (1, .int x), (4, .int fs), (5, .int 0), (6, .int (nI p))]) hx hb dX1_count_82 rfl hl (by decide) rfl (fun ls hl => ?_)
                  refine lv_iload hx hb dX1_count_83 (lv_at hl 1 rfl) ?_
                  refine lv_if_eq (tgt := 93) hx hb dX1_count_85 (by decide) (fun c85 => ?_) (fun c85 => ?_)
                  · -- 85 t eq 
                    exact absurd c85 (by decide)
                  · -- 85 f eq 
                    refine lv_iload hx hb dX1_count_88 (lv_at hl 7 rfl) ?_
                    refine lv_goto (tgt := 95) hx hb dX1_count_90 (by decide) ?_
                    refine lv_istore (lv' := [(4, .int (nI p)), (3, .int (nI (fl + 1))), (7, .int 1), (2, .int (nI rs)), (0, .ref (h 0)), (1, .int x), (5, .int 0), (6, .int (nI p))]) hx hb dX1_count_95 hl (by decide) rfl (fun ls hl => ?_)
                    refine lv_iinc (v := (nI p) + (-1)) (lv' := [(6, .int ((nI p) + (-1))), (4, .int (nI p)), (3, .int (nI (fl + 1))), (7, .int 1), (2, .int (nI rs)), (0, .ref (h 0)), (1, .int x), (5, .int 0)]) hx hb dX1_count_97 hl (k := 7) rfl (rfl) (by decide) rfl (fun ls hl => ?_)
                    refine lv_goto (tgt := 18) hx hb dX1_count_100 (by decide) ?_
                    exact ih p rs (fl + 1) (nI p) se_57 pl_57 hg_57 H locs ls (by omega) (cd_0 hfr hrs) (fun z => ⟨cd_1 (by omega) hff (hfl z).1, fst_1 (by omega) hff⟩) (by omega) hP hD hS (lv_sub hl [5, 6, 4, 2, 1, 7, 0] rfl)
          · -- 38 f eq 
            have hfr : (fun q => tb (rch (ed pX pY np) np q)) p = true := tb_t (yn_yes q35 c38)
            refine lv_iload_n hx hb dX1_count_41 rfl (lv_at hl 2 rfl) ?_
            refine lv_iconst (v := 1) hx hb dX1_count_42 (by decide) ?_
            refine lv_iadd hx hb dX1_count_43 ?_
            refine lv_topi (fun x_2 ex_2 => ?_)
            obtain rfl : x_2 = nI (rs + 1) := ex_2.trans (nI_add rs 1)
            refine lv_goto (tgt := 48) hx hb dX1_count_44 (by decide) ?_
            refine lv_istore_n (lv' := [(2, .int (nI (rs + 1))), (0, .ref (h 0)), (1, .int x), (3, .int (nI fl)), (4, .int fs), (5, .int 0), (6, .int (nI p))]) hx hb dX1_count_48 rfl hl (by decide) rfl (fun ls hl => ?_)
            refine lv_iload_n hx hb dX1_count_49 rfl (lv_at hl 2 rfl) ?_
            refine lv_iconst (v := 1) hx hb dX1_count_50 (by decide) ?_
            refine lv_icmp_le (tgt := 67) hx hb dX1_count_51 (by decide) (fun c51 => ?_) (fun c51 => ?_)
            · -- 51 t le 
              refine lv_iconst (v := 0) hx hb dX1_count_67 (by decide) ?_
              refine lv_istore (lv' := [(7, .int 0), (2, .int (nI (rs + 1))), (0, .ref (h 0)), (1, .int x), (3, .int (nI fl)), (4, .int fs), (5, .int 0), (6, .int (nI p))]) hx hb dX1_count_68 hl (by decide) rfl (fun ls hl => ?_)
              refine lv_iload hx hb dX1_count_70 (lv_at hl 0 rfl) ?_
              refine lv_if_eq (tgt := 81) hx hb dX1_count_72 (by decide) (fun c72 => ?_) (fun c72 => ?_)
              · -- 72 t eq 
                refine lv_iload_n hx hb dX1_count_81 rfl (lv_at hl 4 rfl) ?_
                refine lv_istore_n (lv' := [(3, .int (nI fl)), (7, .int 0), (2, .int (nI (rs + 1))), (0, .ref (h 0)), (1, .int x), (4, .int fs), (5, .int 0), (6, .int (nI p))]) hx hb dX1_count_82 rfl hl (by decide) rfl (fun ls hl => ?_)
                refine lv_iload hx hb dX1_count_83 (lv_at hl 1 rfl) ?_
                refine lv_if_eq (tgt := 93) hx hb dX1_count_85 (by decide) (fun c85 => ?_) (fun c85 => ?_)
                · -- 85 t eq 
                  refine lv_iload hx hb dX1_count_93 (lv_at hl 5 rfl) ?_
                  refine lv_istore (lv' := [(4, .int fs), (3, .int (nI fl)), (7, .int 0), (2, .int (nI (rs + 1))), (0, .ref (h 0)), (1, .int x), (5, .int 0), (6, .int (nI p))]) hx hb dX1_count_95 hl (by decide) rfl (fun ls hl => ?_)
                  refine lv_iinc (v := (nI p) + (-1)) (lv' := [(6, .int ((nI p) + (-1))), (4, .int fs), (3, .int (nI fl)), (7, .int 0), (2, .int (nI (rs + 1))), (0, .ref (h 0)), (1, .int x), (5, .int 0)]) hx hb dX1_count_97 hl (k := 7) rfl (rfl) (by decide) rfl (fun ls hl => ?_)
                  refine lv_goto (tgt := 18) hx hb dX1_count_100 (by decide) ?_
                  exact ih p (rs + 1) fl fs se_35 pl_35 hg_35 H locs ls (by omega) (cd_1 (by omega) hfr hrs) (fun z => absurd z (nlt_of_le c51)) (by omega) hP hD hS (lv_sub hl [5, 6, 4, 2, 1, 7, 0] rfl)
                · -- 85 f eq 
                  exact absurd (by decide) c85
              · -- 72 f eq 
                exact absurd (by decide) c72
            · -- 51 f le 
              refine lv_aload_n hx hb dX1_count_54 rfl (lv_at hl 1 rfl) ?_
              refine lv_iload hx hb dX1_count_55 (lv_at hl 6 rfl) ?_
              refine call_vi (As := [.int (nI p)]) (rest := []) ⟨hx, hb, hml, hown, hts⟩ (r_fault nv np hg_35 (nI p) hi) rp_count_fault ⟨rfl, rfl⟩ ⟨Nat.le_of_ble_eq_true rfl, Nat.le_of_ble_eq_true rfl⟩ rfl rfl 0 rfl rfl hl.1 rfl (Nat.le_of_ble_eq_true rfl) dX1_count_57 ⟨Nat.zero_le _, Nat.zero_le _⟩ hK hP hD hS hA (fun r57 u H locs p57 hP hD hS => ?_)
              obtain ⟨se_57, pl_57, hg_57⟩ := u
              have hP : va_P D vwCl (rfW h k (nI nv) vP vO vG (nI np) pD mV mF mM pX pY se_57 pl_57 (nI hg_57)) H := hP
              have hD : va_D A (rfW h k (nI nv) vP vO vG (nI np) pD mV mF mM pX pY se_57 pl_57 (nI hg_57)) := hD
              try dsimp only at p57
              obtain rfl := pt_un (P := fun j r => r = frv nv np vP vO vG pD mV mF mM pX pY j) hn hp p57
              refine lv_if_le (tgt := 67) hx hb dX1_count_60 (by decide) (fun c60 => ?_) (fun c60 => ?_)
              · -- 60 t le 
                have hff : (fun q => tb (0 < frv nv np vP vO vG pD mV mF mM pX pY q)) p = false := tb_f (nlt_of_le c60)
                refine lv_iconst (v := 0) hx hb dX1_count_67 (by decide) ?_
                refine lv_istore (lv' := [(7, .int 0), (2, .int (nI (rs + 1))), (0, .ref (h 0)), (1, .int x), (3, .int (nI fl)), (4, .int fs), (5, .int 0), (6, .int (nI p))]) hx hb dX1_count_68 hl (by decide) rfl (fun ls hl => ?_)
                refine lv_iload hx hb dX1_count_70 (lv_at hl 0 rfl) ?_
                refine lv_if_eq (tgt := 81) hx hb dX1_count_72 (by decide) (fun c72 => ?_) (fun c72 => ?_)
                · -- 72 t eq 
                  refine lv_iload_n hx hb dX1_count_81 rfl (lv_at hl 4 rfl) ?_
                  refine lv_istore_n (lv' := [(3, .int (nI fl)), (7, .int 0), (2, .int (nI (rs + 1))), (0, .ref (h 0)), (1, .int x), (4, .int fs), (5, .int 0), (6, .int (nI p))]) hx hb dX1_count_82 rfl hl (by decide) rfl (fun ls hl => ?_)
                  refine lv_iload hx hb dX1_count_83 (lv_at hl 1 rfl) ?_
                  refine lv_if_eq (tgt := 93) hx hb dX1_count_85 (by decide) (fun c85 => ?_) (fun c85 => ?_)
                  · -- 85 t eq 
                    refine lv_iload hx hb dX1_count_93 (lv_at hl 5 rfl) ?_
                    refine lv_istore (lv' := [(4, .int fs), (3, .int (nI fl)), (7, .int 0), (2, .int (nI (rs + 1))), (0, .ref (h 0)), (1, .int x), (5, .int 0), (6, .int (nI p))]) hx hb dX1_count_95 hl (by decide) rfl (fun ls hl => ?_)
                    refine lv_iinc (v := (nI p) + (-1)) (lv' := [(6, .int ((nI p) + (-1))), (4, .int fs), (3, .int (nI fl)), (7, .int 0), (2, .int (nI (rs + 1))), (0, .ref (h 0)), (1, .int x), (5, .int 0)]) hx hb dX1_count_97 hl (k := 7) rfl (rfl) (by decide) rfl (fun ls hl => ?_)
                    refine lv_goto (tgt := 18) hx hb dX1_count_100 (by decide) ?_
                    exact ih p (rs + 1) fl fs se_57 pl_57 hg_57 H locs ls (by omega) (cd_1 (by omega) hfr hrs) (fun z => ⟨cd_0 hff (hfl z).1, fst_0 hff (hfl z).2⟩) (by omega) hP hD hS (lv_sub hl [5, 6, 4, 2, 1, 7, 0] rfl)
                  · -- 85 f eq 
                    exact absurd (by decide) c85
                · -- 72 f eq 
                  exact absurd (by decide) c72
              · -- 60 f le 
                have hff : (fun q => tb (0 < frv nv np vP vO vG pD mV mF mM pX pY q)) p = true := tb_t (lt_of_nle c60)
                refine lv_iconst (v := 1) hx hb dX1_count_63 (by decide) ?_
                refine lv_goto (tgt := 68) hx hb dX1_count_64 (by decide) ?_
                refine lv_istore (lv' := [(7, .int 1), (2, .int (nI (rs + 1))), (0, .ref (h 0)), (1, .int x), (3, .int (nI fl)), (4, .int fs), (5, .int 0), (6, .int (nI p))]) hx hb dX1_count_68 hl (by decide) rfl (fun ls hl => ?_)
                refine lv_iload hx hb dX1_count_70 (lv_at hl 0 rfl) ?_
                refine lv_if_eq (tgt := 81) hx hb dX1_count_72 (by decide) (fun c72 => ?_) (fun c72 => ?_)
                · -- 72 t eq 
                  exact absurd c72 (by decide)
                · -- 72 f eq 
                  refine lv_iload_n hx hb dX1_count_75 rfl (lv_at hl 4 rfl) ?_
                  refine lv_iconst (v := 1) hx hb dX1_count_76 (by decide) ?_
                  refine lv_iadd hx hb dX1_count_77 ?_
                  refine lv_topi (fun x_3 ex_3 => ?_)
                  obtain rfl : x_3 = nI (fl + 1) := ex_3.trans (nI_add fl 1)
                  refine lv_goto (tgt := 82) hx hb dX1_count_78 (by decide) ?_
                  refine lv_istore_n (lv' := [(3, .int (nI (fl + 1))), (7, .int 1), (2, .int (nI (rs + 1))), (0, .ref (h 0)), (1, .int x), (4, .int fs), (5, .int 0), (6, .int (nI p))]) hx hb dX1_count_82 rfl hl (by decide) rfl (fun ls hl => ?_)
                  refine lv_iload hx hb dX1_count_83 (lv_at hl 1 rfl) ?_
                  refine lv_if_eq (tgt := 93) hx hb dX1_count_85 (by decide) (fun c85 => ?_) (fun c85 => ?_)
                  · -- 85 t eq 
                    exact absurd c85 (by decide)
                  · -- 85 f eq 
                    refine lv_iload hx hb dX1_count_88 (lv_at hl 7 rfl) ?_
                    refine lv_goto (tgt := 95) hx hb dX1_count_90 (by decide) ?_
                    refine lv_istore (lv' := [(4, .int (nI p)), (3, .int (nI (fl + 1))), (7, .int 1), (2, .int (nI (rs + 1))), (0, .ref (h 0)), (1, .int x), (5, .int 0), (6, .int (nI p))]) hx hb dX1_count_95 hl (by decide) rfl (fun ls hl => ?_)
                    refine lv_iinc (v := (nI p) + (-1)) (lv' := [(6, .int ((nI p) + (-1))), (4, .int (nI p)), (3, .int (nI (fl + 1))), (7, .int 1), (2, .int (nI (rs + 1))), (0, .ref (h 0)), (1, .int x), (5, .int 0)]) hx hb dX1_count_97 hl (k := 7) rfl (rfl) (by decide) rfl (fun ls hl => ?_)
                    refine lv_goto (tgt := 18) hx hb dX1_count_100 (by decide) ?_
                    exact ih p (rs + 1) (fl + 1) (nI p) se_57 pl_57 hg_57 H locs ls (by omega) (cd_1 (by omega) hfr hrs) (fun z => ⟨cd_1 (by omega) hff (hfl z).1, fst_1 (by omega) hff⟩) (by omega) hP hD hS (lv_sub hl [5, 6, 4, 2, 1, 7, 0] rfl)

set_option maxHeartbeats 4000000 in
set_option maxRecDepth 100000 in
theorem lq_cs {p : Program} {l : Launch} {e : Env} {s : State} {m : MethodId} {args : Array Value} {below : List Frame} {meth : Method} {c : Code} {A : Nat → Prop} {Q : State → Prop} {D : va_G} {h : Nat → Nat} {k : Nat → ClassId} {pn hg : Int32} {vP vO vG pD mV mF mM pX pY se pl : Nat → Int32} {x fs : Int32} {nv rs fl : Nat} (hx : p.tables.exec = Jvm.exec) (hb : c.code = cX1_count) (hml : c.maxLocals = 8) (hown : s.vm.findClass RX1 = some m.cls) (hts : ∀ w ∈ wsX1_count, w.before args s = true) (hA : ∀ q : Nat, s.heap.size ≤ q → A q) (hK : va_K D vwCl (rfT k) s) (hnv : nv ≤ 20)
    (kk : ∀ (i : Nat) (sm : Int32) (H : Heap) (locs : List Loc) (ls : Array Slot), (sm = smI vP nv) → va_P D vwCl (rfW h k (nI nv) vP vO vG pn pD mV mF mM pX pY se pl hg) H → va_D A (rfW h k (nI nv) vP vO vG pn pD mV mF mM pX pY se pl hg) → va_S A s.heap H locs → lv_has ls 8 [(0, .ref (h 0)), (1, .int x), (2, .int (nI rs)), (3, .int (nI fl)), (4, .int fs), (5, .int sm), (6, .int (nI i))] → W p l e rr_count s m args below meth c H locs 0 0 Q (F0 m 133 ls [])) :
    ∀ (n : Nat) (i : Nat) (sm : Int32) (H : Heap) (locs : List Loc) (ls : Array Slot), (i ≤ nv) → (sm = smI vP i) → nv - i < n → va_P D vwCl (rfW h k (nI nv) vP vO vG pn pD mV mF mM pX pY se pl hg) H → va_D A (rfW h k (nI nv) vP vO vG pn pD mV mF mM pX pY se pl hg) → va_S A s.heap H locs → lv_has ls 8 [(0, .ref (h 0)), (1, .int x), (2, .int (nI rs)), (3, .int (nI fl)), (4, .int fs), (5, .int sm), (6, .int (nI i))] → W p l e rr_count s m args below meth c H locs 0 0 Q (F0 m 106 ls []) := by
  have hin := ri_count
  intro n
  induction n with
  | zero =>
    intro i sm H locs ls hi9 hsm hmz
    exact absurd hmz (Nat.not_lt_zero _)
  | succ n ih =>
    intro i sm H locs ls hi9 hsm hmz hP hD hS hl
    refine lv_iload hx hb dX1_count_106 (lv_at hl 6 rfl) ?_
    refine lv_aload_n hx hb dX1_count_108 rfl (lv_at hl 0 rfl) ?_
    refine rf_g_vc hx hb hts hin hown hK hP (by decide +kernel) dX1_count_109 ?_
    refine lv_icmp_ge (tgt := 133) hx hb dX1_count_112 (by decide) (fun c112 => ?_) (fun c112 => ?_)
    · -- 112 t ge 
      have n112 : nv ≤ i := (nI_leI (a := nv) (b := i) (by omega) (by omega)).mp c112
      exact kk i sm H locs ls ((show i = nv by omega) ▸ hsm) hP hD hS (lv_sub hl [0, 1, 2, 3, 4, 5, 6] rfl)
    · -- 112 f ge 
      have n112 : ¬ nv ≤ i := fun z => c112 ((nI_leI (a := nv) (b := i) (by omega) (by omega)).mpr z)
      refine lv_iload hx hb dX1_count_115 (lv_at hl 5 rfl) ?_
      refine lv_aload_n hx hb dX1_count_117 rfl (lv_at hl 0 rfl) ?_
      refine rf_g_vP hx hb hts hin hown hK hP (by decide +kernel) dX1_count_118 ?_
      refine lv_iload hx hb dX1_count_121 (lv_at hl 6 rfl) ?_
      refine rf_l_vP (n := i) hx hb hK hP (by omega) dX1_count_123 ?_
      refine lv_iadd hx hb dX1_count_124 ?_
      refine lv_istore (lv' := [(5, .int (sm + (vP i))), (0, .ref (h 0)), (1, .int x), (2, .int (nI rs)), (3, .int (nI fl)), (4, .int fs), (6, .int (nI i))]) hx hb dX1_count_125 hl (by decide) rfl (fun ls hl => ?_)
      refine lv_iinc (v := nI (i + 1)) (lv' := [(6, .int (nI (i + 1))), (5, .int (sm + (vP i))), (0, .ref (h 0)), (1, .int x), (2, .int (nI rs)), (3, .int (nI fl)), (4, .int fs)]) hx hb dX1_count_127 hl (k := 6) rfl (nI_add i 1) (by decide) rfl (fun ls hl => ?_)
      refine lv_goto (tgt := 106) hx hb dX1_count_130 (by decide) ?_
      exact ih (i + 1) (sm + (vP i)) H locs ls (by omega) (by rw [hsm]; rfl) (by omega) hP hD hS (lv_sub hl [2, 3, 4, 5, 6, 1, 0] rfl)

set_option maxHeartbeats 4000000 in
set_option maxRecDepth 100000 in
theorem r_count {l : Launch} {D : va_G} {h : Nat → Nat} {k : Nat → ClassId} {vP vO vG pD mV mF mM pX pY se pl : Nat → Int32} (nv np hN : Nat) (x : Int32) (hi : RI nv np vP pD mV) : ct l yX1_count wsX1_count rr_count D vwCl (rfT k) [.ref (h 0), .int x] (rfW h k (nI nv) vP vO vG (nI np) pD mV mF mM pX pY se pl (nI hN)) (qI D vwCl (rfT k) (fun (r : Int32) (u : (Nat → Int32) × (Nat → Int32) × Nat) => (x = 0 ∧ r = nI np) ∨ (x = 1 ∧ r = nI (cnt (fun q => tb (rch (ed pX pY np) np q)) np)) ∨ (x = 2 ∧ r = nI (cnt (fun q => tb (0 < frv nv np vP vO vG pD mV mF mM pX pY q)) np)) ∨ (x = 3 ∧ fst9 (fun q => tb (0 < frv nv np vP vO vG pD mV mF mM pX pY q)) np 0 r) ∨ (x = 4 ∧ r = nI nv) ∨ (x = 5 ∧ r = smI vP nv) ∨ ((¬ x = 0 ∧ ¬ x = 1 ∧ ¬ x = 2 ∧ ¬ x = 3 ∧ ¬ x = 4 ∧ ¬ x = 5) ∧ r = -1)) (fun u => rfW h k (nI nv) vP vO vG (nI np) pD mV mF mM pX pY u.1 u.2.1 (nI u.2.2))) 0 0 := by
  refine ct_of (cc := cX1_count) (maxL := 8) (ret := some .int) (by decide) rfl (Nat.le_of_ble_eq_true rfl) ?_
  intro p e s m below meth c A ls hx hb hr hml hlocks hown hnm hts hA hK hP hD hS hl
  have hown : s.vm.findClass RX1 = some m.cls := hown
  have hin := ri_count
  have hl : lv_has ls 8 [(0, .ref (h 0)), (1, .int x)] := hl
  have hnv : nv ≤ 20 := hi.1
  have hn : np ≤ 120 := hi.2.1
  refine lv_iconst (v := nI 0) hx hb dX1_count_0 (by decide) ?_
  refine lv_istore_n (lv' := [(2, .int (nI 0)), (0, .ref (h 0)), (1, .int x)]) hx hb dX1_count_1 rfl hl (by decide) rfl (fun ls hl => ?_)
  refine lv_iconst (v := nI 0) hx hb dX1_count_2 (by decide) ?_
  refine lv_istore_n (lv' := [(3, .int (nI 0)), (2, .int (nI 0)), (0, .ref (h 0)), (1, .int x)]) hx hb dX1_count_3 rfl hl (by decide) rfl (fun ls hl => ?_)
  refine lv_iconst (v := (-1)) hx hb dX1_count_4 (by decide) ?_
  refine lv_istore (lv' := [(4, .int (-1)), (3, .int (nI 0)), (2, .int (nI 0)), (0, .ref (h 0)), (1, .int x)]) hx hb dX1_count_5 hl (by decide) rfl (fun ls hl => ?_)
  refine lv_iconst (v := 0) hx hb dX1_count_7 (by decide) ?_
  refine lv_istore (lv' := [(5, .int 0), (4, .int (-1)), (3, .int (nI 0)), (2, .int (nI 0)), (0, .ref (h 0)), (1, .int x)]) hx hb dX1_count_8 hl (by decide) rfl (fun ls hl => ?_)
  refine lv_aload_n hx hb dX1_count_10 rfl (lv_at hl 4 rfl) ?_
  refine rf_g_pn hx hb hts hin hown hK hP (by decide +kernel) dX1_count_11 ?_
  refine lv_iconst (v := 1) hx hb dX1_count_14 (by decide) ?_
  refine lv_isub hx hb dX1_count_15 ?_
  refine lv_topi (fun x_1 ex_1 => ?_)
  obtain rfl : x_1 = nI np + (-1) := ex_1.trans (Int32.sub_eq_add_neg _ _)
  refine lv_istore (lv' := [(6, .int (nI np + (-1))), (5, .int 0), (4, .int (-1)), (3, .int (nI 0)), (2, .int (nI 0)), (0, .ref (h 0)), (1, .int x)]) hx hb dX1_count_16 hl (by decide) rfl (fun ls hl => ?_)
  refine lq_ct hx hb hml hown hts hA hK hi ?_ _ np 0 0 (-1) se pl hN _ _ ls (Nat.le_refl _) ((Nat.sub_self _).symm) (fun _ => ⟨(Nat.sub_self _).symm, fst_e⟩) (Nat.lt_succ_self _) hP hD hS (lv_sub hl [5, 6, 4, 3, 2, 1, 0] rfl)
  intro m9 rs9 fl9 fs9 se9 pl9 hN9 H locs ls hex hP hD hS hl
  refine lv_iconst (v := nI 0) hx hb dX1_count_103 (by decide) ?_
  refine lv_istore (lv' := [(6, .int (nI 0)), (0, .ref (h 0)), (1, .int x), (2, .int (nI rs9)), (3, .int (nI fl9)), (4, .int fs9), (5, .int 0)]) hx hb dX1_count_104 hl (by decide) rfl (fun ls hl => ?_)
  refine lq_cs hx hb hml hown hts hA hK (x := x) (fs := fs9) (rs := rs9) (fl := fl9) hnv ?_ _ 0 0 _ _ ls (Nat.zero_le _) (rfl) (Nat.lt_succ_self _) hP hD hS (lv_sub hl [1, 2, 3, 4, 5, 6, 0] rfl)
  intro i9 sm H locs ls hsm hP hD hS hl
  refine lv_iload_n hx hb dX1_count_133 rfl (lv_at hl 1 rfl) ?_
  refine lv_if_ne (tgt := 144) hx hb dX1_count_134 (by decide) (fun c134 => ?_) (fun c134 => ?_)
  · -- 134 t ne 
    refine lv_iload_n hx hb dX1_count_144 rfl (lv_at hl 1 rfl) ?_
    refine lv_iconst (v := 1) hx hb dX1_count_145 (by decide) ?_
    refine lv_icmp_ne (tgt := 153) hx hb dX1_count_146 (by decide) (fun c146 => ?_) (fun c146 => ?_)
    · -- 146 t ne 
      refine lv_iload_n hx hb dX1_count_153 rfl (lv_at hl 1 rfl) ?_
      refine lv_iconst (v := 2) hx hb dX1_count_154 (by decide) ?_
      refine lv_icmp_ne (tgt := 162) hx hb dX1_count_155 (by decide) (fun c155 => ?_) (fun c155 => ?_)
      · -- 155 t ne 
        refine lv_iload_n hx hb dX1_count_162 rfl (lv_at hl 1 rfl) ?_
        refine lv_iconst (v := 3) hx hb dX1_count_163 (by decide) ?_
        refine lv_icmp_ne (tgt := 172) hx hb dX1_count_164 (by decide) (fun c164 => ?_) (fun c164 => ?_)
        · -- 164 t ne 
          refine lv_iload_n hx hb dX1_count_172 rfl (lv_at hl 1 rfl) ?_
          refine lv_iconst (v := 4) hx hb dX1_count_173 (by decide) ?_
          refine lv_icmp_ne (tgt := 184) hx hb dX1_count_174 (by decide) (fun c174 => ?_) (fun c174 => ?_)
          · -- 174 t ne 
            refine lv_iload_n hx hb dX1_count_184 rfl (lv_at hl 1 rfl) ?_
            refine lv_iconst (v := 5) hx hb dX1_count_185 (by decide) ?_
            refine lv_icmp_ne (tgt := 194) hx hb dX1_count_186 (by decide) (fun c186 => ?_) (fun c186 => ?_)
            · -- 186 t ne 
              refine lv_iconst (v := (-1)) hx hb dX1_count_194 (by decide) ?_
              exact ret_i hx hb hr hlocks hK hP hD hS dX1_count_195 (se9, pl9, hN9) rfl (Or.inr (Or.inr (Or.inr (Or.inr (Or.inr (Or.inr (⟨⟨c134, c146, c155, c164, c174, c186⟩, rfl⟩)))))))
            · -- 186 f ne 
              refine lv_iload hx hb dX1_count_189 (lv_at hl 5 rfl) ?_
              refine lv_goto (tgt := 195) hx hb dX1_count_191 (by decide) ?_
              exact ret_i hx hb hr hlocks hK hP hD hS dX1_count_195 (se9, pl9, hN9) rfl (Or.inr (Or.inr (Or.inr (Or.inr (Or.inr (Or.inl ⟨c186, hsm⟩))))))
          · -- 174 f ne 
            refine lv_aload_n hx hb dX1_count_177 rfl (lv_at hl 0 rfl) ?_
            refine rf_g_vc hx hb hts hin hown hK hP (by decide +kernel) dX1_count_178 ?_
            refine lv_goto (tgt := 195) hx hb dX1_count_181 (by decide) ?_
            exact ret_i hx hb hr hlocks hK hP hD hS dX1_count_195 (se9, pl9, hN9) rfl (Or.inr (Or.inr (Or.inr (Or.inr (Or.inl ⟨c174, rfl⟩)))))
        · -- 164 f ne 
          refine lv_iload hx hb dX1_count_167 (lv_at hl 4 rfl) ?_
          refine lv_goto (tgt := 195) hx hb dX1_count_169 (by decide) ?_
          exact ret_i hx hb hr hlocks hK hP hD hS dX1_count_195 (se9, pl9, hN9) rfl (Or.inr (Or.inr (Or.inr (Or.inl ⟨c164, ((ex_of hex (by rw [c164]; decide) (by rw [c164]; decide)).2 (by rw [c164]; decide)).2⟩))))
      · -- 155 f ne 
        refine lv_iload_n hx hb dX1_count_158 rfl (lv_at hl 3 rfl) ?_
        refine lv_goto (tgt := 195) hx hb dX1_count_159 (by decide) ?_
        exact ret_i hx hb hr hlocks hK hP hD hS dX1_count_195 (se9, pl9, hN9) rfl (Or.inr (Or.inr (Or.inl ⟨c155, by rw [((ex_of hex (by rw [c155]; decide) (by rw [c155]; decide)).2 (by rw [c155]; decide)).1]⟩)))
    · -- 146 f ne 
      refine lv_iload_n hx hb dX1_count_149 rfl (lv_at hl 2 rfl) ?_
      refine lv_goto (tgt := 195) hx hb dX1_count_150 (by decide) ?_
      exact ret_i hx hb hr hlocks hK hP hD hS dX1_count_195 (se9, pl9, hN9) rfl (Or.inr (Or.inl ⟨c146, by rw [(ex_of hex (by rw [c146]; decide) (by rw [c146]; decide)).1]⟩))
  · -- 134 f ne 
    refine lv_aload_n hx hb dX1_count_137 rfl (lv_at hl 0 rfl) ?_
    refine rf_g_pn hx hb hts hin hown hK hP (by decide +kernel) dX1_count_138 ?_
    refine lv_goto (tgt := 195) hx hb dX1_count_141 (by decide) ?_
    exact ret_i hx hb hr hlocks hK hP hD hS dX1_count_195 (se9, pl9, hN9) rfl (Or.inl ⟨c134, rfl⟩)
end
section
theorem in_X0_init : ∀ w ∈ u_ws RX0 TX0 18, w ∈ wsX0_init := by decide +kernel
set_option maxHeartbeats 8000000 in
set_option maxRecDepth 100000 in
theorem c_init {l : Launch} {D : va_G} (h0 sz : Nat) : Met l yX0_init wsX0_init ({ frames := 1, cells := 13, slots := 1746, locals := 12 }) (va_Pc [.ref h0] (fun U => U.heap.size = sz ∧ va_P D vwCl [(h0, .inr (0, [.int 0, .null, .null, .null, .int 0, .null, .null, .null, .null, .null, .int 0, .null, .null, .null, .null, .null, .int 0, .int 0]))] U.heap ∧ va_K D vwCl [] U ∧ va_D (fun _ => True) [(h0, .inr (0, [.int 0, .null, .null, .null, .int 0, .null, .null, .null, .null, .null, .int 0, .null, .null, .null, .null, .null, .int 0, .int 0]))])) (va_Qv (fun u : (Nat → Nat) × (Nat → ClassId) => u.1 0 = h0) (fun u t => va_P D vwCl (pfW u.1 u.2 0 (fun _ => 0) (fun _ => 0) (fun _ => 0) 0 (fun _ => 0) (fun _ => 0) (fun _ => 0) (fun _ => 0) (fun _ => 0) 0 (fun _ => 0) (fun _ => 0) (fun _ => 0) (fun _ => 0) (fun _ => 0) 0 0) t.heap ∧ va_K D vwCl (pfT u.2) t ∧ va_D (va_A [(h0, .inr (0, [.int 0, .null, .null, .null, .int 0, .null, .null, .null, .null, .null, .int 0, .null, .null, .null, .null, .null, .int 0, .int 0]))] sz) (pfW u.1 u.2 0 (fun _ => 0) (fun _ => 0) (fun _ => 0) 0 (fun _ => 0) (fun _ => 0) (fun _ => 0) (fun _ => 0) (fun _ => 0) 0 (fun _ => 0) (fun _ => 0) (fun _ => 0) (fun _ => 0) (fun _ => 0) 0 0)) (va_A [(h0, .inr (0, [.int 0, .null, .null, .null, .int 0, .null, .null, .null, .null, .null, .int 0, .null, .null, .null, .null, .null, .int 0, .int 0]))] sz)) 13 1746 (va_A [(h0, .inr (0, [.int 0, .null, .null, .null, .int 0, .null, .null, .null, .null, .null, .int 0, .null, .null, .null, .null, .null, .int 0, .int 0]))] sz) := by
  refine Met.ofW (cc := cX0_init) (maxL := 1) (ret := none) (by decide) rfl ?_
  intro p e s m args below meth c s₁ B hml hv
  obtain ⟨rfl, hsz, hP, hK, hD0⟩ := hv
  have hx := B.exec
  have hb := B.bytes
  have hr := B.returns
  have hts := atoms_spec (ws := wsX0_init) B.pre
  have hown : s.vm.findClass RX0 = some m.cls := findClass_of_methodNamed B.named
  have hlocks := B.notSynchronized
  have hinit : meth.name = "<init>" := (name_of_methodNamed B.named B.method).1
  have hin := in_X0_init
  subst hsz
  have hD := hD0.self (sz := s.heap.size)
  generalize hAe : va_A [(h0, .inr (0, [.int 0, .null, .null, .null, .int 0, .null, .null, .null, .null, .null, .int 0, .null, .null, .null, .null, .null, .int 0, .int 0]))] s.heap.size = A at hD ⊢
  have hA : ∀ q : Nat, s.heap.size ≤ q → A q := fun q h => by rw [← hAe]; exact Or.inr h
  have hS : va_S A s.heap s.heap [] := va_S.rf
  have hP : va_P D vwCl [(h0, .inr (0, [.int 0, .null, .null, .null, .int 0, .null, .null, .null, .null, .null, .int 0, .null, .null, .null, .null, .null, .int 0, .int 0]))] s.heap := hP
  have hl := lv_entry ([.ref h0]) (n := 1) (Nat.le_of_ble_eq_true rfl)
  rw [lg_entry_eq]
  generalize (lg_sl ([.ref h0]) ++ List.replicate (1 - (lg_sl ([.ref h0])).length) Slot.unset).toArray = ls at hl ⊢
  have hl : lv_has ls 1 [(0, .ref h0)] := hl
  refine lv_aload_n hx hb dX0_init_0 rfl (lv_at hl 0 rfl) ?_
  refine W.objInit hx hb hown (hts (.methodLink RX0 3 objectInit) (by decide +kernel)) (hts (.instanceMethod objectInit) (by decide +kernel)) (hts _ (by decide +kernel)) rfl (by rw [hml]; exact hl.1) rfl dX0_init_1 (Nat.le_of_ble_eq_true rfl) (Nat.le_of_ble_eq_true rfl) ?_
  refine W.eq (g2 := F0 m 4 ls []) rfl ?_
  refine lv_aload_n hx hb dX0_init_4 rfl (lv_at hl 0 rfl) ?_
  refine lv_bipush (v := 20) hx hb dX0_init_5 (by decide) ?_
  refine va_newa (atype := .int) (N' := 20) (a0 := (20, .inl (fun _ => 0))) (ty := .int) hx hb (hts (.arrayClass .int) (by decide +kernel)) rfl hK hP hD hS hA (fun cA => rfl) (by decide) (by decide) (by decide) (Nat.le_of_ble_eq_true rfl) (Nat.le_of_ble_eq_true rfl) dX0_init_7 (fun q7 k7 H hK hP hD hS => ?_)
  have hP : va_P D vwCl [(h0, .inr (0, [.int 0, .null, .null, .null, .int 0, .null, .null, .null, .null, .null, .int 0, .null, .null, .null, .null, .null, .int 0, .int 0])), (q7, .inl (k7, 20, .inl (fun _ => 0)))] H := hP
  have hD : va_D A [(h0, .inr (0, [.int 0, .null, .null, .null, .int 0, .null, .null, .null, .null, .null, .int 0, .null, .null, .null, .null, .null, .int 0, .int 0])), (q7, .inl (k7, 20, .inl (fun _ => 0)))] := hD
  have hK : va_K D vwCl [(k7, .int)] s := hK
  refine W.widen (k := 1) (n := 20) (by omega) (by omega) ?_
  refine va_putF (D := D) (ci := 0) (v := .ref q7) (ty := .array .int) (C := RX0) (T := TX0) (N := 18) hx hb hts hin tyX0 tyX0_ok nmX0 hown hK hP hD hS 0 rfl rfl 1 (by decide) (hts (.fieldLink RX0 9 "PartsFlow" "variableParts" "[I") (by decide +kernel)) (fun _ h9 => h9) rfl hinit rfl (by decide +kernel) rfl rfl (Nat.le_of_ble_eq_true rfl) dX0_init_9 (fun H locs hP hD hS => ?_)
  have hP : va_P D vwCl [(h0, .inr (0, [.int 0, .ref q7, .null, .null, .int 0, .null, .null, .null, .null, .null, .int 0, .null, .null, .null, .null, .null, .int 0, .int 0])), (q7, .inl (k7, 20, .inl (fun _ => 0)))] H := hP
  have hD : va_D A [(h0, .inr (0, [.int 0, .ref q7, .null, .null, .int 0, .null, .null, .null, .null, .null, .int 0, .null, .null, .null, .null, .null, .int 0, .int 0])), (q7, .inl (k7, 20, .inl (fun _ => 0)))] := hD
  refine lv_aload_n hx hb dX0_init_12 rfl (lv_at hl 0 rfl) ?_
  refine lv_bipush (v := 20) hx hb dX0_init_13 (by decide) ?_
  refine va_newa (atype := .boolean) (N' := 20) (a0 := (20, .inl (fun _ => 0))) (ty := .boolean) hx hb (hts (.arrayClass .boolean) (by decide +kernel)) rfl hK hP hD hS hA (fun cA => rfl) (by decide) (by decide) (by decide) (Nat.le_of_ble_eq_true rfl) (Nat.le_of_ble_eq_true rfl) dX0_init_15 (fun q15 k15 H hK hP hD hS => ?_)
  have hP : va_P D vwCl [(h0, .inr (0, [.int 0, .ref q7, .null, .null, .int 0, .null, .null, .null, .null, .null, .int 0, .null, .null, .null, .null, .null, .int 0, .int 0])), (q7, .inl (k7, 20, .inl (fun _ => 0))), (q15, .inl (k15, 20, .inl (fun _ => 0)))] H := hP
  have hD : va_D A [(h0, .inr (0, [.int 0, .ref q7, .null, .null, .int 0, .null, .null, .null, .null, .null, .int 0, .null, .null, .null, .null, .null, .int 0, .int 0])), (q7, .inl (k7, 20, .inl (fun _ => 0))), (q15, .inl (k15, 20, .inl (fun _ => 0)))] := hD
  have hK : va_K D vwCl [(k7, .int), (k15, .boolean)] s := hK
  refine W.widen (k := 2) (n := 40) (by omega) (by omega) ?_
  refine va_putF (D := D) (ci := 0) (v := .ref q15) (ty := .array .boolean) (C := RX0) (T := TX0) (N := 18) hx hb hts hin tyX0 tyX0_ok nmX0 hown hK hP hD hS 0 rfl rfl 2 (by decide) (hts (.fieldLink RX0 13 "PartsFlow" "variableOnce" "[Z") (by decide +kernel)) (fun _ h9 => h9) rfl hinit rfl (by decide +kernel) rfl rfl (Nat.le_of_ble_eq_true rfl) dX0_init_17 (fun H locs hP hD hS => ?_)
  have hP : va_P D vwCl [(h0, .inr (0, [.int 0, .ref q7, .ref q15, .null, .int 0, .null, .null, .null, .null, .null, .int 0, .null, .null, .null, .null, .null, .int 0, .int 0])), (q7, .inl (k7, 20, .inl (fun _ => 0))), (q15, .inl (k15, 20, .inl (fun _ => 0)))] H := hP
  have hD : va_D A [(h0, .inr (0, [.int 0, .ref q7, .ref q15, .null, .int 0, .null, .null, .null, .null, .null, .int 0, .null, .null, .null, .null, .null, .int 0, .int 0])), (q7, .inl (k7, 20, .inl (fun _ => 0))), (q15, .inl (k15, 20, .inl (fun _ => 0)))] := hD
  refine lv_aload_n hx hb dX0_init_20 rfl (lv_at hl 0 rfl) ?_
  refine lv_bipush (v := 20) hx hb dX0_init_21 (by decide) ?_
  refine va_newa (atype := .boolean) (N' := 20) (a0 := (20, .inl (fun _ => 0))) (ty := .boolean) hx hb (hts (.arrayClass .boolean) (by decide +kernel)) rfl hK hP hD hS hA (fun cA => rfl) (by decide) (by decide) (by decide) (Nat.le_of_ble_eq_true rfl) (Nat.le_of_ble_eq_true rfl) dX0_init_23 (fun q23 k23 H hK hP hD hS => ?_)
  have hP : va_P D vwCl [(h0, .inr (0, [.int 0, .ref q7, .ref q15, .null, .int 0, .null, .null, .null, .null, .null, .int 0, .null, .null, .null, .null, .null, .int 0, .int 0])), (q7, .inl (k7, 20, .inl (fun _ => 0))), (q15, .inl (k15, 20, .inl (fun _ => 0))), (q23, .inl (k23, 20, .inl (fun _ => 0)))] H := hP
  have hD : va_D A [(h0, .inr (0, [.int 0, .ref q7, .ref q15, .null, .int 0, .null, .null, .null, .null, .null, .int 0, .null, .null, .null, .null, .null, .int 0, .int 0])), (q7, .inl (k7, 20, .inl (fun _ => 0))), (q15, .inl (k15, 20, .inl (fun _ => 0))), (q23, .inl (k23, 20, .inl (fun _ => 0)))] := hD
  have hK : va_K D vwCl [(k7, .int), (k15, .boolean), (k23, .boolean)] s := hK
  refine W.widen (k := 3) (n := 60) (by omega) (by omega) ?_
  refine va_putF (D := D) (ci := 0) (v := .ref q23) (ty := .array .boolean) (C := RX0) (T := TX0) (N := 18) hx hb hts hin tyX0 tyX0_ok nmX0 hown hK hP hD hS 0 rfl rfl 3 (by decide) (hts (.fieldLink RX0 17 "PartsFlow" "variableGiven" "[Z") (by decide +kernel)) (fun _ h9 => h9) rfl hinit rfl (by decide +kernel) rfl rfl (Nat.le_of_ble_eq_true rfl) dX0_init_25 (fun H locs hP hD hS => ?_)
  have hP : va_P D vwCl [(h0, .inr (0, [.int 0, .ref q7, .ref q15, .ref q23, .int 0, .null, .null, .null, .null, .null, .int 0, .null, .null, .null, .null, .null, .int 0, .int 0])), (q7, .inl (k7, 20, .inl (fun _ => 0))), (q15, .inl (k15, 20, .inl (fun _ => 0))), (q23, .inl (k23, 20, .inl (fun _ => 0)))] H := hP
  have hD : va_D A [(h0, .inr (0, [.int 0, .ref q7, .ref q15, .ref q23, .int 0, .null, .null, .null, .null, .null, .int 0, .null, .null, .null, .null, .null, .int 0, .int 0])), (q7, .inl (k7, 20, .inl (fun _ => 0))), (q15, .inl (k15, 20, .inl (fun _ => 0))), (q23, .inl (k23, 20, .inl (fun _ => 0)))] := hD
  refine lv_aload_n hx hb dX0_init_28 rfl (lv_at hl 0 rfl) ?_
  refine lv_bipush (v := 120) hx hb dX0_init_29 (by decide) ?_
  refine va_newa (atype := .int) (N' := 120) (a0 := (120, .inl (fun _ => 0))) (ty := .int) hx hb (hts (.arrayClass .int) (by decide +kernel)) rfl hK hP hD hS hA (fun cA => rfl) (by decide) (by decide) (by decide) (Nat.le_of_ble_eq_true rfl) (Nat.le_of_ble_eq_true rfl) dX0_init_31 (fun q31 k31 H hK hP hD hS => ?_)
  have hP : va_P D vwCl [(h0, .inr (0, [.int 0, .ref q7, .ref q15, .ref q23, .int 0, .null, .null, .null, .null, .null, .int 0, .null, .null, .null, .null, .null, .int 0, .int 0])), (q7, .inl (k7, 20, .inl (fun _ => 0))), (q15, .inl (k15, 20, .inl (fun _ => 0))), (q23, .inl (k23, 20, .inl (fun _ => 0))), (q31, .inl (k31, 120, .inl (fun _ => 0)))] H := hP
  have hD : va_D A [(h0, .inr (0, [.int 0, .ref q7, .ref q15, .ref q23, .int 0, .null, .null, .null, .null, .null, .int 0, .null, .null, .null, .null, .null, .int 0, .int 0])), (q7, .inl (k7, 20, .inl (fun _ => 0))), (q15, .inl (k15, 20, .inl (fun _ => 0))), (q23, .inl (k23, 20, .inl (fun _ => 0))), (q31, .inl (k31, 120, .inl (fun _ => 0)))] := hD
  have hK : va_K D vwCl [(k7, .int), (k15, .boolean), (k23, .boolean), (k31, .int)] s := hK
  refine W.widen (k := 4) (n := 180) (by omega) (by omega) ?_
  refine va_putF (D := D) (ci := 0) (v := .ref q31) (ty := .array .int) (C := RX0) (T := TX0) (N := 18) hx hb hts hin tyX0 tyX0_ok nmX0 hown hK hP hD hS 0 rfl rfl 5 (by decide) (hts (.fieldLink RX0 20 "PartsFlow" "pointDoing" "[I") (by decide +kernel)) (fun _ h9 => h9) rfl hinit rfl (by decide +kernel) rfl rfl (Nat.le_of_ble_eq_true rfl) dX0_init_33 (fun H locs hP hD hS => ?_)
  have hP : va_P D vwCl [(h0, .inr (0, [.int 0, .ref q7, .ref q15, .ref q23, .int 0, .ref q31, .null, .null, .null, .null, .int 0, .null, .null, .null, .null, .null, .int 0, .int 0])), (q7, .inl (k7, 20, .inl (fun _ => 0))), (q15, .inl (k15, 20, .inl (fun _ => 0))), (q23, .inl (k23, 20, .inl (fun _ => 0))), (q31, .inl (k31, 120, .inl (fun _ => 0)))] H := hP
  have hD : va_D A [(h0, .inr (0, [.int 0, .ref q7, .ref q15, .ref q23, .int 0, .ref q31, .null, .null, .null, .null, .int 0, .null, .null, .null, .null, .null, .int 0, .int 0])), (q7, .inl (k7, 20, .inl (fun _ => 0))), (q15, .inl (k15, 20, .inl (fun _ => 0))), (q23, .inl (k23, 20, .inl (fun _ => 0))), (q31, .inl (k31, 120, .inl (fun _ => 0)))] := hD
  refine lv_aload_n hx hb dX0_init_36 rfl (lv_at hl 0 rfl) ?_
  refine lv_bipush (v := 120) hx hb dX0_init_37 (by decide) ?_
  refine va_newa (atype := .int) (N' := 120) (a0 := (120, .inl (fun _ => 0))) (ty := .int) hx hb (hts (.arrayClass .int) (by decide +kernel)) rfl hK hP hD hS hA (fun cA => rfl) (by decide) (by decide) (by decide) (Nat.le_of_ble_eq_true rfl) (Nat.le_of_ble_eq_true rfl) dX0_init_39 (fun q39 k39 H hK hP hD hS => ?_)
  have hP : va_P D vwCl [(h0, .inr (0, [.int 0, .ref q7, .ref q15, .ref q23, .int 0, .ref q31, .null, .null, .null, .null, .int 0, .null, .null, .null, .null, .null, .int 0, .int 0])), (q7, .inl (k7, 20, .inl (fun _ => 0))), (q15, .inl (k15, 20, .inl (fun _ => 0))), (q23, .inl (k23, 20, .inl (fun _ => 0))), (q31, .inl (k31, 120, .inl (fun _ => 0))), (q39, .inl (k39, 120, .inl (fun _ => 0)))] H := hP
  have hD : va_D A [(h0, .inr (0, [.int 0, .ref q7, .ref q15, .ref q23, .int 0, .ref q31, .null, .null, .null, .null, .int 0, .null, .null, .null, .null, .null, .int 0, .int 0])), (q7, .inl (k7, 20, .inl (fun _ => 0))), (q15, .inl (k15, 20, .inl (fun _ => 0))), (q23, .inl (k23, 20, .inl (fun _ => 0))), (q31, .inl (k31, 120, .inl (fun _ => 0))), (q39, .inl (k39, 120, .inl (fun _ => 0)))] := hD
  have hK : va_K D vwCl [(k7, .int), (k15, .boolean), (k23, .boolean), (k31, .int), (k39, .int)] s := hK
  refine W.widen (k := 5) (n := 300) (by omega) (by omega) ?_
  refine va_putF (D := D) (ci := 0) (v := .ref q39) (ty := .array .int) (C := RX0) (T := TX0) (N := 18) hx hb hts hin tyX0 tyX0_ok nmX0 hown hK hP hD hS 0 rfl rfl 6 (by decide) (hts (.fieldLink RX0 23 "PartsFlow" "pointVariable" "[I") (by decide +kernel)) (fun _ h9 => h9) rfl hinit rfl (by decide +kernel) rfl rfl (Nat.le_of_ble_eq_true rfl) dX0_init_41 (fun H locs hP hD hS => ?_)
  have hP : va_P D vwCl [(h0, .inr (0, [.int 0, .ref q7, .ref q15, .ref q23, .int 0, .ref q31, .ref q39, .null, .null, .null, .int 0, .null, .null, .null, .null, .null, .int 0, .int 0])), (q7, .inl (k7, 20, .inl (fun _ => 0))), (q15, .inl (k15, 20, .inl (fun _ => 0))), (q23, .inl (k23, 20, .inl (fun _ => 0))), (q31, .inl (k31, 120, .inl (fun _ => 0))), (q39, .inl (k39, 120, .inl (fun _ => 0)))] H := hP
  have hD : va_D A [(h0, .inr (0, [.int 0, .ref q7, .ref q15, .ref q23, .int 0, .ref q31, .ref q39, .null, .null, .null, .int 0, .null, .null, .null, .null, .null, .int 0, .int 0])), (q7, .inl (k7, 20, .inl (fun _ => 0))), (q15, .inl (k15, 20, .inl (fun _ => 0))), (q23, .inl (k23, 20, .inl (fun _ => 0))), (q31, .inl (k31, 120, .inl (fun _ => 0))), (q39, .inl (k39, 120, .inl (fun _ => 0)))] := hD
  refine lv_aload_n hx hb dX0_init_44 rfl (lv_at hl 0 rfl) ?_
  refine lv_bipush (v := 120) hx hb dX0_init_45 (by decide) ?_
  refine va_newa (atype := .int) (N' := 120) (a0 := (120, .inl (fun _ => 0))) (ty := .int) hx hb (hts (.arrayClass .int) (by decide +kernel)) rfl hK hP hD hS hA (fun cA => rfl) (by decide) (by decide) (by decide) (Nat.le_of_ble_eq_true rfl) (Nat.le_of_ble_eq_true rfl) dX0_init_47 (fun q47 k47 H hK hP hD hS => ?_)
  have hP : va_P D vwCl [(h0, .inr (0, [.int 0, .ref q7, .ref q15, .ref q23, .int 0, .ref q31, .ref q39, .null, .null, .null, .int 0, .null, .null, .null, .null, .null, .int 0, .int 0])), (q7, .inl (k7, 20, .inl (fun _ => 0))), (q15, .inl (k15, 20, .inl (fun _ => 0))), (q23, .inl (k23, 20, .inl (fun _ => 0))), (q31, .inl (k31, 120, .inl (fun _ => 0))), (q39, .inl (k39, 120, .inl (fun _ => 0))), (q47, .inl (k47, 120, .inl (fun _ => 0)))] H := hP
  have hD : va_D A [(h0, .inr (0, [.int 0, .ref q7, .ref q15, .ref q23, .int 0, .ref q31, .ref q39, .null, .null, .null, .int 0, .null, .null, .null, .null, .null, .int 0, .int 0])), (q7, .inl (k7, 20, .inl (fun _ => 0))), (q15, .inl (k15, 20, .inl (fun _ => 0))), (q23, .inl (k23, 20, .inl (fun _ => 0))), (q31, .inl (k31, 120, .inl (fun _ => 0))), (q39, .inl (k39, 120, .inl (fun _ => 0))), (q47, .inl (k47, 120, .inl (fun _ => 0)))] := hD
  have hK : va_K D vwCl [(k7, .int), (k15, .boolean), (k23, .boolean), (k31, .int), (k39, .int), (k47, .int)] s := hK
  refine W.widen (k := 6) (n := 420) (by omega) (by omega) ?_
  refine va_putF (D := D) (ci := 0) (v := .ref q47) (ty := .array .int) (C := RX0) (T := TX0) (N := 18) hx hb hts hin tyX0 tyX0_ok nmX0 hown hK hP hD hS 0 rfl rfl 7 (by decide) (hts (.fieldLink RX0 26 "PartsFlow" "pointBits" "[I") (by decide +kernel)) (fun _ h9 => h9) rfl hinit rfl (by decide +kernel) rfl rfl (Nat.le_of_ble_eq_true rfl) dX0_init_49 (fun H locs hP hD hS => ?_)
  have hP : va_P D vwCl [(h0, .inr (0, [.int 0, .ref q7, .ref q15, .ref q23, .int 0, .ref q31, .ref q39, .ref q47, .null, .null, .int 0, .null, .null, .null, .null, .null, .int 0, .int 0])), (q7, .inl (k7, 20, .inl (fun _ => 0))), (q15, .inl (k15, 20, .inl (fun _ => 0))), (q23, .inl (k23, 20, .inl (fun _ => 0))), (q31, .inl (k31, 120, .inl (fun _ => 0))), (q39, .inl (k39, 120, .inl (fun _ => 0))), (q47, .inl (k47, 120, .inl (fun _ => 0)))] H := hP
  have hD : va_D A [(h0, .inr (0, [.int 0, .ref q7, .ref q15, .ref q23, .int 0, .ref q31, .ref q39, .ref q47, .null, .null, .int 0, .null, .null, .null, .null, .null, .int 0, .int 0])), (q7, .inl (k7, 20, .inl (fun _ => 0))), (q15, .inl (k15, 20, .inl (fun _ => 0))), (q23, .inl (k23, 20, .inl (fun _ => 0))), (q31, .inl (k31, 120, .inl (fun _ => 0))), (q39, .inl (k39, 120, .inl (fun _ => 0))), (q47, .inl (k47, 120, .inl (fun _ => 0)))] := hD
  refine lv_aload_n hx hb dX0_init_52 rfl (lv_at hl 0 rfl) ?_
  refine lv_bipush (v := 120) hx hb dX0_init_53 (by decide) ?_
  refine va_newa (atype := .int) (N' := 120) (a0 := (120, .inl (fun _ => 0))) (ty := .int) hx hb (hts (.arrayClass .int) (by decide +kernel)) rfl hK hP hD hS hA (fun cA => rfl) (by decide) (by decide) (by decide) (Nat.le_of_ble_eq_true rfl) (Nat.le_of_ble_eq_true rfl) dX0_init_55 (fun q55 k55 H hK hP hD hS => ?_)
  have hP : va_P D vwCl [(h0, .inr (0, [.int 0, .ref q7, .ref q15, .ref q23, .int 0, .ref q31, .ref q39, .ref q47, .null, .null, .int 0, .null, .null, .null, .null, .null, .int 0, .int 0])), (q7, .inl (k7, 20, .inl (fun _ => 0))), (q15, .inl (k15, 20, .inl (fun _ => 0))), (q23, .inl (k23, 20, .inl (fun _ => 0))), (q31, .inl (k31, 120, .inl (fun _ => 0))), (q39, .inl (k39, 120, .inl (fun _ => 0))), (q47, .inl (k47, 120, .inl (fun _ => 0))), (q55, .inl (k55, 120, .inl (fun _ => 0)))] H := hP
  have hD : va_D A [(h0, .inr (0, [.int 0, .ref q7, .ref q15, .ref q23, .int 0, .ref q31, .ref q39, .ref q47, .null, .null, .int 0, .null, .null, .null, .null, .null, .int 0, .int 0])), (q7, .inl (k7, 20, .inl (fun _ => 0))), (q15, .inl (k15, 20, .inl (fun _ => 0))), (q23, .inl (k23, 20, .inl (fun _ => 0))), (q31, .inl (k31, 120, .inl (fun _ => 0))), (q39, .inl (k39, 120, .inl (fun _ => 0))), (q47, .inl (k47, 120, .inl (fun _ => 0))), (q55, .inl (k55, 120, .inl (fun _ => 0)))] := hD
  have hK : va_K D vwCl [(k7, .int), (k15, .boolean), (k23, .boolean), (k31, .int), (k39, .int), (k47, .int), (k55, .int)] s := hK
  refine W.widen (k := 7) (n := 540) (by omega) (by omega) ?_
  refine va_putF (D := D) (ci := 0) (v := .ref q55) (ty := .array .int) (C := RX0) (T := TX0) (N := 18) hx hb hts hin tyX0 tyX0_ok nmX0 hown hK hP hD hS 0 rfl rfl 8 (by decide) (hts (.fieldLink RX0 29 "PartsFlow" "pointNextX" "[I") (by decide +kernel)) (fun _ h9 => h9) rfl hinit rfl (by decide +kernel) rfl rfl (Nat.le_of_ble_eq_true rfl) dX0_init_57 (fun H locs hP hD hS => ?_)
  have hP : va_P D vwCl [(h0, .inr (0, [.int 0, .ref q7, .ref q15, .ref q23, .int 0, .ref q31, .ref q39, .ref q47, .ref q55, .null, .int 0, .null, .null, .null, .null, .null, .int 0, .int 0])), (q7, .inl (k7, 20, .inl (fun _ => 0))), (q15, .inl (k15, 20, .inl (fun _ => 0))), (q23, .inl (k23, 20, .inl (fun _ => 0))), (q31, .inl (k31, 120, .inl (fun _ => 0))), (q39, .inl (k39, 120, .inl (fun _ => 0))), (q47, .inl (k47, 120, .inl (fun _ => 0))), (q55, .inl (k55, 120, .inl (fun _ => 0)))] H := hP
  have hD : va_D A [(h0, .inr (0, [.int 0, .ref q7, .ref q15, .ref q23, .int 0, .ref q31, .ref q39, .ref q47, .ref q55, .null, .int 0, .null, .null, .null, .null, .null, .int 0, .int 0])), (q7, .inl (k7, 20, .inl (fun _ => 0))), (q15, .inl (k15, 20, .inl (fun _ => 0))), (q23, .inl (k23, 20, .inl (fun _ => 0))), (q31, .inl (k31, 120, .inl (fun _ => 0))), (q39, .inl (k39, 120, .inl (fun _ => 0))), (q47, .inl (k47, 120, .inl (fun _ => 0))), (q55, .inl (k55, 120, .inl (fun _ => 0)))] := hD
  refine lv_aload_n hx hb dX0_init_60 rfl (lv_at hl 0 rfl) ?_
  refine lv_bipush (v := 120) hx hb dX0_init_61 (by decide) ?_
  refine va_newa (atype := .int) (N' := 120) (a0 := (120, .inl (fun _ => 0))) (ty := .int) hx hb (hts (.arrayClass .int) (by decide +kernel)) rfl hK hP hD hS hA (fun cA => rfl) (by decide) (by decide) (by decide) (Nat.le_of_ble_eq_true rfl) (Nat.le_of_ble_eq_true rfl) dX0_init_63 (fun q63 k63 H hK hP hD hS => ?_)
  have hP : va_P D vwCl [(h0, .inr (0, [.int 0, .ref q7, .ref q15, .ref q23, .int 0, .ref q31, .ref q39, .ref q47, .ref q55, .null, .int 0, .null, .null, .null, .null, .null, .int 0, .int 0])), (q7, .inl (k7, 20, .inl (fun _ => 0))), (q15, .inl (k15, 20, .inl (fun _ => 0))), (q23, .inl (k23, 20, .inl (fun _ => 0))), (q31, .inl (k31, 120, .inl (fun _ => 0))), (q39, .inl (k39, 120, .inl (fun _ => 0))), (q47, .inl (k47, 120, .inl (fun _ => 0))), (q55, .inl (k55, 120, .inl (fun _ => 0))), (q63, .inl (k63, 120, .inl (fun _ => 0)))] H := hP
  have hD : va_D A [(h0, .inr (0, [.int 0, .ref q7, .ref q15, .ref q23, .int 0, .ref q31, .ref q39, .ref q47, .ref q55, .null, .int 0, .null, .null, .null, .null, .null, .int 0, .int 0])), (q7, .inl (k7, 20, .inl (fun _ => 0))), (q15, .inl (k15, 20, .inl (fun _ => 0))), (q23, .inl (k23, 20, .inl (fun _ => 0))), (q31, .inl (k31, 120, .inl (fun _ => 0))), (q39, .inl (k39, 120, .inl (fun _ => 0))), (q47, .inl (k47, 120, .inl (fun _ => 0))), (q55, .inl (k55, 120, .inl (fun _ => 0))), (q63, .inl (k63, 120, .inl (fun _ => 0)))] := hD
  have hK : va_K D vwCl [(k7, .int), (k15, .boolean), (k23, .boolean), (k31, .int), (k39, .int), (k47, .int), (k55, .int), (k63, .int)] s := hK
  refine W.widen (k := 8) (n := 660) (by omega) (by omega) ?_
  refine va_putF (D := D) (ci := 0) (v := .ref q63) (ty := .array .int) (C := RX0) (T := TX0) (N := 18) hx hb hts hin tyX0 tyX0_ok nmX0 hown hK hP hD hS 0 rfl rfl 9 (by decide) (hts (.fieldLink RX0 32 "PartsFlow" "pointNextY" "[I") (by decide +kernel)) (fun _ h9 => h9) rfl hinit rfl (by decide +kernel) rfl rfl (Nat.le_of_ble_eq_true rfl) dX0_init_65 (fun H locs hP hD hS => ?_)
  have hP : va_P D vwCl [(h0, .inr (0, [.int 0, .ref q7, .ref q15, .ref q23, .int 0, .ref q31, .ref q39, .ref q47, .ref q55, .ref q63, .int 0, .null, .null, .null, .null, .null, .int 0, .int 0])), (q7, .inl (k7, 20, .inl (fun _ => 0))), (q15, .inl (k15, 20, .inl (fun _ => 0))), (q23, .inl (k23, 20, .inl (fun _ => 0))), (q31, .inl (k31, 120, .inl (fun _ => 0))), (q39, .inl (k39, 120, .inl (fun _ => 0))), (q47, .inl (k47, 120, .inl (fun _ => 0))), (q55, .inl (k55, 120, .inl (fun _ => 0))), (q63, .inl (k63, 120, .inl (fun _ => 0)))] H := hP
  have hD : va_D A [(h0, .inr (0, [.int 0, .ref q7, .ref q15, .ref q23, .int 0, .ref q31, .ref q39, .ref q47, .ref q55, .ref q63, .int 0, .null, .null, .null, .null, .null, .int 0, .int 0])), (q7, .inl (k7, 20, .inl (fun _ => 0))), (q15, .inl (k15, 20, .inl (fun _ => 0))), (q23, .inl (k23, 20, .inl (fun _ => 0))), (q31, .inl (k31, 120, .inl (fun _ => 0))), (q39, .inl (k39, 120, .inl (fun _ => 0))), (q47, .inl (k47, 120, .inl (fun _ => 0))), (q55, .inl (k55, 120, .inl (fun _ => 0))), (q63, .inl (k63, 120, .inl (fun _ => 0)))] := hD
  refine lv_aload_n hx hb dX0_init_68 rfl (lv_at hl 0 rfl) ?_
  refine lv_bipush (v := 120) hx hb dX0_init_69 (by decide) ?_
  refine va_newa (atype := .boolean) (N' := 120) (a0 := (120, .inl (fun _ => 0))) (ty := .boolean) hx hb (hts (.arrayClass .boolean) (by decide +kernel)) rfl hK hP hD hS hA (fun cA => rfl) (by decide) (by decide) (by decide) (Nat.le_of_ble_eq_true rfl) (Nat.le_of_ble_eq_true rfl) dX0_init_71 (fun q71 k71 H hK hP hD hS => ?_)
  have hP : va_P D vwCl [(h0, .inr (0, [.int 0, .ref q7, .ref q15, .ref q23, .int 0, .ref q31, .ref q39, .ref q47, .ref q55, .ref q63, .int 0, .null, .null, .null, .null, .null, .int 0, .int 0])), (q7, .inl (k7, 20, .inl (fun _ => 0))), (q15, .inl (k15, 20, .inl (fun _ => 0))), (q23, .inl (k23, 20, .inl (fun _ => 0))), (q31, .inl (k31, 120, .inl (fun _ => 0))), (q39, .inl (k39, 120, .inl (fun _ => 0))), (q47, .inl (k47, 120, .inl (fun _ => 0))), (q55, .inl (k55, 120, .inl (fun _ => 0))), (q63, .inl (k63, 120, .inl (fun _ => 0))), (q71, .inl (k71, 120, .inl (fun _ => 0)))] H := hP
  have hD : va_D A [(h0, .inr (0, [.int 0, .ref q7, .ref q15, .ref q23, .int 0, .ref q31, .ref q39, .ref q47, .ref q55, .ref q63, .int 0, .null, .null, .null, .null, .null, .int 0, .int 0])), (q7, .inl (k7, 20, .inl (fun _ => 0))), (q15, .inl (k15, 20, .inl (fun _ => 0))), (q23, .inl (k23, 20, .inl (fun _ => 0))), (q31, .inl (k31, 120, .inl (fun _ => 0))), (q39, .inl (k39, 120, .inl (fun _ => 0))), (q47, .inl (k47, 120, .inl (fun _ => 0))), (q55, .inl (k55, 120, .inl (fun _ => 0))), (q63, .inl (k63, 120, .inl (fun _ => 0))), (q71, .inl (k71, 120, .inl (fun _ => 0)))] := hD
  have hK : va_K D vwCl [(k7, .int), (k15, .boolean), (k23, .boolean), (k31, .int), (k39, .int), (k47, .int), (k55, .int), (k63, .int), (k71, .boolean)] s := hK
  refine W.widen (k := 9) (n := 780) (by omega) (by omega) ?_
  refine va_putF (D := D) (ci := 0) (v := .ref q71) (ty := .array .boolean) (C := RX0) (T := TX0) (N := 18) hx hb hts hin tyX0 tyX0_ok nmX0 hown hK hP hD hS 0 rfl rfl 11 (by decide) (hts (.fieldLink RX0 35 "PartsFlow" "reached" "[Z") (by decide +kernel)) (fun _ h9 => h9) rfl hinit rfl (by decide +kernel) rfl rfl (Nat.le_of_ble_eq_true rfl) dX0_init_73 (fun H locs hP hD hS => ?_)
  have hP : va_P D vwCl [(h0, .inr (0, [.int 0, .ref q7, .ref q15, .ref q23, .int 0, .ref q31, .ref q39, .ref q47, .ref q55, .ref q63, .int 0, .ref q71, .null, .null, .null, .null, .int 0, .int 0])), (q7, .inl (k7, 20, .inl (fun _ => 0))), (q15, .inl (k15, 20, .inl (fun _ => 0))), (q23, .inl (k23, 20, .inl (fun _ => 0))), (q31, .inl (k31, 120, .inl (fun _ => 0))), (q39, .inl (k39, 120, .inl (fun _ => 0))), (q47, .inl (k47, 120, .inl (fun _ => 0))), (q55, .inl (k55, 120, .inl (fun _ => 0))), (q63, .inl (k63, 120, .inl (fun _ => 0))), (q71, .inl (k71, 120, .inl (fun _ => 0)))] H := hP
  have hD : va_D A [(h0, .inr (0, [.int 0, .ref q7, .ref q15, .ref q23, .int 0, .ref q31, .ref q39, .ref q47, .ref q55, .ref q63, .int 0, .ref q71, .null, .null, .null, .null, .int 0, .int 0])), (q7, .inl (k7, 20, .inl (fun _ => 0))), (q15, .inl (k15, 20, .inl (fun _ => 0))), (q23, .inl (k23, 20, .inl (fun _ => 0))), (q31, .inl (k31, 120, .inl (fun _ => 0))), (q39, .inl (k39, 120, .inl (fun _ => 0))), (q47, .inl (k47, 120, .inl (fun _ => 0))), (q55, .inl (k55, 120, .inl (fun _ => 0))), (q63, .inl (k63, 120, .inl (fun _ => 0))), (q71, .inl (k71, 120, .inl (fun _ => 0)))] := hD
  refine lv_aload_n hx hb dX0_init_76 rfl (lv_at hl 0 rfl) ?_
  refine lv_sipush (v := 720) hx hb dX0_init_77 (by decide) ?_
  refine va_newa (atype := .long) (N' := 720) (a0 := (720, .inr (.inl (fun _ => 0)))) (ty := .long) hx hb (hts (.arrayClass .long) (by decide +kernel)) rfl hK hP hD hS hA (fun cA => rfl) (by decide) (by decide) (by decide) (Nat.le_of_ble_eq_true rfl) (Nat.le_of_ble_eq_true rfl) dX0_init_80 (fun q80 k80 H hK hP hD hS => ?_)
  have hP : va_P D vwCl [(h0, .inr (0, [.int 0, .ref q7, .ref q15, .ref q23, .int 0, .ref q31, .ref q39, .ref q47, .ref q55, .ref q63, .int 0, .ref q71, .null, .null, .null, .null, .int 0, .int 0])), (q7, .inl (k7, 20, .inl (fun _ => 0))), (q15, .inl (k15, 20, .inl (fun _ => 0))), (q23, .inl (k23, 20, .inl (fun _ => 0))), (q31, .inl (k31, 120, .inl (fun _ => 0))), (q39, .inl (k39, 120, .inl (fun _ => 0))), (q47, .inl (k47, 120, .inl (fun _ => 0))), (q55, .inl (k55, 120, .inl (fun _ => 0))), (q63, .inl (k63, 120, .inl (fun _ => 0))), (q71, .inl (k71, 120, .inl (fun _ => 0))), (q80, .inl (k80, 720, .inr (.inl (fun _ => 0))))] H := hP
  have hD : va_D A [(h0, .inr (0, [.int 0, .ref q7, .ref q15, .ref q23, .int 0, .ref q31, .ref q39, .ref q47, .ref q55, .ref q63, .int 0, .ref q71, .null, .null, .null, .null, .int 0, .int 0])), (q7, .inl (k7, 20, .inl (fun _ => 0))), (q15, .inl (k15, 20, .inl (fun _ => 0))), (q23, .inl (k23, 20, .inl (fun _ => 0))), (q31, .inl (k31, 120, .inl (fun _ => 0))), (q39, .inl (k39, 120, .inl (fun _ => 0))), (q47, .inl (k47, 120, .inl (fun _ => 0))), (q55, .inl (k55, 120, .inl (fun _ => 0))), (q63, .inl (k63, 120, .inl (fun _ => 0))), (q71, .inl (k71, 120, .inl (fun _ => 0))), (q80, .inl (k80, 720, .inr (.inl (fun _ => 0))))] := hD
  have hK : va_K D vwCl [(k7, .int), (k15, .boolean), (k23, .boolean), (k31, .int), (k39, .int), (k47, .int), (k55, .int), (k63, .int), (k71, .boolean), (k80, .long)] s := hK
  refine W.widen (k := 10) (n := 1500) (by omega) (by omega) ?_
  refine va_putF (D := D) (ci := 0) (v := .ref q80) (ty := .array .long) (C := RX0) (T := TX0) (N := 18) hx hb hts hin tyX0 tyX0_ok nmX0 hown hK hP hD hS 0 rfl rfl 12 (by decide) (hts (.fieldLink RX0 38 "PartsFlow" "ahead" "[J") (by decide +kernel)) (fun _ h9 => h9) rfl hinit rfl (by decide +kernel) rfl rfl (Nat.le_of_ble_eq_true rfl) dX0_init_82 (fun H locs hP hD hS => ?_)
  have hP : va_P D vwCl [(h0, .inr (0, [.int 0, .ref q7, .ref q15, .ref q23, .int 0, .ref q31, .ref q39, .ref q47, .ref q55, .ref q63, .int 0, .ref q71, .ref q80, .null, .null, .null, .int 0, .int 0])), (q7, .inl (k7, 20, .inl (fun _ => 0))), (q15, .inl (k15, 20, .inl (fun _ => 0))), (q23, .inl (k23, 20, .inl (fun _ => 0))), (q31, .inl (k31, 120, .inl (fun _ => 0))), (q39, .inl (k39, 120, .inl (fun _ => 0))), (q47, .inl (k47, 120, .inl (fun _ => 0))), (q55, .inl (k55, 120, .inl (fun _ => 0))), (q63, .inl (k63, 120, .inl (fun _ => 0))), (q71, .inl (k71, 120, .inl (fun _ => 0))), (q80, .inl (k80, 720, .inr (.inl (fun _ => 0))))] H := hP
  have hD : va_D A [(h0, .inr (0, [.int 0, .ref q7, .ref q15, .ref q23, .int 0, .ref q31, .ref q39, .ref q47, .ref q55, .ref q63, .int 0, .ref q71, .ref q80, .null, .null, .null, .int 0, .int 0])), (q7, .inl (k7, 20, .inl (fun _ => 0))), (q15, .inl (k15, 20, .inl (fun _ => 0))), (q23, .inl (k23, 20, .inl (fun _ => 0))), (q31, .inl (k31, 120, .inl (fun _ => 0))), (q39, .inl (k39, 120, .inl (fun _ => 0))), (q47, .inl (k47, 120, .inl (fun _ => 0))), (q55, .inl (k55, 120, .inl (fun _ => 0))), (q63, .inl (k63, 120, .inl (fun _ => 0))), (q71, .inl (k71, 120, .inl (fun _ => 0))), (q80, .inl (k80, 720, .inr (.inl (fun _ => 0))))] := hD
  refine lv_aload_n hx hb dX0_init_85 rfl (lv_at hl 0 rfl) ?_
  refine lv_bipush (v := 6) hx hb dX0_init_86 (by decide) ?_
  refine va_newa (atype := .long) (N' := 6) (a0 := (6, .inr (.inl (fun _ => 0)))) (ty := .long) hx hb (hts (.arrayClass .long) (by decide +kernel)) rfl hK hP hD hS hA (fun cA => rfl) (by decide) (by decide) (by decide) (Nat.le_of_ble_eq_true rfl) (Nat.le_of_ble_eq_true rfl) dX0_init_88 (fun q88 k88 H hK hP hD hS => ?_)
  have hP : va_P D vwCl [(h0, .inr (0, [.int 0, .ref q7, .ref q15, .ref q23, .int 0, .ref q31, .ref q39, .ref q47, .ref q55, .ref q63, .int 0, .ref q71, .ref q80, .null, .null, .null, .int 0, .int 0])), (q7, .inl (k7, 20, .inl (fun _ => 0))), (q15, .inl (k15, 20, .inl (fun _ => 0))), (q23, .inl (k23, 20, .inl (fun _ => 0))), (q31, .inl (k31, 120, .inl (fun _ => 0))), (q39, .inl (k39, 120, .inl (fun _ => 0))), (q47, .inl (k47, 120, .inl (fun _ => 0))), (q55, .inl (k55, 120, .inl (fun _ => 0))), (q63, .inl (k63, 120, .inl (fun _ => 0))), (q71, .inl (k71, 120, .inl (fun _ => 0))), (q80, .inl (k80, 720, .inr (.inl (fun _ => 0)))), (q88, .inl (k88, 6, .inr (.inl (fun _ => 0))))] H := hP
  have hD : va_D A [(h0, .inr (0, [.int 0, .ref q7, .ref q15, .ref q23, .int 0, .ref q31, .ref q39, .ref q47, .ref q55, .ref q63, .int 0, .ref q71, .ref q80, .null, .null, .null, .int 0, .int 0])), (q7, .inl (k7, 20, .inl (fun _ => 0))), (q15, .inl (k15, 20, .inl (fun _ => 0))), (q23, .inl (k23, 20, .inl (fun _ => 0))), (q31, .inl (k31, 120, .inl (fun _ => 0))), (q39, .inl (k39, 120, .inl (fun _ => 0))), (q47, .inl (k47, 120, .inl (fun _ => 0))), (q55, .inl (k55, 120, .inl (fun _ => 0))), (q63, .inl (k63, 120, .inl (fun _ => 0))), (q71, .inl (k71, 120, .inl (fun _ => 0))), (q80, .inl (k80, 720, .inr (.inl (fun _ => 0)))), (q88, .inl (k88, 6, .inr (.inl (fun _ => 0))))] := hD
  have hK : va_K D vwCl [(k7, .int), (k15, .boolean), (k23, .boolean), (k31, .int), (k39, .int), (k47, .int), (k55, .int), (k63, .int), (k71, .boolean), (k80, .long), (k88, .long)] s := hK
  refine W.widen (k := 11) (n := 1506) (by omega) (by omega) ?_
  refine va_putF (D := D) (ci := 0) (v := .ref q88) (ty := .array .long) (C := RX0) (T := TX0) (N := 18) hx hb hts hin tyX0 tyX0_ok nmX0 hown hK hP hD hS 0 rfl rfl 13 (by decide) (hts (.fieldLink RX0 42 "PartsFlow" "behind" "[J") (by decide +kernel)) (fun _ h9 => h9) rfl hinit rfl (by decide +kernel) rfl rfl (Nat.le_of_ble_eq_true rfl) dX0_init_90 (fun H locs hP hD hS => ?_)
  have hP : va_P D vwCl [(h0, .inr (0, [.int 0, .ref q7, .ref q15, .ref q23, .int 0, .ref q31, .ref q39, .ref q47, .ref q55, .ref q63, .int 0, .ref q71, .ref q80, .ref q88, .null, .null, .int 0, .int 0])), (q7, .inl (k7, 20, .inl (fun _ => 0))), (q15, .inl (k15, 20, .inl (fun _ => 0))), (q23, .inl (k23, 20, .inl (fun _ => 0))), (q31, .inl (k31, 120, .inl (fun _ => 0))), (q39, .inl (k39, 120, .inl (fun _ => 0))), (q47, .inl (k47, 120, .inl (fun _ => 0))), (q55, .inl (k55, 120, .inl (fun _ => 0))), (q63, .inl (k63, 120, .inl (fun _ => 0))), (q71, .inl (k71, 120, .inl (fun _ => 0))), (q80, .inl (k80, 720, .inr (.inl (fun _ => 0)))), (q88, .inl (k88, 6, .inr (.inl (fun _ => 0))))] H := hP
  have hD : va_D A [(h0, .inr (0, [.int 0, .ref q7, .ref q15, .ref q23, .int 0, .ref q31, .ref q39, .ref q47, .ref q55, .ref q63, .int 0, .ref q71, .ref q80, .ref q88, .null, .null, .int 0, .int 0])), (q7, .inl (k7, 20, .inl (fun _ => 0))), (q15, .inl (k15, 20, .inl (fun _ => 0))), (q23, .inl (k23, 20, .inl (fun _ => 0))), (q31, .inl (k31, 120, .inl (fun _ => 0))), (q39, .inl (k39, 120, .inl (fun _ => 0))), (q47, .inl (k47, 120, .inl (fun _ => 0))), (q55, .inl (k55, 120, .inl (fun _ => 0))), (q63, .inl (k63, 120, .inl (fun _ => 0))), (q71, .inl (k71, 120, .inl (fun _ => 0))), (q80, .inl (k80, 720, .inr (.inl (fun _ => 0)))), (q88, .inl (k88, 6, .inr (.inl (fun _ => 0))))] := hD
  refine lv_aload_n hx hb dX0_init_93 rfl (lv_at hl 0 rfl) ?_
  refine lv_bipush (v := 120) hx hb dX0_init_94 (by decide) ?_
  refine va_newa (atype := .int) (N' := 120) (a0 := (120, .inl (fun _ => 0))) (ty := .int) hx hb (hts (.arrayClass .int) (by decide +kernel)) rfl hK hP hD hS hA (fun cA => rfl) (by decide) (by decide) (by decide) (Nat.le_of_ble_eq_true rfl) (Nat.le_of_ble_eq_true rfl) dX0_init_96 (fun q96 k96 H hK hP hD hS => ?_)
  have hP : va_P D vwCl [(h0, .inr (0, [.int 0, .ref q7, .ref q15, .ref q23, .int 0, .ref q31, .ref q39, .ref q47, .ref q55, .ref q63, .int 0, .ref q71, .ref q80, .ref q88, .null, .null, .int 0, .int 0])), (q7, .inl (k7, 20, .inl (fun _ => 0))), (q15, .inl (k15, 20, .inl (fun _ => 0))), (q23, .inl (k23, 20, .inl (fun _ => 0))), (q31, .inl (k31, 120, .inl (fun _ => 0))), (q39, .inl (k39, 120, .inl (fun _ => 0))), (q47, .inl (k47, 120, .inl (fun _ => 0))), (q55, .inl (k55, 120, .inl (fun _ => 0))), (q63, .inl (k63, 120, .inl (fun _ => 0))), (q71, .inl (k71, 120, .inl (fun _ => 0))), (q80, .inl (k80, 720, .inr (.inl (fun _ => 0)))), (q88, .inl (k88, 6, .inr (.inl (fun _ => 0)))), (q96, .inl (k96, 120, .inl (fun _ => 0)))] H := hP
  have hD : va_D A [(h0, .inr (0, [.int 0, .ref q7, .ref q15, .ref q23, .int 0, .ref q31, .ref q39, .ref q47, .ref q55, .ref q63, .int 0, .ref q71, .ref q80, .ref q88, .null, .null, .int 0, .int 0])), (q7, .inl (k7, 20, .inl (fun _ => 0))), (q15, .inl (k15, 20, .inl (fun _ => 0))), (q23, .inl (k23, 20, .inl (fun _ => 0))), (q31, .inl (k31, 120, .inl (fun _ => 0))), (q39, .inl (k39, 120, .inl (fun _ => 0))), (q47, .inl (k47, 120, .inl (fun _ => 0))), (q55, .inl (k55, 120, .inl (fun _ => 0))), (q63, .inl (k63, 120, .inl (fun _ => 0))), (q71, .inl (k71, 120, .inl (fun _ => 0))), (q80, .inl (k80, 720, .inr (.inl (fun _ => 0)))), (q88, .inl (k88, 6, .inr (.inl (fun _ => 0)))), (q96, .inl (k96, 120, .inl (fun _ => 0)))] := hD
  have hK : va_K D vwCl [(k7, .int), (k15, .boolean), (k23, .boolean), (k31, .int), (k39, .int), (k47, .int), (k55, .int), (k63, .int), (k71, .boolean), (k80, .long), (k88, .long), (k96, .int)] s := hK
  refine W.widen (k := 12) (n := 1626) (by omega) (by omega) ?_
  refine va_putF (D := D) (ci := 0) (v := .ref q96) (ty := .array .int) (C := RX0) (T := TX0) (N := 18) hx hb hts hin tyX0 tyX0_ok nmX0 hown hK hP hD hS 0 rfl rfl 14 (by decide) (hts (.fieldLink RX0 45 "PartsFlow" "waiting" "[I") (by decide +kernel)) (fun _ h9 => h9) rfl hinit rfl (by decide +kernel) rfl rfl (Nat.le_of_ble_eq_true rfl) dX0_init_98 (fun H locs hP hD hS => ?_)
  have hP : va_P D vwCl [(h0, .inr (0, [.int 0, .ref q7, .ref q15, .ref q23, .int 0, .ref q31, .ref q39, .ref q47, .ref q55, .ref q63, .int 0, .ref q71, .ref q80, .ref q88, .ref q96, .null, .int 0, .int 0])), (q7, .inl (k7, 20, .inl (fun _ => 0))), (q15, .inl (k15, 20, .inl (fun _ => 0))), (q23, .inl (k23, 20, .inl (fun _ => 0))), (q31, .inl (k31, 120, .inl (fun _ => 0))), (q39, .inl (k39, 120, .inl (fun _ => 0))), (q47, .inl (k47, 120, .inl (fun _ => 0))), (q55, .inl (k55, 120, .inl (fun _ => 0))), (q63, .inl (k63, 120, .inl (fun _ => 0))), (q71, .inl (k71, 120, .inl (fun _ => 0))), (q80, .inl (k80, 720, .inr (.inl (fun _ => 0)))), (q88, .inl (k88, 6, .inr (.inl (fun _ => 0)))), (q96, .inl (k96, 120, .inl (fun _ => 0)))] H := hP
  have hD : va_D A [(h0, .inr (0, [.int 0, .ref q7, .ref q15, .ref q23, .int 0, .ref q31, .ref q39, .ref q47, .ref q55, .ref q63, .int 0, .ref q71, .ref q80, .ref q88, .ref q96, .null, .int 0, .int 0])), (q7, .inl (k7, 20, .inl (fun _ => 0))), (q15, .inl (k15, 20, .inl (fun _ => 0))), (q23, .inl (k23, 20, .inl (fun _ => 0))), (q31, .inl (k31, 120, .inl (fun _ => 0))), (q39, .inl (k39, 120, .inl (fun _ => 0))), (q47, .inl (k47, 120, .inl (fun _ => 0))), (q55, .inl (k55, 120, .inl (fun _ => 0))), (q63, .inl (k63, 120, .inl (fun _ => 0))), (q71, .inl (k71, 120, .inl (fun _ => 0))), (q80, .inl (k80, 720, .inr (.inl (fun _ => 0)))), (q88, .inl (k88, 6, .inr (.inl (fun _ => 0)))), (q96, .inl (k96, 120, .inl (fun _ => 0)))] := hD
  refine lv_aload_n hx hb dX0_init_101 rfl (lv_at hl 0 rfl) ?_
  refine lv_bipush (v := 120) hx hb dX0_init_102 (by decide) ?_
  refine va_newa (atype := .boolean) (N' := 120) (a0 := (120, .inl (fun _ => 0))) (ty := .boolean) hx hb (hts (.arrayClass .boolean) (by decide +kernel)) rfl hK hP hD hS hA (fun cA => rfl) (by decide) (by decide) (by decide) (Nat.le_of_ble_eq_true rfl) (Nat.le_of_ble_eq_true rfl) dX0_init_104 (fun q104 k104 H hK hP hD hS => ?_)
  have hP : va_P D vwCl [(h0, .inr (0, [.int 0, .ref q7, .ref q15, .ref q23, .int 0, .ref q31, .ref q39, .ref q47, .ref q55, .ref q63, .int 0, .ref q71, .ref q80, .ref q88, .ref q96, .null, .int 0, .int 0])), (q7, .inl (k7, 20, .inl (fun _ => 0))), (q15, .inl (k15, 20, .inl (fun _ => 0))), (q23, .inl (k23, 20, .inl (fun _ => 0))), (q31, .inl (k31, 120, .inl (fun _ => 0))), (q39, .inl (k39, 120, .inl (fun _ => 0))), (q47, .inl (k47, 120, .inl (fun _ => 0))), (q55, .inl (k55, 120, .inl (fun _ => 0))), (q63, .inl (k63, 120, .inl (fun _ => 0))), (q71, .inl (k71, 120, .inl (fun _ => 0))), (q80, .inl (k80, 720, .inr (.inl (fun _ => 0)))), (q88, .inl (k88, 6, .inr (.inl (fun _ => 0)))), (q96, .inl (k96, 120, .inl (fun _ => 0))), (q104, .inl (k104, 120, .inl (fun _ => 0)))] H := hP
  have hD : va_D A [(h0, .inr (0, [.int 0, .ref q7, .ref q15, .ref q23, .int 0, .ref q31, .ref q39, .ref q47, .ref q55, .ref q63, .int 0, .ref q71, .ref q80, .ref q88, .ref q96, .null, .int 0, .int 0])), (q7, .inl (k7, 20, .inl (fun _ => 0))), (q15, .inl (k15, 20, .inl (fun _ => 0))), (q23, .inl (k23, 20, .inl (fun _ => 0))), (q31, .inl (k31, 120, .inl (fun _ => 0))), (q39, .inl (k39, 120, .inl (fun _ => 0))), (q47, .inl (k47, 120, .inl (fun _ => 0))), (q55, .inl (k55, 120, .inl (fun _ => 0))), (q63, .inl (k63, 120, .inl (fun _ => 0))), (q71, .inl (k71, 120, .inl (fun _ => 0))), (q80, .inl (k80, 720, .inr (.inl (fun _ => 0)))), (q88, .inl (k88, 6, .inr (.inl (fun _ => 0)))), (q96, .inl (k96, 120, .inl (fun _ => 0))), (q104, .inl (k104, 120, .inl (fun _ => 0)))] := hD
  have hK : va_K D vwCl [(k7, .int), (k15, .boolean), (k23, .boolean), (k31, .int), (k39, .int), (k47, .int), (k55, .int), (k63, .int), (k71, .boolean), (k80, .long), (k88, .long), (k96, .int), (k104, .boolean)] s := hK
  refine W.widen (k := 13) (n := 1746) (by omega) (by omega) ?_
  refine va_putF (D := D) (ci := 0) (v := .ref q104) (ty := .array .boolean) (C := RX0) (T := TX0) (N := 18) hx hb hts hin tyX0 tyX0_ok nmX0 hown hK hP hD hS 0 rfl rfl 15 (by decide) (hts (.fieldLink RX0 48 "PartsFlow" "isWaiting" "[Z") (by decide +kernel)) (fun _ h9 => h9) rfl hinit rfl (by decide +kernel) rfl rfl (Nat.le_of_ble_eq_true rfl) dX0_init_106 (fun H locs hP hD hS => ?_)
  have hP : va_P D vwCl [(h0, .inr (0, [.int 0, .ref q7, .ref q15, .ref q23, .int 0, .ref q31, .ref q39, .ref q47, .ref q55, .ref q63, .int 0, .ref q71, .ref q80, .ref q88, .ref q96, .ref q104, .int 0, .int 0])), (q7, .inl (k7, 20, .inl (fun _ => 0))), (q15, .inl (k15, 20, .inl (fun _ => 0))), (q23, .inl (k23, 20, .inl (fun _ => 0))), (q31, .inl (k31, 120, .inl (fun _ => 0))), (q39, .inl (k39, 120, .inl (fun _ => 0))), (q47, .inl (k47, 120, .inl (fun _ => 0))), (q55, .inl (k55, 120, .inl (fun _ => 0))), (q63, .inl (k63, 120, .inl (fun _ => 0))), (q71, .inl (k71, 120, .inl (fun _ => 0))), (q80, .inl (k80, 720, .inr (.inl (fun _ => 0)))), (q88, .inl (k88, 6, .inr (.inl (fun _ => 0)))), (q96, .inl (k96, 120, .inl (fun _ => 0))), (q104, .inl (k104, 120, .inl (fun _ => 0)))] H := hP
  have hD : va_D A [(h0, .inr (0, [.int 0, .ref q7, .ref q15, .ref q23, .int 0, .ref q31, .ref q39, .ref q47, .ref q55, .ref q63, .int 0, .ref q71, .ref q80, .ref q88, .ref q96, .ref q104, .int 0, .int 0])), (q7, .inl (k7, 20, .inl (fun _ => 0))), (q15, .inl (k15, 20, .inl (fun _ => 0))), (q23, .inl (k23, 20, .inl (fun _ => 0))), (q31, .inl (k31, 120, .inl (fun _ => 0))), (q39, .inl (k39, 120, .inl (fun _ => 0))), (q47, .inl (k47, 120, .inl (fun _ => 0))), (q55, .inl (k55, 120, .inl (fun _ => 0))), (q63, .inl (k63, 120, .inl (fun _ => 0))), (q71, .inl (k71, 120, .inl (fun _ => 0))), (q80, .inl (k80, 720, .inr (.inl (fun _ => 0)))), (q88, .inl (k88, 6, .inr (.inl (fun _ => 0)))), (q96, .inl (k96, 120, .inl (fun _ => 0))), (q104, .inl (k104, 120, .inl (fun _ => 0)))] := hD
  have hP9 := hP.sub (ws' := pfW (fun i => match i with | 0 => h0 | 1 => q7 | 2 => q15 | 3 => q23 | 4 => q31 | 5 => q39 | 6 => q47 | 7 => q55 | 8 => q63 | 9 => q71 | 10 => q80 | 11 => q88 | 12 => q96 | _ => q104) (fun i => match i with | 0 => k7 | 1 => k15 | 2 => k23 | 3 => k31 | 4 => k39 | 5 => k47 | 6 => k55 | 7 => k63 | 8 => k71 | 9 => k80 | 10 => k88 | 11 => k96 | _ => k104) 0 (fun _ => 0) (fun _ => 0) (fun _ => 0) 0 (fun _ => 0) (fun _ => 0) (fun _ => 0) (fun _ => 0) (fun _ => 0) 0 (fun _ => 0) (fun _ => 0) (fun _ => 0) (fun _ => 0) (fun _ => 0) 0 0) [0, 1, 2, 3, 4, 5, 6, 7, 8, 9, 10, 11, 12, 13] rfl
  have hD9 := hD.sub (ws' := pfW (fun i => match i with | 0 => h0 | 1 => q7 | 2 => q15 | 3 => q23 | 4 => q31 | 5 => q39 | 6 => q47 | 7 => q55 | 8 => q63 | 9 => q71 | 10 => q80 | 11 => q88 | 12 => q96 | _ => q104) (fun i => match i with | 0 => k7 | 1 => k15 | 2 => k23 | 3 => k31 | 4 => k39 | 5 => k47 | 6 => k55 | 7 => k63 | 8 => k71 | 9 => k80 | 10 => k88 | 11 => k96 | _ => k104) 0 (fun _ => 0) (fun _ => 0) (fun _ => 0) 0 (fun _ => 0) (fun _ => 0) (fun _ => 0) (fun _ => 0) (fun _ => 0) 0 (fun _ => 0) (fun _ => 0) (fun _ => 0) (fun _ => 0) (fun _ => 0) 0 0) [0, 1, 2, 3, 4, 5, 6, 7, 8, 9, 10, 11, 12, 13] (by decide) rfl
  have hK9 := hK.sub (tys' := pfT (fun i => match i with | 0 => k7 | 1 => k15 | 2 => k23 | 3 => k31 | 4 => k39 | 5 => k47 | 6 => k55 | 7 => k63 | 8 => k71 | 9 => k80 | 10 => k88 | 11 => k96 | _ => k104)) [0, 1, 2, 3, 4, 5, 6, 7, 8, 9, 10, 11, 12] rfl
  exact W.vret hx hb hr (fun t ht hW => ⟨⟨(fun i => match i with | 0 => h0 | 1 => q7 | 2 => q15 | 3 => q23 | 4 => q31 | 5 => q39 | 6 => q47 | 7 => q55 | 8 => q63 | 9 => q71 | 10 => q80 | 11 => q88 | 12 => q96 | _ => q104, fun i => match i with | 0 => k7 | 1 => k15 | 2 => k23 | 3 => k31 | 4 => k39 | 5 => k47 | 6 => k55 | 7 => k63 | 8 => k71 | 9 => k80 | 10 => k88 | 11 => k96 | _ => k104), rfl, rfl, by rw [ht]; exact hP9, va_K.moved hW.alike hK9, hD9⟩, hS.F ht⟩) hS.2.2 dX0_init_109
end
section
theorem ri_X1_init : ∀ w ∈ u_ws RX1 TX1 14, w ∈ wsX1_init := by decide +kernel
set_option maxHeartbeats 8000000 in
set_option maxRecDepth 100000 in
theorem r_init {l : Launch} {D : va_G} (h0 sz : Nat) : Met l yX1_init wsX1_init ({ frames := 1, cells := 11, slots := 1260, locals := 12 }) (va_Pc [.ref h0] (fun U => U.heap.size = sz ∧ va_P D vwCl [(h0, .inr (1, [.int 0, .null, .null, .null, .int 0, .null, .null, .null, .null, .null, .null, .null, .null, .int 0]))] U.heap ∧ va_K D vwCl [] U ∧ va_D (fun _ => True) [(h0, .inr (1, [.int 0, .null, .null, .null, .int 0, .null, .null, .null, .null, .null, .null, .null, .null, .int 0]))])) (va_Qv (fun u : (Nat → Nat) × (Nat → ClassId) => u.1 0 = h0) (fun u t => va_P D vwCl (rfW u.1 u.2 0 (fun _ => 0) (fun _ => 0) (fun _ => 0) 0 (fun _ => 0) (fun _ => 0) (fun _ => 0) (fun _ => 0) (fun _ => 0) (fun _ => 0) (fun _ => 0) (fun _ => 0) 0) t.heap ∧ va_K D vwCl (rfT u.2) t ∧ va_D (va_A [(h0, .inr (1, [.int 0, .null, .null, .null, .int 0, .null, .null, .null, .null, .null, .null, .null, .null, .int 0]))] sz) (rfW u.1 u.2 0 (fun _ => 0) (fun _ => 0) (fun _ => 0) 0 (fun _ => 0) (fun _ => 0) (fun _ => 0) (fun _ => 0) (fun _ => 0) (fun _ => 0) (fun _ => 0) (fun _ => 0) 0)) (va_A [(h0, .inr (1, [.int 0, .null, .null, .null, .int 0, .null, .null, .null, .null, .null, .null, .null, .null, .int 0]))] sz)) 11 1260 (va_A [(h0, .inr (1, [.int 0, .null, .null, .null, .int 0, .null, .null, .null, .null, .null, .null, .null, .null, .int 0]))] sz) := by
  refine Met.ofW (cc := cX1_init) (maxL := 1) (ret := none) (by decide) rfl ?_
  intro p e s m args below meth c s₁ B hml hv
  obtain ⟨rfl, hsz, hP, hK, hD0⟩ := hv
  have hx := B.exec
  have hb := B.bytes
  have hr := B.returns
  have hts := atoms_spec (ws := wsX1_init) B.pre
  have hown : s.vm.findClass RX1 = some m.cls := findClass_of_methodNamed B.named
  have hlocks := B.notSynchronized
  have hinit : meth.name = "<init>" := (name_of_methodNamed B.named B.method).1
  have hin := ri_X1_init
  subst hsz
  have hD := hD0.self (sz := s.heap.size)
  generalize hAe : va_A [(h0, .inr (1, [.int 0, .null, .null, .null, .int 0, .null, .null, .null, .null, .null, .null, .null, .null, .int 0]))] s.heap.size = A at hD ⊢
  have hA : ∀ q : Nat, s.heap.size ≤ q → A q := fun q h => by rw [← hAe]; exact Or.inr h
  have hS : va_S A s.heap s.heap [] := va_S.rf
  have hP : va_P D vwCl [(h0, .inr (1, [.int 0, .null, .null, .null, .int 0, .null, .null, .null, .null, .null, .null, .null, .null, .int 0]))] s.heap := hP
  have hl := lv_entry ([.ref h0]) (n := 1) (Nat.le_of_ble_eq_true rfl)
  rw [lg_entry_eq]
  generalize (lg_sl ([.ref h0]) ++ List.replicate (1 - (lg_sl ([.ref h0])).length) Slot.unset).toArray = ls at hl ⊢
  have hl : lv_has ls 1 [(0, .ref h0)] := hl
  refine lv_aload_n hx hb dX1_init_0 rfl (lv_at hl 0 rfl) ?_
  refine W.objInit hx hb hown (hts (.methodLink RX1 1 objectInit) (by decide +kernel)) (hts (.instanceMethod objectInit) (by decide +kernel)) (hts _ (by decide +kernel)) rfl (by rw [hml]; exact hl.1) rfl dX1_init_1 (Nat.le_of_ble_eq_true rfl) (Nat.le_of_ble_eq_true rfl) ?_
  refine W.eq (g2 := F0 m 4 ls []) rfl ?_
  refine lv_aload_n hx hb dX1_init_4 rfl (lv_at hl 0 rfl) ?_
  refine lv_bipush (v := 20) hx hb dX1_init_5 (by decide) ?_
  refine va_newa (atype := .int) (N' := 20) (a0 := (20, .inl (fun _ => 0))) (ty := .int) hx hb (hts (.arrayClass .int) (by decide +kernel)) rfl hK hP hD hS hA (fun cA => rfl) (by decide) (by decide) (by decide) (Nat.le_of_ble_eq_true rfl) (Nat.le_of_ble_eq_true rfl) dX1_init_7 (fun q7 k7 H hK hP hD hS => ?_)
  have hP : va_P D vwCl [(h0, .inr (1, [.int 0, .null, .null, .null, .int 0, .null, .null, .null, .null, .null, .null, .null, .null, .int 0])), (q7, .inl (k7, 20, .inl (fun _ => 0)))] H := hP
  have hD : va_D A [(h0, .inr (1, [.int 0, .null, .null, .null, .int 0, .null, .null, .null, .null, .null, .null, .null, .null, .int 0])), (q7, .inl (k7, 20, .inl (fun _ => 0)))] := hD
  have hK : va_K D vwCl [(k7, .int)] s := hK
  refine W.widen (k := 1) (n := 20) (by omega) (by omega) ?_
  refine va_putF (D := D) (ci := 1) (v := .ref q7) (ty := .array .int) (C := RX1) (T := TX1) (N := 14) hx hb hts hin tyX1 tyX1_ok nmX1 hown hK hP hD hS 0 rfl rfl 1 (by decide) (hts (.fieldLink RX1 7 "PartsFlowModel" "parts" "[I") (by decide +kernel)) (fun _ h9 => h9) rfl hinit rfl (by decide +kernel) rfl rfl (Nat.le_of_ble_eq_true rfl) dX1_init_9 (fun H locs hP hD hS => ?_)
  have hP : va_P D vwCl [(h0, .inr (1, [.int 0, .ref q7, .null, .null, .int 0, .null, .null, .null, .null, .null, .null, .null, .null, .int 0])), (q7, .inl (k7, 20, .inl (fun _ => 0)))] H := hP
  have hD : va_D A [(h0, .inr (1, [.int 0, .ref q7, .null, .null, .int 0, .null, .null, .null, .null, .null, .null, .null, .null, .int 0])), (q7, .inl (k7, 20, .inl (fun _ => 0)))] := hD
  refine lv_aload_n hx hb dX1_init_12 rfl (lv_at hl 0 rfl) ?_
  refine lv_bipush (v := 20) hx hb dX1_init_13 (by decide) ?_
  refine va_newa (atype := .boolean) (N' := 20) (a0 := (20, .inl (fun _ => 0))) (ty := .boolean) hx hb (hts (.arrayClass .boolean) (by decide +kernel)) rfl hK hP hD hS hA (fun cA => rfl) (by decide) (by decide) (by decide) (Nat.le_of_ble_eq_true rfl) (Nat.le_of_ble_eq_true rfl) dX1_init_15 (fun q15 k15 H hK hP hD hS => ?_)
  have hP : va_P D vwCl [(h0, .inr (1, [.int 0, .ref q7, .null, .null, .int 0, .null, .null, .null, .null, .null, .null, .null, .null, .int 0])), (q7, .inl (k7, 20, .inl (fun _ => 0))), (q15, .inl (k15, 20, .inl (fun _ => 0)))] H := hP
  have hD : va_D A [(h0, .inr (1, [.int 0, .ref q7, .null, .null, .int 0, .null, .null, .null, .null, .null, .null, .null, .null, .int 0])), (q7, .inl (k7, 20, .inl (fun _ => 0))), (q15, .inl (k15, 20, .inl (fun _ => 0)))] := hD
  have hK : va_K D vwCl [(k7, .int), (k15, .boolean)] s := hK
  refine W.widen (k := 2) (n := 40) (by omega) (by omega) ?_
  refine va_putF (D := D) (ci := 1) (v := .ref q15) (ty := .array .boolean) (C := RX1) (T := TX1) (N := 14) hx hb hts hin tyX1 tyX1_ok nmX1 hown hK hP hD hS 0 rfl rfl 2 (by decide) (hts (.fieldLink RX1 13 "PartsFlowModel" "once" "[Z") (by decide +kernel)) (fun _ h9 => h9) rfl hinit rfl (by decide +kernel) rfl rfl (Nat.le_of_ble_eq_true rfl) dX1_init_17 (fun H locs hP hD hS => ?_)
  have hP : va_P D vwCl [(h0, .inr (1, [.int 0, .ref q7, .ref q15, .null, .int 0, .null, .null, .null, .null, .null, .null, .null, .null, .int 0])), (q7, .inl (k7, 20, .inl (fun _ => 0))), (q15, .inl (k15, 20, .inl (fun _ => 0)))] H := hP
  have hD : va_D A [(h0, .inr (1, [.int 0, .ref q7, .ref q15, .null, .int 0, .null, .null, .null, .null, .null, .null, .null, .null, .int 0])), (q7, .inl (k7, 20, .inl (fun _ => 0))), (q15, .inl (k15, 20, .inl (fun _ => 0)))] := hD
  refine lv_aload_n hx hb dX1_init_20 rfl (lv_at hl 0 rfl) ?_
  refine lv_bipush (v := 20) hx hb dX1_init_21 (by decide) ?_
  refine va_newa (atype := .boolean) (N' := 20) (a0 := (20, .inl (fun _ => 0))) (ty := .boolean) hx hb (hts (.arrayClass .boolean) (by decide +kernel)) rfl hK hP hD hS hA (fun cA => rfl) (by decide) (by decide) (by decide) (Nat.le_of_ble_eq_true rfl) (Nat.le_of_ble_eq_true rfl) dX1_init_23 (fun q23 k23 H hK hP hD hS => ?_)
  have hP : va_P D vwCl [(h0, .inr (1, [.int 0, .ref q7, .ref q15, .null, .int 0, .null, .null, .null, .null, .null, .null, .null, .null, .int 0])), (q7, .inl (k7, 20, .inl (fun _ => 0))), (q15, .inl (k15, 20, .inl (fun _ => 0))), (q23, .inl (k23, 20, .inl (fun _ => 0)))] H := hP
  have hD : va_D A [(h0, .inr (1, [.int 0, .ref q7, .ref q15, .null, .int 0, .null, .null, .null, .null, .null, .null, .null, .null, .int 0])), (q7, .inl (k7, 20, .inl (fun _ => 0))), (q15, .inl (k15, 20, .inl (fun _ => 0))), (q23, .inl (k23, 20, .inl (fun _ => 0)))] := hD
  have hK : va_K D vwCl [(k7, .int), (k15, .boolean), (k23, .boolean)] s := hK
  refine W.widen (k := 3) (n := 60) (by omega) (by omega) ?_
  refine va_putF (D := D) (ci := 1) (v := .ref q23) (ty := .array .boolean) (C := RX1) (T := TX1) (N := 14) hx hb hts hin tyX1 tyX1_ok nmX1 hown hK hP hD hS 0 rfl rfl 3 (by decide) (hts (.fieldLink RX1 17 "PartsFlowModel" "given" "[Z") (by decide +kernel)) (fun _ h9 => h9) rfl hinit rfl (by decide +kernel) rfl rfl (Nat.le_of_ble_eq_true rfl) dX1_init_25 (fun H locs hP hD hS => ?_)
  have hP : va_P D vwCl [(h0, .inr (1, [.int 0, .ref q7, .ref q15, .ref q23, .int 0, .null, .null, .null, .null, .null, .null, .null, .null, .int 0])), (q7, .inl (k7, 20, .inl (fun _ => 0))), (q15, .inl (k15, 20, .inl (fun _ => 0))), (q23, .inl (k23, 20, .inl (fun _ => 0)))] H := hP
  have hD : va_D A [(h0, .inr (1, [.int 0, .ref q7, .ref q15, .ref q23, .int 0, .null, .null, .null, .null, .null, .null, .null, .null, .int 0])), (q7, .inl (k7, 20, .inl (fun _ => 0))), (q15, .inl (k15, 20, .inl (fun _ => 0))), (q23, .inl (k23, 20, .inl (fun _ => 0)))] := hD
  refine lv_aload_n hx hb dX1_init_28 rfl (lv_at hl 0 rfl) ?_
  refine lv_bipush (v := 120) hx hb dX1_init_29 (by decide) ?_
  refine va_newa (atype := .int) (N' := 120) (a0 := (120, .inl (fun _ => 0))) (ty := .int) hx hb (hts (.arrayClass .int) (by decide +kernel)) rfl hK hP hD hS hA (fun cA => rfl) (by decide) (by decide) (by decide) (Nat.le_of_ble_eq_true rfl) (Nat.le_of_ble_eq_true rfl) dX1_init_31 (fun q31 k31 H hK hP hD hS => ?_)
  have hP : va_P D vwCl [(h0, .inr (1, [.int 0, .ref q7, .ref q15, .ref q23, .int 0, .null, .null, .null, .null, .null, .null, .null, .null, .int 0])), (q7, .inl (k7, 20, .inl (fun _ => 0))), (q15, .inl (k15, 20, .inl (fun _ => 0))), (q23, .inl (k23, 20, .inl (fun _ => 0))), (q31, .inl (k31, 120, .inl (fun _ => 0)))] H := hP
  have hD : va_D A [(h0, .inr (1, [.int 0, .ref q7, .ref q15, .ref q23, .int 0, .null, .null, .null, .null, .null, .null, .null, .null, .int 0])), (q7, .inl (k7, 20, .inl (fun _ => 0))), (q15, .inl (k15, 20, .inl (fun _ => 0))), (q23, .inl (k23, 20, .inl (fun _ => 0))), (q31, .inl (k31, 120, .inl (fun _ => 0)))] := hD
  have hK : va_K D vwCl [(k7, .int), (k15, .boolean), (k23, .boolean), (k31, .int)] s := hK
  refine W.widen (k := 4) (n := 180) (by omega) (by omega) ?_
  refine va_putF (D := D) (ci := 1) (v := .ref q31) (ty := .array .int) (C := RX1) (T := TX1) (N := 14) hx hb hts hin tyX1 tyX1_ok nmX1 hown hK hP hD hS 0 rfl rfl 5 (by decide) (hts (.fieldLink RX1 20 "PartsFlowModel" "doings" "[I") (by decide +kernel)) (fun _ h9 => h9) rfl hinit rfl (by decide +kernel) rfl rfl (Nat.le_of_ble_eq_true rfl) dX1_init_33 (fun H locs hP hD hS => ?_)
  have hP : va_P D vwCl [(h0, .inr (1, [.int 0, .ref q7, .ref q15, .ref q23, .int 0, .ref q31, .null, .null, .null, .null, .null, .null, .null, .int 0])), (q7, .inl (k7, 20, .inl (fun _ => 0))), (q15, .inl (k15, 20, .inl (fun _ => 0))), (q23, .inl (k23, 20, .inl (fun _ => 0))), (q31, .inl (k31, 120, .inl (fun _ => 0)))] H := hP
  have hD : va_D A [(h0, .inr (1, [.int 0, .ref q7, .ref q15, .ref q23, .int 0, .ref q31, .null, .null, .null, .null, .null, .null, .null, .int 0])), (q7, .inl (k7, 20, .inl (fun _ => 0))), (q15, .inl (k15, 20, .inl (fun _ => 0))), (q23, .inl (k23, 20, .inl (fun _ => 0))), (q31, .inl (k31, 120, .inl (fun _ => 0)))] := hD
  refine lv_aload_n hx hb dX1_init_36 rfl (lv_at hl 0 rfl) ?_
  refine lv_bipush (v := 120) hx hb dX1_init_37 (by decide) ?_
  refine va_newa (atype := .int) (N' := 120) (a0 := (120, .inl (fun _ => 0))) (ty := .int) hx hb (hts (.arrayClass .int) (by decide +kernel)) rfl hK hP hD hS hA (fun cA => rfl) (by decide) (by decide) (by decide) (Nat.le_of_ble_eq_true rfl) (Nat.le_of_ble_eq_true rfl) dX1_init_39 (fun q39 k39 H hK hP hD hS => ?_)
  have hP : va_P D vwCl [(h0, .inr (1, [.int 0, .ref q7, .ref q15, .ref q23, .int 0, .ref q31, .null, .null, .null, .null, .null, .null, .null, .int 0])), (q7, .inl (k7, 20, .inl (fun _ => 0))), (q15, .inl (k15, 20, .inl (fun _ => 0))), (q23, .inl (k23, 20, .inl (fun _ => 0))), (q31, .inl (k31, 120, .inl (fun _ => 0))), (q39, .inl (k39, 120, .inl (fun _ => 0)))] H := hP
  have hD : va_D A [(h0, .inr (1, [.int 0, .ref q7, .ref q15, .ref q23, .int 0, .ref q31, .null, .null, .null, .null, .null, .null, .null, .int 0])), (q7, .inl (k7, 20, .inl (fun _ => 0))), (q15, .inl (k15, 20, .inl (fun _ => 0))), (q23, .inl (k23, 20, .inl (fun _ => 0))), (q31, .inl (k31, 120, .inl (fun _ => 0))), (q39, .inl (k39, 120, .inl (fun _ => 0)))] := hD
  have hK : va_K D vwCl [(k7, .int), (k15, .boolean), (k23, .boolean), (k31, .int), (k39, .int)] s := hK
  refine W.widen (k := 5) (n := 300) (by omega) (by omega) ?_
  refine va_putF (D := D) (ci := 1) (v := .ref q39) (ty := .array .int) (C := RX1) (T := TX1) (N := 14) hx hb hts hin tyX1 tyX1_ok nmX1 hown hK hP hD hS 0 rfl rfl 6 (by decide) (hts (.fieldLink RX1 23 "PartsFlowModel" "of" "[I") (by decide +kernel)) (fun _ h9 => h9) rfl hinit rfl (by decide +kernel) rfl rfl (Nat.le_of_ble_eq_true rfl) dX1_init_41 (fun H locs hP hD hS => ?_)
  have hP : va_P D vwCl [(h0, .inr (1, [.int 0, .ref q7, .ref q15, .ref q23, .int 0, .ref q31, .ref q39, .null, .null, .null, .null, .null, .null, .int 0])), (q7, .inl (k7, 20, .inl (fun _ => 0))), (q15, .inl (k15, 20, .inl (fun _ => 0))), (q23, .inl (k23, 20, .inl (fun _ => 0))), (q31, .inl (k31, 120, .inl (fun _ => 0))), (q39, .inl (k39, 120, .inl (fun _ => 0)))] H := hP
  have hD : va_D A [(h0, .inr (1, [.int 0, .ref q7, .ref q15, .ref q23, .int 0, .ref q31, .ref q39, .null, .null, .null, .null, .null, .null, .int 0])), (q7, .inl (k7, 20, .inl (fun _ => 0))), (q15, .inl (k15, 20, .inl (fun _ => 0))), (q23, .inl (k23, 20, .inl (fun _ => 0))), (q31, .inl (k31, 120, .inl (fun _ => 0))), (q39, .inl (k39, 120, .inl (fun _ => 0)))] := hD
  refine lv_aload_n hx hb dX1_init_44 rfl (lv_at hl 0 rfl) ?_
  refine lv_bipush (v := 120) hx hb dX1_init_45 (by decide) ?_
  refine va_newa (atype := .int) (N' := 120) (a0 := (120, .inl (fun _ => 0))) (ty := .int) hx hb (hts (.arrayClass .int) (by decide +kernel)) rfl hK hP hD hS hA (fun cA => rfl) (by decide) (by decide) (by decide) (Nat.le_of_ble_eq_true rfl) (Nat.le_of_ble_eq_true rfl) dX1_init_47 (fun q47 k47 H hK hP hD hS => ?_)
  have hP : va_P D vwCl [(h0, .inr (1, [.int 0, .ref q7, .ref q15, .ref q23, .int 0, .ref q31, .ref q39, .null, .null, .null, .null, .null, .null, .int 0])), (q7, .inl (k7, 20, .inl (fun _ => 0))), (q15, .inl (k15, 20, .inl (fun _ => 0))), (q23, .inl (k23, 20, .inl (fun _ => 0))), (q31, .inl (k31, 120, .inl (fun _ => 0))), (q39, .inl (k39, 120, .inl (fun _ => 0))), (q47, .inl (k47, 120, .inl (fun _ => 0)))] H := hP
  have hD : va_D A [(h0, .inr (1, [.int 0, .ref q7, .ref q15, .ref q23, .int 0, .ref q31, .ref q39, .null, .null, .null, .null, .null, .null, .int 0])), (q7, .inl (k7, 20, .inl (fun _ => 0))), (q15, .inl (k15, 20, .inl (fun _ => 0))), (q23, .inl (k23, 20, .inl (fun _ => 0))), (q31, .inl (k31, 120, .inl (fun _ => 0))), (q39, .inl (k39, 120, .inl (fun _ => 0))), (q47, .inl (k47, 120, .inl (fun _ => 0)))] := hD
  have hK : va_K D vwCl [(k7, .int), (k15, .boolean), (k23, .boolean), (k31, .int), (k39, .int), (k47, .int)] s := hK
  refine W.widen (k := 6) (n := 420) (by omega) (by omega) ?_
  refine va_putF (D := D) (ci := 1) (v := .ref q47) (ty := .array .int) (C := RX1) (T := TX1) (N := 14) hx hb hts hin tyX1 tyX1_ok nmX1 hown hK hP hD hS 0 rfl rfl 7 (by decide) (hts (.fieldLink RX1 26 "PartsFlowModel" "from" "[I") (by decide +kernel)) (fun _ h9 => h9) rfl hinit rfl (by decide +kernel) rfl rfl (Nat.le_of_ble_eq_true rfl) dX1_init_49 (fun H locs hP hD hS => ?_)
  have hP : va_P D vwCl [(h0, .inr (1, [.int 0, .ref q7, .ref q15, .ref q23, .int 0, .ref q31, .ref q39, .ref q47, .null, .null, .null, .null, .null, .int 0])), (q7, .inl (k7, 20, .inl (fun _ => 0))), (q15, .inl (k15, 20, .inl (fun _ => 0))), (q23, .inl (k23, 20, .inl (fun _ => 0))), (q31, .inl (k31, 120, .inl (fun _ => 0))), (q39, .inl (k39, 120, .inl (fun _ => 0))), (q47, .inl (k47, 120, .inl (fun _ => 0)))] H := hP
  have hD : va_D A [(h0, .inr (1, [.int 0, .ref q7, .ref q15, .ref q23, .int 0, .ref q31, .ref q39, .ref q47, .null, .null, .null, .null, .null, .int 0])), (q7, .inl (k7, 20, .inl (fun _ => 0))), (q15, .inl (k15, 20, .inl (fun _ => 0))), (q23, .inl (k23, 20, .inl (fun _ => 0))), (q31, .inl (k31, 120, .inl (fun _ => 0))), (q39, .inl (k39, 120, .inl (fun _ => 0))), (q47, .inl (k47, 120, .inl (fun _ => 0)))] := hD
  refine lv_aload_n hx hb dX1_init_52 rfl (lv_at hl 0 rfl) ?_
  refine lv_bipush (v := 120) hx hb dX1_init_53 (by decide) ?_
  refine va_newa (atype := .int) (N' := 120) (a0 := (120, .inl (fun _ => 0))) (ty := .int) hx hb (hts (.arrayClass .int) (by decide +kernel)) rfl hK hP hD hS hA (fun cA => rfl) (by decide) (by decide) (by decide) (Nat.le_of_ble_eq_true rfl) (Nat.le_of_ble_eq_true rfl) dX1_init_55 (fun q55 k55 H hK hP hD hS => ?_)
  have hP : va_P D vwCl [(h0, .inr (1, [.int 0, .ref q7, .ref q15, .ref q23, .int 0, .ref q31, .ref q39, .ref q47, .null, .null, .null, .null, .null, .int 0])), (q7, .inl (k7, 20, .inl (fun _ => 0))), (q15, .inl (k15, 20, .inl (fun _ => 0))), (q23, .inl (k23, 20, .inl (fun _ => 0))), (q31, .inl (k31, 120, .inl (fun _ => 0))), (q39, .inl (k39, 120, .inl (fun _ => 0))), (q47, .inl (k47, 120, .inl (fun _ => 0))), (q55, .inl (k55, 120, .inl (fun _ => 0)))] H := hP
  have hD : va_D A [(h0, .inr (1, [.int 0, .ref q7, .ref q15, .ref q23, .int 0, .ref q31, .ref q39, .ref q47, .null, .null, .null, .null, .null, .int 0])), (q7, .inl (k7, 20, .inl (fun _ => 0))), (q15, .inl (k15, 20, .inl (fun _ => 0))), (q23, .inl (k23, 20, .inl (fun _ => 0))), (q31, .inl (k31, 120, .inl (fun _ => 0))), (q39, .inl (k39, 120, .inl (fun _ => 0))), (q47, .inl (k47, 120, .inl (fun _ => 0))), (q55, .inl (k55, 120, .inl (fun _ => 0)))] := hD
  have hK : va_K D vwCl [(k7, .int), (k15, .boolean), (k23, .boolean), (k31, .int), (k39, .int), (k47, .int), (k55, .int)] s := hK
  refine W.widen (k := 7) (n := 540) (by omega) (by omega) ?_
  refine va_putF (D := D) (ci := 1) (v := .ref q55) (ty := .array .int) (C := RX1) (T := TX1) (N := 14) hx hb hts hin tyX1 tyX1_ok nmX1 hown hK hP hD hS 0 rfl rfl 8 (by decide) (hts (.fieldLink RX1 29 "PartsFlowModel" "many" "[I") (by decide +kernel)) (fun _ h9 => h9) rfl hinit rfl (by decide +kernel) rfl rfl (Nat.le_of_ble_eq_true rfl) dX1_init_57 (fun H locs hP hD hS => ?_)
  have hP : va_P D vwCl [(h0, .inr (1, [.int 0, .ref q7, .ref q15, .ref q23, .int 0, .ref q31, .ref q39, .ref q47, .ref q55, .null, .null, .null, .null, .int 0])), (q7, .inl (k7, 20, .inl (fun _ => 0))), (q15, .inl (k15, 20, .inl (fun _ => 0))), (q23, .inl (k23, 20, .inl (fun _ => 0))), (q31, .inl (k31, 120, .inl (fun _ => 0))), (q39, .inl (k39, 120, .inl (fun _ => 0))), (q47, .inl (k47, 120, .inl (fun _ => 0))), (q55, .inl (k55, 120, .inl (fun _ => 0)))] H := hP
  have hD : va_D A [(h0, .inr (1, [.int 0, .ref q7, .ref q15, .ref q23, .int 0, .ref q31, .ref q39, .ref q47, .ref q55, .null, .null, .null, .null, .int 0])), (q7, .inl (k7, 20, .inl (fun _ => 0))), (q15, .inl (k15, 20, .inl (fun _ => 0))), (q23, .inl (k23, 20, .inl (fun _ => 0))), (q31, .inl (k31, 120, .inl (fun _ => 0))), (q39, .inl (k39, 120, .inl (fun _ => 0))), (q47, .inl (k47, 120, .inl (fun _ => 0))), (q55, .inl (k55, 120, .inl (fun _ => 0)))] := hD
  refine lv_aload_n hx hb dX1_init_60 rfl (lv_at hl 0 rfl) ?_
  refine lv_bipush (v := 120) hx hb dX1_init_61 (by decide) ?_
  refine va_newa (atype := .int) (N' := 120) (a0 := (120, .inl (fun _ => 0))) (ty := .int) hx hb (hts (.arrayClass .int) (by decide +kernel)) rfl hK hP hD hS hA (fun cA => rfl) (by decide) (by decide) (by decide) (Nat.le_of_ble_eq_true rfl) (Nat.le_of_ble_eq_true rfl) dX1_init_63 (fun q63 k63 H hK hP hD hS => ?_)
  have hP : va_P D vwCl [(h0, .inr (1, [.int 0, .ref q7, .ref q15, .ref q23, .int 0, .ref q31, .ref q39, .ref q47, .ref q55, .null, .null, .null, .null, .int 0])), (q7, .inl (k7, 20, .inl (fun _ => 0))), (q15, .inl (k15, 20, .inl (fun _ => 0))), (q23, .inl (k23, 20, .inl (fun _ => 0))), (q31, .inl (k31, 120, .inl (fun _ => 0))), (q39, .inl (k39, 120, .inl (fun _ => 0))), (q47, .inl (k47, 120, .inl (fun _ => 0))), (q55, .inl (k55, 120, .inl (fun _ => 0))), (q63, .inl (k63, 120, .inl (fun _ => 0)))] H := hP
  have hD : va_D A [(h0, .inr (1, [.int 0, .ref q7, .ref q15, .ref q23, .int 0, .ref q31, .ref q39, .ref q47, .ref q55, .null, .null, .null, .null, .int 0])), (q7, .inl (k7, 20, .inl (fun _ => 0))), (q15, .inl (k15, 20, .inl (fun _ => 0))), (q23, .inl (k23, 20, .inl (fun _ => 0))), (q31, .inl (k31, 120, .inl (fun _ => 0))), (q39, .inl (k39, 120, .inl (fun _ => 0))), (q47, .inl (k47, 120, .inl (fun _ => 0))), (q55, .inl (k55, 120, .inl (fun _ => 0))), (q63, .inl (k63, 120, .inl (fun _ => 0)))] := hD
  have hK : va_K D vwCl [(k7, .int), (k15, .boolean), (k23, .boolean), (k31, .int), (k39, .int), (k47, .int), (k55, .int), (k63, .int)] s := hK
  refine W.widen (k := 8) (n := 660) (by omega) (by omega) ?_
  refine va_putF (D := D) (ci := 1) (v := .ref q63) (ty := .array .int) (C := RX1) (T := TX1) (N := 14) hx hb hts hin tyX1 tyX1_ok nmX1 hown hK hP hD hS 0 rfl rfl 9 (by decide) (hts (.fieldLink RX1 32 "PartsFlowModel" "xs" "[I") (by decide +kernel)) (fun _ h9 => h9) rfl hinit rfl (by decide +kernel) rfl rfl (Nat.le_of_ble_eq_true rfl) dX1_init_65 (fun H locs hP hD hS => ?_)
  have hP : va_P D vwCl [(h0, .inr (1, [.int 0, .ref q7, .ref q15, .ref q23, .int 0, .ref q31, .ref q39, .ref q47, .ref q55, .ref q63, .null, .null, .null, .int 0])), (q7, .inl (k7, 20, .inl (fun _ => 0))), (q15, .inl (k15, 20, .inl (fun _ => 0))), (q23, .inl (k23, 20, .inl (fun _ => 0))), (q31, .inl (k31, 120, .inl (fun _ => 0))), (q39, .inl (k39, 120, .inl (fun _ => 0))), (q47, .inl (k47, 120, .inl (fun _ => 0))), (q55, .inl (k55, 120, .inl (fun _ => 0))), (q63, .inl (k63, 120, .inl (fun _ => 0)))] H := hP
  have hD : va_D A [(h0, .inr (1, [.int 0, .ref q7, .ref q15, .ref q23, .int 0, .ref q31, .ref q39, .ref q47, .ref q55, .ref q63, .null, .null, .null, .int 0])), (q7, .inl (k7, 20, .inl (fun _ => 0))), (q15, .inl (k15, 20, .inl (fun _ => 0))), (q23, .inl (k23, 20, .inl (fun _ => 0))), (q31, .inl (k31, 120, .inl (fun _ => 0))), (q39, .inl (k39, 120, .inl (fun _ => 0))), (q47, .inl (k47, 120, .inl (fun _ => 0))), (q55, .inl (k55, 120, .inl (fun _ => 0))), (q63, .inl (k63, 120, .inl (fun _ => 0)))] := hD
  refine lv_aload_n hx hb dX1_init_68 rfl (lv_at hl 0 rfl) ?_
  refine lv_bipush (v := 120) hx hb dX1_init_69 (by decide) ?_
  refine va_newa (atype := .int) (N' := 120) (a0 := (120, .inl (fun _ => 0))) (ty := .int) hx hb (hts (.arrayClass .int) (by decide +kernel)) rfl hK hP hD hS hA (fun cA => rfl) (by decide) (by decide) (by decide) (Nat.le_of_ble_eq_true rfl) (Nat.le_of_ble_eq_true rfl) dX1_init_71 (fun q71 k71 H hK hP hD hS => ?_)
  have hP : va_P D vwCl [(h0, .inr (1, [.int 0, .ref q7, .ref q15, .ref q23, .int 0, .ref q31, .ref q39, .ref q47, .ref q55, .ref q63, .null, .null, .null, .int 0])), (q7, .inl (k7, 20, .inl (fun _ => 0))), (q15, .inl (k15, 20, .inl (fun _ => 0))), (q23, .inl (k23, 20, .inl (fun _ => 0))), (q31, .inl (k31, 120, .inl (fun _ => 0))), (q39, .inl (k39, 120, .inl (fun _ => 0))), (q47, .inl (k47, 120, .inl (fun _ => 0))), (q55, .inl (k55, 120, .inl (fun _ => 0))), (q63, .inl (k63, 120, .inl (fun _ => 0))), (q71, .inl (k71, 120, .inl (fun _ => 0)))] H := hP
  have hD : va_D A [(h0, .inr (1, [.int 0, .ref q7, .ref q15, .ref q23, .int 0, .ref q31, .ref q39, .ref q47, .ref q55, .ref q63, .null, .null, .null, .int 0])), (q7, .inl (k7, 20, .inl (fun _ => 0))), (q15, .inl (k15, 20, .inl (fun _ => 0))), (q23, .inl (k23, 20, .inl (fun _ => 0))), (q31, .inl (k31, 120, .inl (fun _ => 0))), (q39, .inl (k39, 120, .inl (fun _ => 0))), (q47, .inl (k47, 120, .inl (fun _ => 0))), (q55, .inl (k55, 120, .inl (fun _ => 0))), (q63, .inl (k63, 120, .inl (fun _ => 0))), (q71, .inl (k71, 120, .inl (fun _ => 0)))] := hD
  have hK : va_K D vwCl [(k7, .int), (k15, .boolean), (k23, .boolean), (k31, .int), (k39, .int), (k47, .int), (k55, .int), (k63, .int), (k71, .int)] s := hK
  refine W.widen (k := 9) (n := 780) (by omega) (by omega) ?_
  refine va_putF (D := D) (ci := 1) (v := .ref q71) (ty := .array .int) (C := RX1) (T := TX1) (N := 14) hx hb hts hin tyX1 tyX1_ok nmX1 hown hK hP hD hS 0 rfl rfl 10 (by decide) (hts (.fieldLink RX1 35 "PartsFlowModel" "ys" "[I") (by decide +kernel)) (fun _ h9 => h9) rfl hinit rfl (by decide +kernel) rfl rfl (Nat.le_of_ble_eq_true rfl) dX1_init_73 (fun H locs hP hD hS => ?_)
  have hP : va_P D vwCl [(h0, .inr (1, [.int 0, .ref q7, .ref q15, .ref q23, .int 0, .ref q31, .ref q39, .ref q47, .ref q55, .ref q63, .ref q71, .null, .null, .int 0])), (q7, .inl (k7, 20, .inl (fun _ => 0))), (q15, .inl (k15, 20, .inl (fun _ => 0))), (q23, .inl (k23, 20, .inl (fun _ => 0))), (q31, .inl (k31, 120, .inl (fun _ => 0))), (q39, .inl (k39, 120, .inl (fun _ => 0))), (q47, .inl (k47, 120, .inl (fun _ => 0))), (q55, .inl (k55, 120, .inl (fun _ => 0))), (q63, .inl (k63, 120, .inl (fun _ => 0))), (q71, .inl (k71, 120, .inl (fun _ => 0)))] H := hP
  have hD : va_D A [(h0, .inr (1, [.int 0, .ref q7, .ref q15, .ref q23, .int 0, .ref q31, .ref q39, .ref q47, .ref q55, .ref q63, .ref q71, .null, .null, .int 0])), (q7, .inl (k7, 20, .inl (fun _ => 0))), (q15, .inl (k15, 20, .inl (fun _ => 0))), (q23, .inl (k23, 20, .inl (fun _ => 0))), (q31, .inl (k31, 120, .inl (fun _ => 0))), (q39, .inl (k39, 120, .inl (fun _ => 0))), (q47, .inl (k47, 120, .inl (fun _ => 0))), (q55, .inl (k55, 120, .inl (fun _ => 0))), (q63, .inl (k63, 120, .inl (fun _ => 0))), (q71, .inl (k71, 120, .inl (fun _ => 0)))] := hD
  refine lv_aload_n hx hb dX1_init_76 rfl (lv_at hl 0 rfl) ?_
  refine lv_sipush (v := 240) hx hb dX1_init_77 (by decide) ?_
  refine va_newa (atype := .boolean) (N' := 240) (a0 := (240, .inl (fun _ => 0))) (ty := .boolean) hx hb (hts (.arrayClass .boolean) (by decide +kernel)) rfl hK hP hD hS hA (fun cA => rfl) (by decide) (by decide) (by decide) (Nat.le_of_ble_eq_true rfl) (Nat.le_of_ble_eq_true rfl) dX1_init_80 (fun q80 k80 H hK hP hD hS => ?_)
  have hP : va_P D vwCl [(h0, .inr (1, [.int 0, .ref q7, .ref q15, .ref q23, .int 0, .ref q31, .ref q39, .ref q47, .ref q55, .ref q63, .ref q71, .null, .null, .int 0])), (q7, .inl (k7, 20, .inl (fun _ => 0))), (q15, .inl (k15, 20, .inl (fun _ => 0))), (q23, .inl (k23, 20, .inl (fun _ => 0))), (q31, .inl (k31, 120, .inl (fun _ => 0))), (q39, .inl (k39, 120, .inl (fun _ => 0))), (q47, .inl (k47, 120, .inl (fun _ => 0))), (q55, .inl (k55, 120, .inl (fun _ => 0))), (q63, .inl (k63, 120, .inl (fun _ => 0))), (q71, .inl (k71, 120, .inl (fun _ => 0))), (q80, .inl (k80, 240, .inl (fun _ => 0)))] H := hP
  have hD : va_D A [(h0, .inr (1, [.int 0, .ref q7, .ref q15, .ref q23, .int 0, .ref q31, .ref q39, .ref q47, .ref q55, .ref q63, .ref q71, .null, .null, .int 0])), (q7, .inl (k7, 20, .inl (fun _ => 0))), (q15, .inl (k15, 20, .inl (fun _ => 0))), (q23, .inl (k23, 20, .inl (fun _ => 0))), (q31, .inl (k31, 120, .inl (fun _ => 0))), (q39, .inl (k39, 120, .inl (fun _ => 0))), (q47, .inl (k47, 120, .inl (fun _ => 0))), (q55, .inl (k55, 120, .inl (fun _ => 0))), (q63, .inl (k63, 120, .inl (fun _ => 0))), (q71, .inl (k71, 120, .inl (fun _ => 0))), (q80, .inl (k80, 240, .inl (fun _ => 0)))] := hD
  have hK : va_K D vwCl [(k7, .int), (k15, .boolean), (k23, .boolean), (k31, .int), (k39, .int), (k47, .int), (k55, .int), (k63, .int), (k71, .int), (k80, .boolean)] s := hK
  refine W.widen (k := 10) (n := 1020) (by omega) (by omega) ?_
  refine va_putF (D := D) (ci := 1) (v := .ref q80) (ty := .array .boolean) (C := RX1) (T := TX1) (N := 14) hx hb hts hin tyX1 tyX1_ok nmX1 hown hK hP hD hS 0 rfl rfl 11 (by decide) (hts (.fieldLink RX1 38 "PartsFlowModel" "seen" "[Z") (by decide +kernel)) (fun _ h9 => h9) rfl hinit rfl (by decide +kernel) rfl rfl (Nat.le_of_ble_eq_true rfl) dX1_init_82 (fun H locs hP hD hS => ?_)
  have hP : va_P D vwCl [(h0, .inr (1, [.int 0, .ref q7, .ref q15, .ref q23, .int 0, .ref q31, .ref q39, .ref q47, .ref q55, .ref q63, .ref q71, .ref q80, .null, .int 0])), (q7, .inl (k7, 20, .inl (fun _ => 0))), (q15, .inl (k15, 20, .inl (fun _ => 0))), (q23, .inl (k23, 20, .inl (fun _ => 0))), (q31, .inl (k31, 120, .inl (fun _ => 0))), (q39, .inl (k39, 120, .inl (fun _ => 0))), (q47, .inl (k47, 120, .inl (fun _ => 0))), (q55, .inl (k55, 120, .inl (fun _ => 0))), (q63, .inl (k63, 120, .inl (fun _ => 0))), (q71, .inl (k71, 120, .inl (fun _ => 0))), (q80, .inl (k80, 240, .inl (fun _ => 0)))] H := hP
  have hD : va_D A [(h0, .inr (1, [.int 0, .ref q7, .ref q15, .ref q23, .int 0, .ref q31, .ref q39, .ref q47, .ref q55, .ref q63, .ref q71, .ref q80, .null, .int 0])), (q7, .inl (k7, 20, .inl (fun _ => 0))), (q15, .inl (k15, 20, .inl (fun _ => 0))), (q23, .inl (k23, 20, .inl (fun _ => 0))), (q31, .inl (k31, 120, .inl (fun _ => 0))), (q39, .inl (k39, 120, .inl (fun _ => 0))), (q47, .inl (k47, 120, .inl (fun _ => 0))), (q55, .inl (k55, 120, .inl (fun _ => 0))), (q63, .inl (k63, 120, .inl (fun _ => 0))), (q71, .inl (k71, 120, .inl (fun _ => 0))), (q80, .inl (k80, 240, .inl (fun _ => 0)))] := hD
  refine lv_aload_n hx hb dX1_init_85 rfl (lv_at hl 0 rfl) ?_
  refine lv_sipush (v := 240) hx hb dX1_init_86 (by decide) ?_
  refine va_newa (atype := .int) (N' := 240) (a0 := (240, .inl (fun _ => 0))) (ty := .int) hx hb (hts (.arrayClass .int) (by decide +kernel)) rfl hK hP hD hS hA (fun cA => rfl) (by decide) (by decide) (by decide) (Nat.le_of_ble_eq_true rfl) (Nat.le_of_ble_eq_true rfl) dX1_init_89 (fun q89 k89 H hK hP hD hS => ?_)
  have hP : va_P D vwCl [(h0, .inr (1, [.int 0, .ref q7, .ref q15, .ref q23, .int 0, .ref q31, .ref q39, .ref q47, .ref q55, .ref q63, .ref q71, .ref q80, .null, .int 0])), (q7, .inl (k7, 20, .inl (fun _ => 0))), (q15, .inl (k15, 20, .inl (fun _ => 0))), (q23, .inl (k23, 20, .inl (fun _ => 0))), (q31, .inl (k31, 120, .inl (fun _ => 0))), (q39, .inl (k39, 120, .inl (fun _ => 0))), (q47, .inl (k47, 120, .inl (fun _ => 0))), (q55, .inl (k55, 120, .inl (fun _ => 0))), (q63, .inl (k63, 120, .inl (fun _ => 0))), (q71, .inl (k71, 120, .inl (fun _ => 0))), (q80, .inl (k80, 240, .inl (fun _ => 0))), (q89, .inl (k89, 240, .inl (fun _ => 0)))] H := hP
  have hD : va_D A [(h0, .inr (1, [.int 0, .ref q7, .ref q15, .ref q23, .int 0, .ref q31, .ref q39, .ref q47, .ref q55, .ref q63, .ref q71, .ref q80, .null, .int 0])), (q7, .inl (k7, 20, .inl (fun _ => 0))), (q15, .inl (k15, 20, .inl (fun _ => 0))), (q23, .inl (k23, 20, .inl (fun _ => 0))), (q31, .inl (k31, 120, .inl (fun _ => 0))), (q39, .inl (k39, 120, .inl (fun _ => 0))), (q47, .inl (k47, 120, .inl (fun _ => 0))), (q55, .inl (k55, 120, .inl (fun _ => 0))), (q63, .inl (k63, 120, .inl (fun _ => 0))), (q71, .inl (k71, 120, .inl (fun _ => 0))), (q80, .inl (k80, 240, .inl (fun _ => 0))), (q89, .inl (k89, 240, .inl (fun _ => 0)))] := hD
  have hK : va_K D vwCl [(k7, .int), (k15, .boolean), (k23, .boolean), (k31, .int), (k39, .int), (k47, .int), (k55, .int), (k63, .int), (k71, .int), (k80, .boolean), (k89, .int)] s := hK
  refine W.widen (k := 11) (n := 1260) (by omega) (by omega) ?_
  refine va_putF (D := D) (ci := 1) (v := .ref q89) (ty := .array .int) (C := RX1) (T := TX1) (N := 14) hx hb hts hin tyX1 tyX1_ok nmX1 hown hK hP hD hS 0 rfl rfl 12 (by decide) (hts (.fieldLink RX1 41 "PartsFlowModel" "pile" "[I") (by decide +kernel)) (fun _ h9 => h9) rfl hinit rfl (by decide +kernel) rfl rfl (Nat.le_of_ble_eq_true rfl) dX1_init_91 (fun H locs hP hD hS => ?_)
  have hP : va_P D vwCl [(h0, .inr (1, [.int 0, .ref q7, .ref q15, .ref q23, .int 0, .ref q31, .ref q39, .ref q47, .ref q55, .ref q63, .ref q71, .ref q80, .ref q89, .int 0])), (q7, .inl (k7, 20, .inl (fun _ => 0))), (q15, .inl (k15, 20, .inl (fun _ => 0))), (q23, .inl (k23, 20, .inl (fun _ => 0))), (q31, .inl (k31, 120, .inl (fun _ => 0))), (q39, .inl (k39, 120, .inl (fun _ => 0))), (q47, .inl (k47, 120, .inl (fun _ => 0))), (q55, .inl (k55, 120, .inl (fun _ => 0))), (q63, .inl (k63, 120, .inl (fun _ => 0))), (q71, .inl (k71, 120, .inl (fun _ => 0))), (q80, .inl (k80, 240, .inl (fun _ => 0))), (q89, .inl (k89, 240, .inl (fun _ => 0)))] H := hP
  have hD : va_D A [(h0, .inr (1, [.int 0, .ref q7, .ref q15, .ref q23, .int 0, .ref q31, .ref q39, .ref q47, .ref q55, .ref q63, .ref q71, .ref q80, .ref q89, .int 0])), (q7, .inl (k7, 20, .inl (fun _ => 0))), (q15, .inl (k15, 20, .inl (fun _ => 0))), (q23, .inl (k23, 20, .inl (fun _ => 0))), (q31, .inl (k31, 120, .inl (fun _ => 0))), (q39, .inl (k39, 120, .inl (fun _ => 0))), (q47, .inl (k47, 120, .inl (fun _ => 0))), (q55, .inl (k55, 120, .inl (fun _ => 0))), (q63, .inl (k63, 120, .inl (fun _ => 0))), (q71, .inl (k71, 120, .inl (fun _ => 0))), (q80, .inl (k80, 240, .inl (fun _ => 0))), (q89, .inl (k89, 240, .inl (fun _ => 0)))] := hD
  have hP9 := hP.sub (ws' := rfW (fun i => match i with | 0 => h0 | 1 => q7 | 2 => q15 | 3 => q23 | 4 => q31 | 5 => q39 | 6 => q47 | 7 => q55 | 8 => q63 | 9 => q71 | 10 => q80 | _ => q89) (fun i => match i with | 0 => k7 | 1 => k15 | 2 => k23 | 3 => k31 | 4 => k39 | 5 => k47 | 6 => k55 | 7 => k63 | 8 => k71 | 9 => k80 | _ => k89) 0 (fun _ => 0) (fun _ => 0) (fun _ => 0) 0 (fun _ => 0) (fun _ => 0) (fun _ => 0) (fun _ => 0) (fun _ => 0) (fun _ => 0) (fun _ => 0) (fun _ => 0) 0) [0, 1, 2, 3, 4, 5, 6, 7, 8, 9, 10, 11] rfl
  have hD9 := hD.sub (ws' := rfW (fun i => match i with | 0 => h0 | 1 => q7 | 2 => q15 | 3 => q23 | 4 => q31 | 5 => q39 | 6 => q47 | 7 => q55 | 8 => q63 | 9 => q71 | 10 => q80 | _ => q89) (fun i => match i with | 0 => k7 | 1 => k15 | 2 => k23 | 3 => k31 | 4 => k39 | 5 => k47 | 6 => k55 | 7 => k63 | 8 => k71 | 9 => k80 | _ => k89) 0 (fun _ => 0) (fun _ => 0) (fun _ => 0) 0 (fun _ => 0) (fun _ => 0) (fun _ => 0) (fun _ => 0) (fun _ => 0) (fun _ => 0) (fun _ => 0) (fun _ => 0) 0) [0, 1, 2, 3, 4, 5, 6, 7, 8, 9, 10, 11] (by decide) rfl
  have hK9 := hK.sub (tys' := rfT (fun i => match i with | 0 => k7 | 1 => k15 | 2 => k23 | 3 => k31 | 4 => k39 | 5 => k47 | 6 => k55 | 7 => k63 | 8 => k71 | 9 => k80 | _ => k89)) [0, 1, 2, 3, 4, 5, 6, 7, 8, 9, 10] rfl
  exact W.vret hx hb hr (fun t ht hW => ⟨⟨(fun i => match i with | 0 => h0 | 1 => q7 | 2 => q15 | 3 => q23 | 4 => q31 | 5 => q39 | 6 => q47 | 7 => q55 | 8 => q63 | 9 => q71 | 10 => q80 | _ => q89, fun i => match i with | 0 => k7 | 1 => k15 | 2 => k23 | 3 => k31 | 4 => k39 | 5 => k47 | 6 => k55 | 7 => k63 | 8 => k71 | 9 => k80 | _ => k89), rfl, rfl, by rw [ht]; exact hP9, va_K.moved hW.alike hK9, hD9⟩, hS.F ht⟩) hS.2.2 dX1_init_94
end
section
/-! The class and the reference beside each other: what they keep agrees, so their answers do. -/
theorem fk_congr {E : Nat → Nat → Prop} {np : Nat} {b0 b0' : Prop} {gn gn' kl kl' : Nat → Prop} (hE : ∀ q p, E q p → p < np) (hb : b0 ↔ b0') (hg : ∀ q, q < np → (gn q ↔ gn' q)) (hk : ∀ q, q < np → (kl q ↔ kl' q)) {k p : Nat} : fk E np b0 gn kl k p ↔ fk E np b0' gn' kl' k p := by
  induction k generalizing p with
  | zero => exact ⟨fun h => ⟨h.1, h.2.1, hb.mp h.2.2⟩, fun h => ⟨h.1, h.2.1, hb.mpr h.2.2⟩⟩
  | succ k ih =>
    constructor
    · rintro ⟨q, h1, h2, h3⟩
      have hq := rch_lt hE ⟨k, h2⟩
      exact ⟨q, h1, h2, h3.imp (hg q hq).mp (fun h => ⟨fun z => h.1 ((hk q hq).mpr z), ih.mp h.2⟩)⟩
    · rintro ⟨q, h1, h2, h3⟩
      have hq := rch_lt hE ⟨k, h2⟩
      exact ⟨q, h1, h2, h3.imp (hg q hq).mpr (fun h => ⟨fun z => h.1 ((hk q hq).mp z), ih.mpr h.2⟩)⟩
theorem may_congr {E : Nat → Nat → Prop} {np : Nat} {b0 b0' : Prop} {gn gn' kl kl' : Nat → Prop} (hE : ∀ q p, E q p → p < np) (hb : b0 ↔ b0') (hg : ∀ q, q < np → (gn q ↔ gn' q)) (hk : ∀ q, q < np → (kl q ↔ kl' q)) {p : Nat} : may E np b0 gn kl p ↔ may E np b0' gn' kl' p :=
  ⟨fun ⟨k, h⟩ => ⟨k, (fk_congr hE hb hg hk).mp h⟩, fun ⟨k, h⟩ => ⟨k, (fk_congr hE hb hg hk).mpr h⟩⟩
theorem may_no {E : Nat → Nat → Prop} {np : Nat} {b0 : Prop} {gn kl : Nat → Prop} (hE : ∀ q p, E q p → p < np) (hb : ¬ b0) (hg : ∀ q, q < np → ¬ gn q) {p : Nat} : ¬ may E np b0 gn kl p := fun h =>
  may_in (X := fun q => q < np) (B := fun _ => False) (fun h => h) (fun q p _ he => hE q p he) (fun _ h => hb h) (fun q p hq _ hgk => hgk.elim (hg q hq) (fun z => z.2)) h
/-- a point, as the one keeps it and as the other -/
def Rel1 (nv : Nat) (vP pD pV pB mV mF mM : Nat → Int32) (q : Nat) : Prop := (pD q = 0 ∧ pV q = 0 ∧ pB q = 0 ∧ mV q = -1) ∨ ∃ d v a m, 1 ≤ d ∧ d ≤ 5 ∧ pD q = nI d ∧ v < nv ∧ pV q = nI v ∧ mV q = nI v ∧ mF q = nI a ∧ mM q = nI m ∧ 1 ≤ m ∧ a + m ≤ tN (vP v) ∧ pB q = nI ((2 ^ m - 1) * 2 ^ a) ∧ (4 ≤ d → a = 0 ∧ m = tN (vP v))
def JI (nv np : Nat) (vP pD pV pB mV mF mM : Nat → Int32) : Prop := nv ≤ 20 ∧ np ≤ 120 ∧ (∀ v, v < nv → vP v = nI (tN (vP v)) ∧ 1 ≤ tN (vP v) ∧ tN (vP v) ≤ 8) ∧ ∀ q, q < np → Rel1 nv vP pD pV pB mV mF mM q
theorem pw8 {m a : Nat} (h : a + m ≤ 8) : (2 ^ m - 1) * 2 ^ a < 256 := by
  have h1 : 2 ^ (a + m) ≤ 2 ^ 8 := Nat.pow_le_pow_right (by decide) h
  have h2 : 2 ^ (a + m) = 2 ^ m * 2 ^ a := by rw [Nat.add_comm, Nat.pow_add]
  have h3 : 0 < 2 ^ a := Nat.two_pow_pos a
  have h4 : 0 < 2 ^ m := Nat.two_pow_pos m
  rw [Nat.sub_mul]
  omega
theorem pw_bit (m a t : Nat) : ((2 ^ m - 1) * 2 ^ a).testBit t = true ↔ a ≤ t ∧ t < a + m := by
  rw [← Nat.shiftLeft_eq, Nat.testBit_shiftLeft, Nat.testBit_two_pow_sub_one]
  simp
  omega
theorem lb_pt {x : Int32} (h : x = nI (tN x)) (h8 : tN x ≤ 8) : lb x = nI (2 ^ tN x - 1) := by
  rw [h, tN_nI (by omega)]
  exact lb_n _ (by omega)
theorem pw_lt8 {n : Nat} (h : n ≤ 8) : 2 ^ n - 1 < 256 := by
  have h1 : 2 ^ n ≤ 2 ^ 8 := Nat.pow_le_pow_right (by decide) h
  omega
section JOI
variable {nv np : Nat} {vP vO vG pD pV pB mV mF mM pX pY rc : Nat → Int32} {ah : Nat → Int64}
theorem JI_GI (h : JI nv np vP pD pV pB mV mF mM) : GI nv np vP pV pB := by
  obtain ⟨h1, h2, h3, h4⟩ := h
  refine ⟨h1, h2, fun v hv => ?_, fun q hq => ?_⟩
  · obtain ⟨e, g1, g2⟩ := h3 v hv
    have e2 := lb_pt e g2
    have h5 := pw_lt8 g2
    rw [e2, tN_nI (by omega)]
    exact ⟨rfl, h5⟩
  · rcases h4 q hq with ⟨g1, g2, g3, g4⟩ | ⟨d, v, a, m, g1, g2, g3, g4, g5, g6, g7, g8, g9, g10, g11, g12⟩
    · rw [g2, g3]
      exact ⟨rfl, by decide, rfl, by decide⟩
    · have h5 := pw8 (Nat.le_trans g10 (h3 v g4).2.2)
      rw [g5, g11, tN_nI (by omega), tN_nI (by omega)]
      exact ⟨rfl, by omega, rfl, h5⟩
theorem JI_RI (h : JI nv np vP pD pV pB mV mF mM) : RI nv np vP pD mV := by
  obtain ⟨h1, h2, h3, h4⟩ := h
  refine ⟨h1, h2, fun v hv => ⟨(h3 v hv).1, (h3 v hv).2.2⟩, fun q hq hd _ => ?_⟩
  rcases h4 q hq with ⟨g1, g2, g3, g4⟩ | ⟨d, v, a, m, g1, g2, g3, g4, g5, g6, g7, g8, g9, g10, g11, g12⟩
  · exact absurd (by rw [g1]; decide) hd
  · rw [g6, tN_nI (by omega)]
    exact ⟨rfl, g4⟩
theorem mk_bit {vq bq v t : Nat} (hb : bq < 256) (ht : t < 8) : bl (mkw vq bq) (v % 8 * 8 + t) = true ↔ (vq % 8 = v % 8 ∧ bq.testBit t = true) := by
  rw [bl_mkw _ _ (by omega), Bool.and_eq_true, decide_eq_true_eq]
  by_cases e : vq % 8 = v % 8
  · rw [e, Nat.add_sub_cancel_left]
    exact ⟨fun h => ⟨rfl, h.2⟩, fun h => ⟨Nat.le_add_right _ _, h.2⟩⟩
  · refine ⟨fun h => ?_, fun h => absurd h.1 e⟩
    have p8 : 256 ≤ 2 ^ (v % 8 * 8 + t - vq % 8 * 8) := Nat.pow_le_pow_right (show 0 < 2 by decide) (show 8 ≤ v % 8 * 8 + t - vq % 8 * 8 by omega)
    rw [Nat.testBit_lt_two_pow (Nat.lt_of_lt_of_le hb p8)] at h
    exact absurd h.2 (by decide)
theorem ni_m1 {v : Nat} (hv : v < 20) : ¬ (-1 : Int32) = nI v := fun h => nI_pos (n := v) (by omega) (by rw [← h]; decide)
theorem nI1 {d : Nat} (hd : d ≤ 5) : nI d = 1 ↔ d = 1 := nI_eq (b := 1) (by omega) (by decide)
theorem nI3 {d : Nat} (hd : d ≤ 5) : nI d = 3 ↔ d = 3 := nI_eq (b := 3) (by omega) (by decide)
theorem nI0 {d : Nat} (hd : d ≤ 5) : nI d = 0 ↔ d = 0 := nI_eq (b := 0) (by omega) (by decide)
theorem is_iff (hnv : nv ≤ 20) (h8 : ∀ v, v < nv → tN (vP v) ≤ 8) {q v t : Nat} (hv : v < nv) (ht : t < 8) (h : Rel1 nv vP pD pV pB mV mF mM q) : isR pD mV mF mM (nI v) t q ↔ (¬ (pD q = 0 ∨ pD q = 3) ∧ tN (pV q) = v ∧ (tN (pB q)).testBit t = true) := by
  rcases h with ⟨g1, g2, g3, g4⟩ | ⟨d, v', a, m, g1, g2, g3, g4, g5, g6, g7, g8, g9, g10, g11, g12⟩
  · constructor
    · intro h
      have := h.1
      rw [g4] at this
      exact absurd this (ni_m1 (by omega))
    · intro h
      exact absurd (Or.inl g1) h.1
  · have h5 := h8 v' g4
    have hb := pw8 (Nat.le_trans g10 h5)
    unfold isR
    rw [g6, g7, g8, g3, g5, g11, tN_nI (by omega), tN_nI (by omega), nI_add, nI_eq (by omega) (by omega), nI_ltI (by omega) (by omega), nI_leI (by omega) (by omega), nI3 g2, nI0 g2, pw_bit]
    omega
theorem rel_v {q : Nat} (h : Rel1 nv vP pD pV pB mV mF mM q) (hnv : nv ≤ 20) : tN (pV q) < 20 := by
  rcases h with ⟨g1, g2, g3, g4⟩ | ⟨d, v', a, m, g1, g2, g3, g4, g5, g6, g7, g8, g9, g10, g11, g12⟩
  · rw [g2]; decide
  · rw [g5, tN_nI (by omega)]; omega
theorem rel_b {q : Nat} (h8 : ∀ v, v < nv → tN (vP v) ≤ 8) (h : Rel1 nv vP pD pV pB mV mF mM q) : tN (pB q) < 256 := by
  rcases h with ⟨g1, g2, g3, g4⟩ | ⟨d, v', a, m, g1, g2, g3, g4, g5, g6, g7, g8, g9, g10, g11, g12⟩
  · rw [g3]; decide
  · have hb := pw8 (Nat.le_trans g10 (h8 v' g4))
    rw [g11, tN_nI (by omega)]; exact hb
theorem gn_iff (h : JI nv np vP pD pV pB mV mF mM) {q v t w : Nat} (hq : q < np) (hv : v < nv) (ht : t < 8) (hw : w < 2) :
    (gnP pD pV pB q ((if w = 1 then 3 else 0) + v / 8) (v % 8 * 8 + t) ↔ (isR pD mV mF mM (nI v) t q ∧ (pD q = 1 ↔ w = 1))) ∧ (klP pD pV pB q ((if w = 1 then 3 else 0) + v / 8) (v % 8 * 8 + t) ↔ (isR pD mV mF mM (nI v) t q ∧ (pD q = 1 ↔ ¬ w = 1))) := by
  obtain ⟨h1, h2, h3, h4⟩ := h
  have hr := h4 q hq
  have h8 : ∀ v, v < nv → tN (vP v) ≤ 8 := fun v hv => (h3 v hv).2.2
  have hvq := rel_v hr h1
  unfold gnP klP
  rw [is_iff h1 h8 hv ht hr, mk_bit (rel_b h8 hr) ht]
  have hv20 : v < 20 := Nat.lt_of_lt_of_le hv h1
  refine ⟨⟨?_, ?_⟩, ⟨?_, ?_⟩⟩
  · rintro ⟨a, b, c, d⟩
    by_cases hw1 : w = 1 <;> by_cases hd : pD q = 1 <;> simp only [hw1, hd, if_true, if_false] at b <;> first | omega | (exact ⟨⟨a, by omega, d⟩, by simp [hw1, hd]⟩)
  · rintro ⟨⟨a, b, c⟩, d⟩
    refine ⟨a, ?_, by rw [b], c⟩
    by_cases hw1 : w = 1
    · rw [if_pos hw1, if_pos (d.mpr hw1), b]
    · rw [if_neg hw1, if_neg (fun z => hw1 (d.mp z)), b]
  · rintro ⟨a, b, c, d⟩
    by_cases hw1 : w = 1 <;> by_cases hd : pD q = 1 <;> simp only [hw1, hd, if_true, if_false] at b <;> first | omega | (exact ⟨⟨a, by omega, d⟩, by simp [hw1, hd]⟩)
  · rintro ⟨⟨a, b, c⟩, d⟩
    refine ⟨a, ?_, by rw [b], c⟩
    by_cases hw1 : w = 1
    · rw [if_pos hw1, if_neg (fun z => d.mp z hw1), b]
    · rw [if_neg hw1, if_pos (d.mpr hw1), b]
theorem gv_iff (h : JI nv np vP pD pV pB mV mF mM) {v t w : Nat} (hv : v < nv) (ht : t < 8) (hw : w < 2) (hpt : t < tN (vP v)) :
    b0P vP vG nv ((if w = 1 then 3 else 0) + v / 8) (v % 8 * 8 + t) ↔ (gvR nv vG (nI v) ↔ w = 1) := by
  obtain ⟨h1, h2, h3, h4⟩ := h
  have hg : gvR nv vG (nI v) ↔ ¬ vG v = 0 := ⟨fun ⟨v', a, b, c⟩ => by rw [(nI_eq (a := v) (b := v') (by omega) (by omega)).mp b]; exact c, fun z => ⟨v, hv, rfl, z⟩⟩
  rw [hg]
  have hlb : ∀ v', v' < nv → tN (lb (vP v')) = 2 ^ tN (vP v') - 1 := fun v' hv' => by
    have := pw_lt8 (h3 v' hv').2.2
    rw [lb_pt (h3 v' hv').1 (h3 v' hv').2.2, tN_nI (by omega)]
  constructor
  · rintro ⟨v', a, b, c⟩
    rw [hlb v' a, mk_bit (pw_lt8 (h3 v' a).2.2) ht] at c
    by_cases hw1 : w = 1
    · rw [if_pos hw1] at b
      by_cases hz : vG v' = 0
      · rw [if_pos hz] at b
        omega
      · rw [if_neg hz] at b
        rw [show v = v' by omega]
        exact ⟨fun _ => hw1, fun _ => hz⟩
    · rw [if_neg hw1] at b
      by_cases hz : vG v' = 0
      · rw [if_pos hz] at b
        rw [show v = v' by omega]
        exact ⟨fun z => absurd hz z, fun z => absurd z hw1⟩
      · rw [if_neg hz] at b
        omega
  · intro hiff
    refine ⟨v, hv, ?_, ?_⟩
    · by_cases hw1 : w = 1
      · rw [if_pos hw1, if_neg (hiff.mpr hw1)]
      · rw [if_neg hw1, if_pos (Classical.byContradiction (fun z => hw1 (hiff.mp z)))]
    · rw [hlb v hv, mk_bit (pw_lt8 (h3 v hv).2.2) ht, Nat.testBit_two_pow_sub_one]
      exact ⟨rfl, decide_eq_true hpt⟩
theorem b0_no (h : JI nv np vP pD pV pB mV mF mM) {v t w : Nat} (hv : v < nv) (ht : t < 8) (hw : w < 2) (hpt : ¬ t < tN (vP v)) : ¬ b0P vP vG nv ((if w = 1 then 3 else 0) + v / 8) (v % 8 * 8 + t) := by
  obtain ⟨h1, h2, h3, h4⟩ := h
  rintro ⟨v', a, b, c⟩
  have := pw_lt8 (h3 v' a).2.2
  rw [lb_pt (h3 v' a).1 (h3 v' a).2.2, tN_nI (by omega), mk_bit this ht, Nat.testBit_two_pow_sub_one] at c
  have e : v' = v := by
    by_cases hw1 : w = 1 <;> by_cases hz : vG v' = 0 <;> simp only [hw1, hz, if_true, if_false] at b <;> omega
  rw [e] at c
  exact hpt (of_decide_eq_true c.2)
theorem bit_eq (h : JI nv np vP pD pV pB mV mF mM) (hd : DnG nv np vP vG pD pV pB pX pY rc ah) {j v t w : Nat} (hj : j < np) (hv : v < nv) (ht : t < 8) (hw : w < 2) :
    bl (ah (j * 6 + ((if w = 1 then 3 else 0) + v / 8))) (v % 8 * 8 + t) = true ↔ (t < tN (vP v) ∧ MR nv np vG pD mV mF mM pX pY (nI v) t w j) := by
  have hE : ∀ q p, ed pX pY np q p → p < np := fun q p h => h.2
  have h8 : ∀ v, v < nv → tN (vP v) ≤ 8 := fun v hv => (h.2.2.1 v hv).2.2
  have hv20 : v < 20 := Nat.lt_of_lt_of_le hv h.1
  have hnv20 : nv ≤ 20 := h.1
  rw [hd.2 j _ _ hj (by split <;> omega) (by omega)]
  by_cases hpt : t < tN (vP v)
  · have hb := gv_iff (vG := vG) h hv ht hw hpt
    have hg : ∀ q, q < np → _ := fun q hq => (gn_iff h hq hv ht hw).1
    have hk : ∀ q, q < np → _ := fun q hq => (gn_iff h hq hv ht hw).2
    rw [may_congr hE hb hg hk]
    unfold MR MR1 MR0
    rcases (show w = 0 ∨ w = 1 by omega) with e | e
    · subst e
      simp [hpt]
    · subst e
      simp [hpt]
  · refine ⟨fun z => absurd z (may_no hE (b0_no h hv ht hw hpt) (fun q hq z => ?_)), fun z => absurd z.1 hpt⟩
    have z := ((gn_iff h hq hv ht hw).1.mp z).1
    rcases h.2.2.2 q hq with ⟨g1, g2, g3, g4⟩ | ⟨d, v', a, m, g1, g2, g3, g4, g5, g6, g7, g8, g9, g10, g11, g12⟩
    · rw [is_iff h.1 h8 hv ht (Or.inl ⟨g1, g2, g3, g4⟩)] at z
      exact z.1 (Or.inl g1)
    · have z2 := z
      rw [is_iff h.1 h8 hv ht (Or.inr ⟨d, v', a, m, g1, g2, g3, g4, g5, g6, g7, g8, g9, g10, g11, g12⟩), g5, g11, tN_nI (by omega), tN_nI (by have := pw8 (Nat.le_trans g10 (h8 v' g4)); omega), pw_bit] at z2
      obtain ⟨_, e, _, e2⟩ := z2
      subst e
      omega
theorem sb_eq (h : JI nv np vP pD pV pB mV mF mM) (hd : DnG nv np vP vG pD pV pB pX pY rc ah) {j v w : Nat} (hj : j < np) (hv : v < nv) (hw : w < 2) : sb (ah (j * 6 + ((if w = 1 then 3 else 0) + v / 8))) v = nI (bxN nv np vP vG pD mV mF mM pX pY w j v) := by
  obtain ⟨X, hX, e, hb⟩ := sb_bits (ah (j * 6 + ((if w = 1 then 3 else 0) + v / 8))) v
  rw [e]
  have h8 := (h.2.2.1 v hv).2.2
  have hY : bxN nv np vP vG pD mV mF mM pX pY w j v < 256 := Nat.lt_of_lt_of_le (bxr_lt _ _) (Nat.pow_le_pow_right (show 0 < 2 by decide) h8)
  congr 1
  refine nat8 hX hY (fun t ht => ?_)
  rw [hb t ht]
  unfold bxN
  rw [bxr_bit, Bool.eq_iff_iff, bit_eq h hd hj hv ht hw, Bool.and_eq_true, decide_eq_true_eq, tb_iff]
theorem nz3 {a b c : Prop} (h1 : ¬ a) (h2 : ¬ b) (h3 : ¬ c) : ¬ (a ∨ b ∨ c) := fun z => z.elim h1 (fun z => z.elim h2 h3)
theorem pow_unF : ∀ pt m a : Fin 9, 1 ≤ m.val → a.val + m.val ≤ pt.val → (2 ^ m.val - 1) * 2 ^ a.val = 2 ^ pt.val - 1 → m.val = pt.val := by decide +kernel
theorem pow_un (pt : Nat) (h1 : pt < 9) (m : Nat) (h2 : m < 9) (a : Nat) (h3 : a < 9) (h4 : 1 ≤ m) (h5 : a + m ≤ pt) (h6 : (2 ^ m - 1) * 2 ^ a = 2 ^ pt - 1) : m = pt := pow_unF ⟨pt, h1⟩ ⟨m, h2⟩ ⟨a, h3⟩ h4 h5 h6
theorem fop_eq (h : JI nv np vP pD pV pB mV mF mM) (hd : DnG nv np vP vG pD pV pB pX pY rc ah) {j : Nat} (hj : j < np) : fop vP vO pD pV pB rc ah j = frv nv np vP vO vG pD mV mF mM pX pY j := by
  have hr := (hd.1 j hj).2
  have h01 := (hd.1 j hj).1
  have hrc : rc j = 0 ↔ ¬ rch (ed pX pY np) np j := by
    rw [← hr]
    exact ⟨fun a b => i01 (a.symm.trans b), fun a => h01.elim id (fun b => absurd b a)⟩
  have h8 : ∀ v, v < nv → tN (vP v) ≤ 8 := fun v hv => (h.2.2.1 v hv).2.2
  unfold fop frv
  rcases h.2.2.2 j hj with ⟨g1, g2, g3, g4⟩ | ⟨d, v, a, m, g1, g2, g3, g4, g5, g6, g7, g8, g9, g10, g11, g12⟩
  · rw [if_pos (show pD j < 1 ∨ _ from Or.inl (by rw [g1]; decide)), if_neg (show ¬ (pD j = 2 ∨ pD j = 3) by rw [g1]; decide), if_pos (show ¬ pD j = 1 ∨ _ from Or.inl (by rw [g1]; decide))]
    split <;> rfl
  · have hv20 : v < 20 := Nat.lt_of_lt_of_le g4 h.1
    have hpt := h.2.2.1 v g4
    have hpv : tN (pV j) = v := by rw [g5, tN_nI (by omega)]
    have hmv : tN (mV j) = v := by rw [g6, tN_nI (by omega)]
    have hb8 := pw8 (Nat.le_trans g10 hpt.2.2)
    have hs0 := sb_eq h hd hj g4 (w := 0) (by decide)
    have hs1 := sb_eq h hd hj g4 (w := 1) (by decide)
    rw [if_neg (by decide), show j * 6 + (0 + v / 8) = j * 6 + 0 + v / 8 by omega] at hs0
    rw [if_pos rfl, show j * 6 + (3 + v / 8) = j * 6 + 3 + v / 8 by omega] at hs1
    rw [hpv, hmv, hs0, hs1]
    by_cases hre : rch (ed pX pY np) np j
    · rw [if_neg (fun z => (hrc.mp z) hre)]
      have hnt : ¬ tb (rch (ed pX pY np) np j) = false := by rw [tb_t hre]; decide
      rcases (show d = 1 ∨ d = 2 ∨ d = 3 ∨ d = 4 ∨ d = 5 by omega) with e | e | e | e | e <;> subst e
      · have e1 : pD j = 1 := g3
        have hm : vP v ≤ mM j ↔ pB j = lb (vP v) := by
          have hl : lb (vP v) = nI (2 ^ tN (vP v) - 1) := lb_pt hpt.1 hpt.2.2
          have hl8 := pw_lt8 hpt.2.2
          rw [hl, g11, g8, hpt.1, tN_nI (by omega), nI_leI (by omega) (by omega), nI_eq (by omega) (by omega)]
          constructor
          · intro z
            have ea : a = 0 := by omega
            have em : m = tN (vP v) := by omega
            subst ea
            rw [em]; simp
          · intro z
            have := pow_un (tN (vP v)) (by omega) m (by omega) a (by omega) g9 g10 z
            omega
        rw [if_neg (show ¬ (pD j = 2 ∨ pD j = 3) by rw [e1]; decide), if_neg (nz3 (by rw [e1]; decide) (by rw [e1]; decide) hnt), if_pos e1]
        by_cases ho : vO v = 0
        · rw [if_pos (Or.inr ho), if_pos ho]
        · rw [if_neg (fun z => z.elim (fun z => z e1) ho), if_neg ho]
          by_cases hb : pB j = lb (vP v)
          · rw [if_neg (show ¬ ¬ pB j = lb (vP v) from fun z => z hb), if_neg (show ¬ ¬ vP v ≤ mM j from fun z => z (hm.mpr hb))]
          · rw [if_pos hb, if_pos (show ¬ vP v ≤ mM j from fun z => hb (hm.mp z))]
      · have e1 : pD j = 2 := g3
        have hl : lb (mM j) <<< (mF j &&& 31) = pB j := by rw [g7, g8, g11, lb_sh m (by omega) a (by omega)]
        rw [if_pos (Or.inl e1), if_neg (nz3 (by rw [e1]; decide) (by rw [e1]; decide) hnt), if_neg (show ¬ pD j = 1 by rw [e1]; decide), hl]
      · have e1 : pD j = 3 := g3
        have hl : lb (mM j) <<< (mF j &&& 31) = pB j := by rw [g7, g8, g11, lb_sh m (by omega) a (by omega)]
        rw [if_pos (Or.inr e1), if_neg (nz3 (by rw [e1]; decide) (by rw [e1]; decide) hnt), if_neg (show ¬ pD j = 1 by rw [e1]; decide), hl]
      · have e1 : pD j = 4 := g3
        rw [if_neg (show ¬ (pD j = 2 ∨ pD j = 3) by rw [e1]; decide), if_pos (show ¬ pD j = 1 ∨ _ from Or.inl (by rw [e1]; decide)), if_pos (Or.inr (Or.inl (show 3 < pD j by rw [e1]; decide)))]
      · have e1 : pD j = 5 := g3
        rw [if_neg (show ¬ (pD j = 2 ∨ pD j = 3) by rw [e1]; decide), if_pos (show ¬ pD j = 1 ∨ _ from Or.inl (by rw [e1]; decide)), if_pos (Or.inr (Or.inl (show 3 < pD j by rw [e1]; decide)))]
    · rw [if_pos (hrc.mpr hre), if_pos (Or.inr (Or.inr (tb_f hre)))]
theorem frv_pos {j : Nat} : 0 < frv nv np vP vO vG pD mV mF mM pX pY j ↔ ¬ frv nv np vP vO vG pD mV mF mM pX pY j = 0 := by
  unfold frv
  repeat' split
  all_goals decide
end JOI
end
section
/-! Each call: the two answers are one, and what is kept agrees again. -/
section OPS
variable {nv np : Nat} {vP vO vG pD pV pB mV mF mM pX pY rc iw : Nat → Int32} {ah : Nat → Int64} {sv : Int32}
theorem op_variable {x o gv r1 r2 sv1 : Int32} {n1 n2 : Nat} {vP1 vO1 vG1 vP2 vO2 vG2 : Nat → Int32} (hJ : JI nv np vP pD pV pB mV mF mM) (hZ : ZI nv np vP vG pD pV pB pX pY sv rc iw ah)
    (hp : (r1 = -1 ∧ (x < 1 ∨ 8 < x ∨ ¬ nv < 20) ∧ (n1, vP1, vO1, vG1, sv1) = (nv, vP, vO, vG, sv)) ∨ (r1 = nI nv ∧ ¬ x < 1 ∧ ¬ 8 < x ∧ nv < 20 ∧ (n1, vP1, vO1, vG1, sv1) = (nv + 1, upd vP nv x, upd vO nv o, upd vG nv gv, 0)))
    (hq : (r2 = -1 ∧ (x < 1 ∨ 8 < x ∨ ¬ nv < 20) ∧ (n2, vP2, vO2, vG2) = (nv, vP, vO, vG)) ∨ (r2 = nI nv ∧ ¬ x < 1 ∧ ¬ 8 < x ∧ nv < 20 ∧ (n2, vP2, vO2, vG2) = (nv + 1, upd vP nv x, upd vO nv o, upd vG nv gv))) :
    r1 = r2 ∧ n2 = n1 ∧ vP2 = vP1 ∧ vO2 = vO1 ∧ vG2 = vG1 ∧ JI n1 np vP1 pD pV pB mV mF mM ∧ ZI n1 np vP1 vG1 pD pV pB pX pY sv1 rc iw ah := by
  simp only [Prod.mk.injEq] at hp hq
  rcases hp with ⟨a1, a2, rfl, rfl, rfl, rfl, rfl⟩ | ⟨a1, a2, a3, a4, rfl, rfl, rfl, rfl, rfl⟩ <;> rcases hq with ⟨b1, b2, rfl, rfl, rfl, rfl⟩ | ⟨b1, b2, b3, b4, rfl, rfl, rfl, rfl⟩
  · exact ⟨a1.trans b1.symm, rfl, rfl, rfl, rfl, hJ, hZ⟩
  · exact (a2.elim b2 (fun z => z.elim b3 (fun z => z b4))).elim
  · exact (b2.elim a2 (fun z => z.elim a3 (fun z => z a4))).elim
  · refine ⟨a1.trans b1.symm, rfl, rfl, rfl, rfl, ?_, hZ.1, hZ.2.1, Or.inl rfl⟩
    obtain ⟨h1, h2, h3, h4⟩ := hJ
    have hx0 : ¬ x < 0 := fun z => a2 (by
      rw [i32_lt] at z ⊢
      have e0 : (0 : Int32).toInt = 0 := rfl
      have e1 : (1 : Int32).toInt = 1 := rfl
      omega)
    obtain ⟨n, hn, rfl⟩ := nI_of hx0
    have g1 : ¬ n < 1 := fun z => a2 ((nI_ltI (b := 1) (by omega) (by decide)).mpr z)
    have g8 : ¬ 8 < n := fun z => a3 ((nI_ltI (a := 8) (by decide) (by omega)).mpr z)
    have hold : ∀ v, v < nv → upd vP nv (nI n) v = vP v := fun v hv => pk_un (by omega)
    refine ⟨a4, h2, fun v hv => ?_, fun q hq => ?_⟩
    · by_cases e : v = nv
      · rw [e, pk_us, tN_nI (by omega)]
        exact ⟨rfl, by omega, by omega⟩
      · rw [hold v (by omega)]; exact h3 v (by omega)
    · rcases h4 q hq with h | ⟨d, v, a, m, g1, g2, g3, g4, g5, g6, g7, g8, g9, g10, g11, g12⟩
      · exact Or.inl h
      · exact Or.inr ⟨d, v, a, m, g1, g2, g3, by omega, g5, g6, g7, g8, g9, by rw [hold v g4]; exact g10, g11, by rw [hold v g4]; exact g12⟩
theorem sub_ti {a b : Nat} (ha : a < 2 ^ 31) (hb : b < 2 ^ 31) : (nI a - nI b).toInt = (a : Int) - b := by
  rw [Int32.toInt_sub, nI_toInt ha, nI_toInt hb]
  exact Int.bmod_eq_of_le (by omega) (by omega)
theorem part_iff {pt : Nat} {a b : Int32} (hp : pt ≤ 8) : (¬ a < 0 ∧ ¬ b < 1 ∧ ¬ nI pt - b < a) ↔ (¬ a < 0 ∧ ¬ b < 1 ∧ ¬ 8 ≤ a ∧ ¬ 8 < b ∧ ¬ nI pt < a + b) := by
  have conv : ∀ {c : Int32}, ¬ c < 1 → ¬ c < 0 := fun {c} h z => h (by
    rw [i32_lt] at z ⊢
    have e0 : (0 : Int32).toInt = 0 := rfl
    have e1 : (1 : Int32).toInt = 1 := rfl
    omega)
  constructor
  · rintro ⟨h1, h2, h3⟩
    obtain ⟨A, hA, rfl⟩ := nI_of h1
    obtain ⟨B, hB, rfl⟩ := nI_of (conv h2)
    have h2' : ¬ B < 1 := fun z => h2 ((nI_ltI (b := 1) (by omega) (by decide)).mpr z)
    rw [i32_lt, sub_ti (by omega) (by omega), nI_toInt (by omega)] at h3
    refine ⟨h1, h2, fun z => ?_, fun z => ?_, fun z => ?_⟩
    · have : 8 ≤ A := (nI_leI (a := 8) (by decide) (by omega)).mp z
      omega
    · have : 8 < B := (nI_ltI (a := 8) (by decide) (by omega)).mp z
      omega
    · rw [nI_add] at z
      have := (nI_ltI (by omega) (by omega)).mp z
      omega
  · rintro ⟨h1, h2, h3, h4, h5⟩
    obtain ⟨A, hA, rfl⟩ := nI_of h1
    obtain ⟨B, hB, rfl⟩ := nI_of (conv h2)
    have h3' : ¬ 8 ≤ A := fun z => h3 ((nI_leI (a := 8) (by decide) (by omega)).mpr z)
    have h4' : ¬ 8 < B := fun z => h4 ((nI_ltI (a := 8) (by decide) (by omega)).mpr z)
    rw [nI_add, nI_ltI (by omega) (by omega)] at h5
    refine ⟨h1, h2, fun z => ?_⟩
    rw [i32_lt, sub_ti (by omega) (by omega), nI_toInt (by omega)] at z
    omega
theorem ok_iff {d x a b : Int32} (hJ : JI nv np vP pD pV pB mV mF mM) : (np < 120 ∧ dOK (nI nv) vP d x a b) ↔ rOK nv np vP d x a b := by
  have hd5 : d ≤ 5 ↔ ¬ 5 < d := by rw [i32_le, i32_lt]; omega
  have hsp : ¬ d < 0 → ¬ d = 0 → (¬ (d = 1 ∨ d = 2 ∨ d = 3) ↔ (d < 1 ∨ 3 < d)) := by
    intro h h0
    have g0 : ¬ d.toInt = 0 := lv_neT h0 rfl
    rw [i32_lt] at h
    have e0 : (0 : Int32).toInt = 0 := rfl
    have e1 : (1 : Int32).toInt = 1 := rfl
    have e3 : (3 : Int32).toInt = 3 := rfl
    rw [i32_lt, i32_lt]
    constructor
    · intro z
      have z1 : ¬ d.toInt = 1 := lv_neT (fun q => z (Or.inl q)) rfl
      have z2 : ¬ d.toInt = 2 := lv_neT (fun q => z (Or.inr (Or.inl q))) rfl
      have z3 : ¬ d.toInt = 3 := lv_neT (fun q => z (Or.inr (Or.inr q))) rfl
      omega
    · rintro z (q | q | q) <;> rw [q] at z <;> revert z <;> decide
  have hpt : ¬ d = 0 → (¬ x < 0 ∧ ¬ nI nv ≤ x) → ∃ pt, pt ≤ 8 ∧ vP (tN x) = nI pt := by
    intro _ hx
    rcases pk_ix x (n := nv) (by have := hJ.1; omega) with h | h | ⟨v, hv, rfl⟩
    · exact absurd h hx.1
    · exact absurd h hx.2
    · rw [tN_nI (by have := hJ.1; omega)]
      exact ⟨tN (vP v), (hJ.2.2.1 v hv).2.2, (hJ.2.2.1 v hv).1⟩
  unfold dOK rOK
  rw [hd5]
  by_cases h0 : d = 0
  · simp [h0]
  · by_cases hn0 : ¬ d < 0
    · have hs := hsp hn0 h0
      constructor
      · rintro ⟨h1, h2, h3, h4⟩
        refine ⟨h2, h3, h1, Or.inr ?_⟩
        rcases h4 with h4 | ⟨h5, h6⟩
        · exact absurd h4 h0
        · refine ⟨h5, ?_⟩
          obtain ⟨pt, g1, g2⟩ := hpt h0 h5
          rcases h6 with h6 | h6
          · exact (hs.mp h6).elim Or.inl (fun z => Or.inr (Or.inl z))
          · rw [g2] at h6 ⊢
            exact Or.inr (Or.inr ((part_iff g1).mp h6))
      · rintro ⟨h1, h2, h3, h4⟩
        refine ⟨h3, h1, h2, Or.inr ?_⟩
        rcases h4 with h4 | ⟨h5, h6⟩
        · exact absurd h4 h0
        · refine ⟨h5, ?_⟩
          obtain ⟨pt, g1, g2⟩ := hpt h0 h5
          rcases h6 with h6 | h6 | h6
          · exact Or.inl (hs.mpr (Or.inl h6))
          · exact Or.inl (hs.mpr (Or.inr h6))
          · rw [g2] at h6 ⊢
            exact Or.inr ((part_iff g1).mpr h6)
    · exact ⟨fun z => absurd z.2.1 hn0, fun z => absurd z.1 hn0⟩
theorem rel_new {d x a b : Int32} (hJ : JI nv np vP pD pV pB mV mF mM) (hok : dOK (nI nv) vP d x a b) : Rel1 nv vP (upd pD np d) (upd pV np (if d = 0 then 0 else x)) (upd pB np (bod vP d x a b)) (upd mV np (if d = 0 then -1 else x)) (upd mF np (if 4 ≤ d then 0 else a)) (upd mM np (if d = 0 then 0 else if 4 ≤ d then vP (tN x) else b)) np := by
  unfold Rel1
  simp only [pk_us]
  by_cases h0 : d = 0
  · refine Or.inl ⟨h0, if_pos h0, ?_, if_pos h0⟩
    unfold bod
    rw [if_pos h0]
  · obtain ⟨h1, h2, h3⟩ := hok
    obtain ⟨hx, hp⟩ := h3.elim (fun z => absurd z h0) id
    obtain ⟨D, hD, rfl⟩ := nI_of h1
    have hD5 : D ≤ 5 := (nI_leI (b := 5) (by omega) (by decide)).mp h2
    have hD0 : ¬ D = 0 := fun z => h0 (by rw [z]; rfl)
    have h20 := hJ.1
    rcases pk_ix x (n := nv) (by omega) with h | h | ⟨v, hv, rfl⟩
    · exact absurd h hx.1
    · exact absurd h hx.2
    · obtain ⟨e1, e2, e3⟩ := hJ.2.2.1 v hv
      have etn : tN (nI v) = v := tN_nI (by omega)
      rw [if_neg h0, if_neg h0, if_neg h0, etn]
      by_cases h4 : 4 ≤ nI D
      · have g4 : 4 ≤ D := (nI_leI (a := 4) (by decide) (by omega)).mp h4
        have hns : ¬ (nI D = 1 ∨ nI D = 2 ∨ nI D = 3) := by
          rintro (z | z | z)
          · have := (nI_eq (b := 1) (by omega) (by decide)).mp z; omega
          · have := (nI_eq (b := 2) (by omega) (by decide)).mp z; omega
          · have := (nI_eq (b := 3) (by omega) (by decide)).mp z; omega
        refine Or.inr ⟨D, v, 0, tN (vP v), by omega, hD5, rfl, hv, rfl, rfl, ?_, ?_, e2, by omega, ?_, fun _ => ⟨rfl, rfl⟩⟩
        · rw [if_pos h4]; rfl
        · rw [if_pos h4]; exact e1
        · unfold bod
          rw [if_neg h0, if_neg hns, etn, lb_pt e1 e3]
          simp
      · have g4 : ¬ 4 ≤ D := fun z => h4 ((nI_leI (a := 4) (by decide) (by omega)).mpr z)
        have hs : nI D = 1 ∨ nI D = 2 ∨ nI D = 3 := by
          rcases (show D = 1 ∨ D = 2 ∨ D = 3 by omega) with z | z | z <;> rw [z]
          · exact Or.inl rfl
          · exact Or.inr (Or.inl rfl)
          · exact Or.inr (Or.inr rfl)
        have hq := hp.elim (fun z => absurd hs z) id
        rw [etn, e1] at hq
        have hq2 := (part_iff e3).mp hq
        obtain ⟨A, hA, rfl⟩ := nI_of hq2.1
        have hb0 : ¬ b < 0 := fun z => hq2.2.1 (by
          rw [i32_lt] at z ⊢
          have q0 : (0 : Int32).toInt = 0 := rfl
          have q1 : (1 : Int32).toInt = 1 := rfl
          omega)
        obtain ⟨B, hB, rfl⟩ := nI_of hb0
        have k1 : ¬ B < 1 := fun z => hq2.2.1 ((nI_ltI (b := 1) (by omega) (by decide)).mpr z)
        have k2 : ¬ 8 ≤ A := fun z => hq2.2.2.1 ((nI_leI (a := 8) (by decide) (by omega)).mpr z)
        have k3 : ¬ 8 < B := fun z => hq2.2.2.2.1 ((nI_ltI (a := 8) (by decide) (by omega)).mpr z)
        have k4 : ¬ tN (vP v) < A + B := fun z => hq2.2.2.2.2 (by rw [nI_add]; exact (nI_ltI (by omega) (by omega)).mpr z)
        refine Or.inr ⟨D, v, A, B, by omega, hD5, rfl, hv, rfl, rfl, ?_, ?_, by omega, by omega, ?_, fun z => absurd z g4⟩
        · rw [if_neg h4]
        · rw [if_neg h4]
        · unfold bod
          rw [if_neg h0, if_pos hs, lb_sh B (by omega) A (by omega)]
theorem op_point {d x a b r1 r2 sv1 : Int32} {n1 n2 : Nat} {pD1 pV1 pB1 pX1 pY1 pD2 mV2 mF2 mM2 pX2 pY2 : Nat → Int32} (hJ : JI nv np vP pD pV pB mV mF mM) (hZ : ZI nv np vP vG pD pV pB pX pY sv rc iw ah)
    (hp : (r1 = -1 ∧ (120 ≤ np ∨ ¬ dOK (nI nv) vP d x a b) ∧ (n1, pD1, pV1, pB1, pX1, pY1, sv1) = (np, pD, pV, pB, pX, pY, sv)) ∨ (r1 = nI np ∧ np < 120 ∧ dOK (nI nv) vP d x a b ∧ (n1, pD1, pV1, pB1, pX1, pY1, sv1) = (np + 1, upd pD np d, upd pV np (if d = 0 then 0 else x), upd pB np (bod vP d x a b), upd pX np (nI (np + 1)), upd pY np (-1), 0)))
    (hq : (r2 = -1 ∧ ¬ rOK nv np vP d x a b ∧ (n2, pD2, mV2, mF2, mM2, pX2, pY2) = (np, pD, mV, mF, mM, pX, pY)) ∨ (r2 = nI np ∧ rOK nv np vP d x a b ∧ (n2, pD2, mV2, mF2, mM2, pX2, pY2) = (np + 1, upd pD np d, upd mV np (if d = 0 then -1 else x), upd mF np (if 4 ≤ d then 0 else a), upd mM np (if d = 0 then 0 else if 4 ≤ d then vP (tN x) else b), upd pX np (nI (np + 1)), upd pY np (-1)))) :
    r1 = r2 ∧ n2 = n1 ∧ pD2 = pD1 ∧ pX2 = pX1 ∧ pY2 = pY1 ∧ JI nv n1 vP pD1 pV1 pB1 mV2 mF2 mM2 ∧ ZI nv n1 vP vG pD1 pV1 pB1 pX1 pY1 sv1 rc iw ah := by
  have hok := ok_iff (d := d) (x := x) (a := a) (b := b) hJ
  simp only [Prod.mk.injEq] at hp hq
  rcases hp with ⟨a1, a2, rfl, rfl, rfl, rfl, rfl, rfl, rfl⟩ | ⟨a1, a2, a3, rfl, rfl, rfl, rfl, rfl, rfl, rfl⟩ <;> rcases hq with ⟨b1, b2, rfl, rfl, rfl, rfl, rfl, rfl, rfl⟩ | ⟨b1, b2, rfl, rfl, rfl, rfl, rfl, rfl, rfl⟩
  · exact ⟨a1.trans b1.symm, rfl, rfl, rfl, rfl, hJ, hZ⟩
  · have := hok.mpr b2
    exact (a2.elim (fun z => by omega) (fun z => z this.2)).elim
  · exact absurd (hok.mp ⟨a2, a3⟩) b2
  · refine ⟨a1.trans b1.symm, rfl, rfl, rfl, rfl, ⟨hJ.1, a2, hJ.2.2.1, fun q hq => ?_⟩, hZ.1, hZ.2.1, Or.inl rfl⟩
    by_cases e : q = np
    · rw [e]
      exact rel_new hJ a3
    · have := hJ.2.2.2 q (by omega)
      unfold Rel1 at this ⊢
      simp only [pk_un e]
      exact this
theorem op_next {x y z r1 r2 sv1 : Int32} {pX1 pY1 pX2 pY2 : Nat → Int32} (hJ : JI nv np vP pD pV pB mV mF mM) (hZ : ZI nv np vP vG pD pV pB pX pY sv rc iw ah)
    (hp : (r1 = 0 ∧ ((∀ j, j < np → ¬ x = nI j) ∨ ¬ cbn y ∨ ¬ cbn z) ∧ (pX1, pY1, sv1) = (pX, pY, sv)) ∨ (r1 = 1 ∧ ∃ j, j < np ∧ x = nI j ∧ cbn y ∧ cbn z ∧ (pX1, pY1, sv1) = (upd pX j y, upd pY j z, 0)))
    (hq : (r2 = 0 ∧ ((∀ j, j < np → ¬ x = nI j) ∨ ¬ cbn y ∨ ¬ cbn z) ∧ (pX2, pY2) = (pX, pY)) ∨ (r2 = 1 ∧ ∃ j, j < np ∧ x = nI j ∧ cbn y ∧ cbn z ∧ (pX2, pY2) = (upd pX j y, upd pY j z))) :
    r1 = r2 ∧ pX2 = pX1 ∧ pY2 = pY1 ∧ ZI nv np vP vG pD pV pB pX1 pY1 sv1 rc iw ah := by
  simp only [Prod.mk.injEq] at hp hq
  have hn := hJ.2.1
  rcases hp with ⟨a1, a2, rfl, rfl, rfl⟩ | ⟨a1, j, a2, a3, a4, a5, rfl, rfl, rfl⟩ <;> rcases hq with ⟨b1, b2, rfl, rfl⟩ | ⟨b1, i, b2, b3, b4, b5, rfl, rfl⟩
  · exact ⟨a1.trans b1.symm, rfl, rfl, hZ⟩
  · exact (a2.elim (fun z => z i b2 b3) (fun z => z.elim (fun z => z b4) (fun z => z b5))).elim
  · exact (b2.elim (fun z => z j a2 a3) (fun z => z.elim (fun z => z a4) (fun z => z a5))).elim
  · have : i = j := (nI_eq (by omega) (by omega)).mp (b3.symm.trans a3)
    subst this
    exact ⟨a1.trans b1.symm, rfl, rfl, hZ.1, hZ.2.1, Or.inl rfl⟩
theorem op_reached {x r1 r2 : Int32} {rc1 : Nat → Int32} {ah1 : Nat → Int64} (hJ : JI nv np vP pD pV pB mV mF mM)
    (hp : ((∀ j, j < np → ¬ x = nI j) ∧ r1 = 0) ∨ ∃ j, j < np ∧ x = nI j ∧ DnG nv np vP vG pD pV pB pX pY rc1 ah1 ∧ r1 = rc1 j)
    (hq : ((∀ j, j < np → ¬ x = nI j) ∧ r2 = 0) ∨ ∃ j, j < np ∧ x = nI j ∧ ((r2 = 1 ∧ rch (ed pX pY np) np j) ∨ (r2 = 0 ∧ ¬ rch (ed pX pY np) np j))) : r1 = r2 := by
  have hn := hJ.2.1
  rcases hp with ⟨a1, a2⟩ | ⟨j, a1, a2, a3, a4⟩ <;> rcases hq with ⟨b1, b2⟩ | ⟨i, b1, b2, b3⟩
  · exact a2.trans b2.symm
  · exact absurd b2 (a1 i b1)
  · exact absurd a2 (b1 j a1)
  · have : i = j := (nI_eq (by omega) (by omega)).mp (b2.symm.trans a2)
    subst this
    obtain ⟨c1, c2⟩ := a3.1 i a1
    rw [a4]
    rcases b3 with ⟨d1, d2⟩ | ⟨d1, d2⟩
    · rw [d1, c2.mpr d2]
    · rw [d1]
      exact c1.elim id (fun z => absurd (c2.mp z) d2)
theorem op_bits {x y r1 r2 : Int32} {rc1 : Nat → Int32} {ah1 : Nat → Int64} {kd w : Nat} (hJ : JI nv np vP pD pV pB mV mF mM) (hw : (w = 0 ∧ kd = 0) ∨ (w = 1 ∧ kd = 3))
    (hp : (((∀ j, j < np → ¬ x = nI j) ∨ ∀ v, v < nv → ¬ y = nI v) ∧ r1 = 0) ∨ ∃ j v, j < np ∧ v < nv ∧ x = nI j ∧ y = nI v ∧ DnG nv np vP vG pD pV pB pX pY rc1 ah1 ∧ r1 = sb (ah1 (j * 6 + kd + v / 8)) v)
    (hq : (((∀ j, j < np → ¬ x = nI j) ∨ ∀ v, v < nv → ¬ y = nI v) ∧ r2 = 0) ∨ ∃ j v, j < np ∧ v < nv ∧ x = nI j ∧ y = nI v ∧ r2 = nI (bxN nv np vP vG pD mV mF mM pX pY w j v)) : r1 = r2 := by
  have hn := hJ.2.1
  have hv := hJ.1
  rcases hp with ⟨a1, a2⟩ | ⟨j, v, a1, a2, a3, a4, a5, a6⟩ <;> rcases hq with ⟨b1, b2⟩ | ⟨i, u, b1, b2, b3, b4, b5⟩
  · exact a2.trans b2.symm
  · exact (a1.elim (fun z => z i b1 b3) (fun z => z u b2 b4)).elim
  · exact (b1.elim (fun z => z j a1 a3) (fun z => z v a2 a4)).elim
  · have e1 : i = j := (nI_eq (by omega) (by omega)).mp (b3.symm.trans a3)
    have e2 : u = v := (nI_eq (by omega) (by omega)).mp (b4.symm.trans a4)
    subst e1; subst e2
    rw [a6, b5]
    rcases hw with ⟨h1, h2⟩ | ⟨h1, h2⟩ <;> subst h1 <;> subst h2
    · have := sb_eq hJ a5 a1 a2 (w := 0) (by decide)
      rw [if_neg (by decide), show i * 6 + (0 + u / 8) = i * 6 + 0 + u / 8 by omega] at this
      exact this
    · have := sb_eq hJ a5 a1 a2 (w := 1) (by decide)
      rw [if_pos rfl, show i * 6 + (3 + u / 8) = i * 6 + 3 + u / 8 by omega] at this
      exact this
theorem op_fault {x r1 r2 : Int32} {rc1 : Nat → Int32} {ah1 : Nat → Int64} (hJ : JI nv np vP pD pV pB mV mF mM)
    (hp : ((∀ j, j < np → ¬ x = nI j) ∧ r1 = -1) ∨ ∃ j, j < np ∧ x = nI j ∧ DnG nv np vP vG pD pV pB pX pY rc1 ah1 ∧ r1 = fop vP vO pD pV pB rc1 ah1 j)
    (hq : ((∀ j, j < np → ¬ x = nI j) ∧ r2 = -1) ∨ ∃ j, j < np ∧ x = nI j ∧ r2 = frv nv np vP vO vG pD mV mF mM pX pY j) : r1 = r2 := by
  have hn := hJ.2.1
  rcases hp with ⟨a1, a2⟩ | ⟨j, a1, a2, a3, a4⟩ <;> rcases hq with ⟨b1, b2⟩ | ⟨i, b1, b2, b3⟩
  · exact a2.trans b2.symm
  · exact absurd b2 (a1 i b1)
  · exact absurd a2 (b1 j a1)
  · have : i = j := (nI_eq (by omega) (by omega)).mp (b2.symm.trans a2)
    subst this
    rw [a4, b3, fop_eq hJ a3 a1]
theorem op_count {x r1 r2 : Int32} {rc1 : Nat → Int32} {ah1 : Nat → Int64} (hJ : JI nv np vP pD pV pB mV mF mM)
    (hp : (x = 0 ∧ r1 = nI np) ∨ (x = 1 ∧ DnG nv np vP vG pD pV pB pX pY rc1 ah1 ∧ r1 = nI (cnt (fun q => decide (¬ rc1 q = 0)) np)) ∨ (x = 2 ∧ DnG nv np vP vG pD pV pB pX pY rc1 ah1 ∧ r1 = nI (cnt (fun q => decide (¬ fop vP vO pD pV pB rc1 ah1 q = 0)) np)) ∨ (x = 3 ∧ DnG nv np vP vG pD pV pB pX pY rc1 ah1 ∧ ((r1 = -1 ∧ ∀ q, q < np → fop vP vO pD pV pB rc1 ah1 q = 0) ∨ ∃ j, j < np ∧ r1 = nI j ∧ ¬ fop vP vO pD pV pB rc1 ah1 j = 0 ∧ ∀ q, q < j → fop vP vO pD pV pB rc1 ah1 q = 0)) ∨ (x = 4 ∧ r1 = nI nv) ∨ (x = 5 ∧ r1 = smI vP nv) ∨ ((¬ x = 0 ∧ ¬ x = 1 ∧ ¬ x = 2 ∧ ¬ x = 3 ∧ ¬ x = 4 ∧ ¬ x = 5) ∧ r1 = -1))
    (hq : (x = 0 ∧ r2 = nI np) ∨ (x = 1 ∧ r2 = nI (cnt (fun q => tb (rch (ed pX pY np) np q)) np)) ∨ (x = 2 ∧ r2 = nI (cnt (fun q => tb (0 < frv nv np vP vO vG pD mV mF mM pX pY q)) np)) ∨ (x = 3 ∧ fst9 (fun q => tb (0 < frv nv np vP vO vG pD mV mF mM pX pY q)) np 0 r2) ∨ (x = 4 ∧ r2 = nI nv) ∨ (x = 5 ∧ r2 = smI vP nv) ∨ ((¬ x = 0 ∧ ¬ x = 1 ∧ ¬ x = 2 ∧ ¬ x = 3 ∧ ¬ x = 4 ∧ ¬ x = 5) ∧ r2 = -1)) : r1 = r2 := by
  have hn := hJ.2.1
  have d10 : ¬ (1 : Int32) = 0 := by decide
  rcases hp with ⟨rfl, h⟩ | ⟨rfl, hD, h⟩ | ⟨rfl, hD, h⟩ | ⟨rfl, hD, h⟩ | ⟨rfl, h⟩ | ⟨rfl, h⟩ | ⟨hne, h⟩
  · rcases hq with ⟨_, g⟩ | ⟨e, _⟩ | ⟨e, _⟩ | ⟨e, _⟩ | ⟨e, _⟩ | ⟨e, _⟩ | ⟨e, _⟩
    · exact h.trans g.symm
    all_goals first | exact absurd e (by decide) | exact absurd rfl e.1
  · rcases hq with ⟨e, _⟩ | ⟨_, g⟩ | ⟨e, _⟩ | ⟨e, _⟩ | ⟨e, _⟩ | ⟨e, _⟩ | ⟨e, _⟩
    · exact absurd e (by decide)
    · rw [h, g]
      congr 1
      refine cnt_congr (fun q hq => ?_)
      obtain ⟨c1, c2⟩ := hD.1 q hq
      by_cases hr : rch (ed pX pY np) np q
      · rw [tb_t hr, c2.mpr hr]; rfl
      · rw [tb_f hr, c1.elim id (fun z => absurd (c2.mp z) hr)]; rfl
    all_goals first | exact absurd e (by decide) | exact absurd rfl e.2.1
  · rcases hq with ⟨e, _⟩ | ⟨e, _⟩ | ⟨_, g⟩ | ⟨e, _⟩ | ⟨e, _⟩ | ⟨e, _⟩ | ⟨e, _⟩
    · exact absurd e (by decide)
    · exact absurd e (by decide)
    · rw [h, g]
      congr 1
      refine cnt_congr (fun q hq => ?_)
      rw [Bool.eq_iff_iff, decide_eq_true_eq, tb_iff, fop_eq hJ hD hq]
      exact frv_pos.symm
    all_goals first | exact absurd e (by decide) | exact absurd rfl e.2.2.1
  · rcases hq with ⟨e, _⟩ | ⟨e, _⟩ | ⟨e, _⟩ | ⟨_, g⟩ | ⟨e, _⟩ | ⟨e, _⟩ | ⟨e, _⟩
    · exact absurd e (by decide)
    · exact absurd e (by decide)
    · exact absurd e (by decide)
    · have hz : ∀ q, q < np → (fop vP vO pD pV pB rc1 ah1 q = 0 ↔ (fun q => tb (0 < frv nv np vP vO vG pD mV mF mM pX pY q)) q = false) := by
        intro q hq
        rw [fop_eq hJ hD hq]
        constructor
        · intro z
          exact tb_f (fun z2 => frv_pos.mp z2 z)
        · intro z
          refine Classical.byContradiction (fun z2 => ?_)
          have := tb_t (frv_pos.mpr z2)
          simp only [this] at z
          cases z
      rcases h with ⟨h1, h2⟩ | ⟨j, h1, h2, h3, h4⟩ <;> rcases g with ⟨g1, g2⟩ | ⟨i, _, g2, g3, g4, g5⟩
      · exact h1.trans g1.symm
      · have := (hz i g2).mp (h2 i g2)
        rw [this] at g4
        cases g4
      · exact absurd ((hz j h1).mpr (g2 j (Nat.zero_le _) h1)) h3
      · have : i = j := by
          rcases Nat.lt_trichotomy i j with e | e | e
          · have := (hz i g2).mp (h4 i e)
            rw [this] at g4
            cases g4
          · exact e
          · exact absurd ((hz j h1).mpr (g5 j (Nat.zero_le _) e)) h3
        rw [h2, g3, this]
    all_goals first | exact absurd e (by decide) | exact absurd rfl e.2.2.2.1
  · rcases hq with ⟨e, _⟩ | ⟨e, _⟩ | ⟨e, _⟩ | ⟨e, _⟩ | ⟨_, g⟩ | ⟨e, _⟩ | ⟨e, _⟩
    · exact absurd e (by decide)
    · exact absurd e (by decide)
    · exact absurd e (by decide)
    · exact absurd e (by decide)
    · exact h.trans g.symm
    all_goals first | exact absurd e (by decide) | exact absurd rfl e.2.2.2.2.1
  · rcases hq with ⟨e, _⟩ | ⟨e, _⟩ | ⟨e, _⟩ | ⟨e, _⟩ | ⟨e, _⟩ | ⟨_, g⟩ | ⟨e, _⟩
    · exact absurd e (by decide)
    · exact absurd e (by decide)
    · exact absurd e (by decide)
    · exact absurd e (by decide)
    · exact absurd e (by decide)
    · exact h.trans g.symm
    · exact absurd rfl e.2.2.2.2.2
  · rcases hq with ⟨e, _⟩ | ⟨e, _⟩ | ⟨e, _⟩ | ⟨e, _⟩ | ⟨e, _⟩ | ⟨e, _⟩ | ⟨_, g⟩
    · exact absurd e hne.1
    · exact absurd e hne.2.1
    · exact absurd e hne.2.2.1
    · exact absurd e hne.2.2.2.1
    · exact absurd e hne.2.2.2.2.1
    · exact absurd e hne.2.2.2.2.2
    · exact h.trans g.symm
end OPS
end
