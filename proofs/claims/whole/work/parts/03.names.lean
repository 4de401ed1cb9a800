def RX0 : String := "PetriNet$Exploration"
def TX0 : u_T := fun k => match k with
  | 0 => ("PetriNet$Exploration", "keys", "[J", true)
  | 1 => ("PetriNet$Exploration", "distances", "[I", true)
  | 2 => ("PetriNet$Exploration", "foundBy", "[I", true)
  | 3 => ("PetriNet$Exploration", "enabledSets", "[I", true)
  | 4 => ("PetriNet$Exploration", "changes", "[J", true)
  | 5 => ("PetriNet$Exploration", "slots", "[I", true)
  | 6 => ("PetriNet$Exploration", "walker", "LPetriNet$Net;", true)
  | 7 => ("PetriNet$Exploration", "count", "I", false)
  | _ => ("PetriNet$Exploration", "isWhole", "Z", false)
def tyX0 : Nat → FieldType := fun k => match k with
  | 0 => .array .long
  | 1 => .array .int
  | 2 => .array .int
  | 3 => .array .int
  | 4 => .array .long
  | 5 => .array .int
  | 6 => .object "PetriNet$Net"
  | 7 => .int
  | _ => .boolean
theorem nmX0 : ∀ a, a < 9 → ∀ b, b < 9 → a ≠ b → (TX0 a).2.1 ≠ (TX0 b).2.1 := by decide +kernel
theorem tyX0_ok : ∀ k, k < 9 → parseFieldDescriptor (TX0 k).2.2.1 = some (tyX0 k) := by decide +kernel
def RX1 : String := "PetriNet$History"
def TX1 : u_T := fun k => match k with
  | 0 => ("PetriNet$History", "rows", "[LPetriNet$Net;", true)
  | 1 => ("PetriNet$History", "next", "I", false)
  | _ => ("PetriNet$History", "count", "I", false)
def tyX1 : Nat → FieldType := fun k => match k with
  | 0 => .array (.object "PetriNet$Net")
  | 1 => .int
  | _ => .int
theorem nmX1 : ∀ a, a < 3 → ∀ b, b < 3 → a ≠ b → (TX1 a).2.1 ≠ (TX1 b).2.1 := by decide +kernel
theorem tyX1_ok : ∀ k, k < 3 → parseFieldDescriptor (TX1 k).2.2.1 = some (tyX1 k) := by decide +kernel
def RX2 : String := "PetriNet$Net"
def TX2 : u_T := fun k => match k with
  | 0 => ("PetriNet$Net", "places", "I", false)
  | 1 => ("PetriNet$Net", "transitions", "I", false)
  | 2 => ("PetriNet$Net", "marking", "[I", true)
  | 3 => ("PetriNet$Net", "capacities", "[I", true)
  | 4 => ("PetriNet$Net", "inputs", "[I", false)
  | 5 => ("PetriNet$Net", "outputs", "[I", false)
  | 6 => ("PetriNet$Net", "limits", "[I", true)
  | _ => ("PetriNet$Net", "fired", "[I", true)
def tyX2 : Nat → FieldType := fun k => match k with
  | 0 => .int
  | 1 => .int
  | 2 => .array .int
  | 3 => .array .int
  | 4 => .array .int
  | 5 => .array .int
  | 6 => .array .int
  | _ => .array .int
theorem nmX2 : ∀ a, a < 8 → ∀ b, b < 8 → a ≠ b → (TX2 a).2.1 ≠ (TX2 b).2.1 := by decide +kernel
theorem tyX2_ok : ∀ k, k < 8 → parseFieldDescriptor (TX2 k).2.2.1 = some (tyX2 k) := by decide +kernel
def RX3 : String := "PetriNet$Script"
def TX3 : u_T := fun k => match k with
  | 0 => ("PetriNet$Script", "text", "[B", true)
  | 1 => ("PetriNet$Script", "length", "I", false)
  | 2 => ("PetriNet$Script", "net", "LPetriNet$Net;", true)
  | 3 => ("PetriNet$Script", "errorKind", "I", false)
  | 4 => ("PetriNet$Script", "errorOffset", "I", false)
  | 5 => ("PetriNet$Script", "tokenKind", "I", false)
  | 6 => ("PetriNet$Script", "tokenStart", "I", false)
  | _ => ("PetriNet$Script", "tokenEnd", "I", false)
def tyX3 : Nat → FieldType := fun k => match k with
  | 0 => .array .byte
  | 1 => .int
  | 2 => .object "PetriNet$Net"
  | 3 => .int
  | 4 => .int
  | 5 => .int
  | 6 => .int
  | _ => .int
theorem nmX3 : ∀ a, a < 8 → ∀ b, b < 8 → a ≠ b → (TX3 a).2.1 ≠ (TX3 b).2.1 := by decide +kernel
theorem tyX3_ok : ∀ k, k < 8 → parseFieldDescriptor (TX3 k).2.2.1 = some (tyX3 k) := by decide +kernel
def RX4 : String := "PetriNet"
def TX4 : u_T := fun k => match k with
  | 0 => ("PetriNet", "net", "LPetriNet$Net;", true)
  | 1 => ("PetriNet", "trial", "LPetriNet$Net;", true)
  | 2 => ("PetriNet", "snapshot", "LPetriNet$Net;", true)
  | 3 => ("PetriNet", "hasSnapshot", "Z", false)
  | 4 => ("PetriNet", "history", "LPetriNet$History;", true)
  | 5 => ("PetriNet", "script", "LPetriNet$Script;", true)
  | 6 => ("PetriNet", "exploration", "LPetriNet$Exploration;", true)
  | 7 => ("PetriNet", "isExplored", "Z", false)
  | 8 => ("PetriNet", "digits", "[I", true)
  | 9 => ("PetriNet", "report", "[B", true)
  | _ => ("PetriNet", "reportSize", "I", false)
def tyX4 : Nat → FieldType := fun k => match k with
  | 0 => .object "PetriNet$Net"
  | 1 => .object "PetriNet$Net"
  | 2 => .object "PetriNet$Net"
  | 3 => .boolean
  | 4 => .object "PetriNet$History"
  | 5 => .object "PetriNet$Script"
  | 6 => .object "PetriNet$Exploration"
  | 7 => .boolean
  | 8 => .array .int
  | 9 => .array .byte
  | _ => .int
theorem nmX4 : ∀ a, a < 11 → ∀ b, b < 11 → a ≠ b → (TX4 a).2.1 ≠ (TX4 b).2.1 := by decide +kernel
theorem tyX4_ok : ∀ k, k < 11 → parseFieldDescriptor (TX4 k).2.2.1 = some (tyX4 k) := by decide +kernel
def RX5 : String := "PetriNetModel"
def TX5 : u_T := fun k => match k with
  | 0 => ("PetriNetModel", "thrown", "I", false)
  | 1 => ("PetriNetModel", "w", "[I", true)
  | 2 => ("PetriNetModel", "past", "[[I", true)
  | 3 => ("PetriNetModel", "pastCount", "I", false)
  | 4 => ("PetriNetModel", "snapshot", "[I", true)
  | 5 => ("PetriNetModel", "hasSnapshot", "Z", false)
  | 6 => ("PetriNetModel", "before", "[I", true)
  | 7 => ("PetriNetModel", "aside", "[I", true)
  | 8 => ("PetriNetModel", "text", "[I", true)
  | 9 => ("PetriNetModel", "typed", "I", false)
  | 10 => ("PetriNetModel", "report", "[B", true)
  | 11 => ("PetriNetModel", "reported", "I", false)
  | 12 => ("PetriNetModel", "markings", "[I", true)
  | 13 => ("PetriNetModel", "distances", "[I", true)
  | 14 => ("PetriNetModel", "found", "[I", true)
  | 15 => ("PetriNetModel", "markingCount", "I", false)
  | 16 => ("PetriNetModel", "isAll", "Z", false)
  | 17 => ("PetriNetModel", "at", "I", false)
  | 18 => ("PetriNetModel", "from", "I", false)
  | 19 => ("PetriNetModel", "kind", "I", false)
  | 20 => ("PetriNetModel", "figure", "I", false)
  | 21 => ("PetriNetModel", "errorKind", "I", false)
  | 22 => ("PetriNetModel", "errorOffset", "I", false)
  | 23 => ("PetriNetModel", "scriptKind", "I", false)
  | _ => ("PetriNetModel", "scriptOffset", "I", false)
def tyX5 : Nat → FieldType := fun k => match k with
  | 0 => .int
  | 1 => .array .int
  | 2 => .array (.array .int)
  | 3 => .int
  | 4 => .array .int
  | 5 => .boolean
  | 6 => .array .int
  | 7 => .array .int
  | 8 => .array .int
  | 9 => .int
  | 10 => .array .byte
  | 11 => .int
  | 12 => .array .int
  | 13 => .array .int
  | 14 => .array .int
  | 15 => .int
  | 16 => .boolean
  | 17 => .int
  | 18 => .int
  | 19 => .int
  | 20 => .int
  | 21 => .int
  | 22 => .int
  | 23 => .int
  | _ => .int
theorem nmX5 : ∀ a, a < 25 → ∀ b, b < 25 → a ≠ b → (TX5 a).2.1 ≠ (TX5 b).2.1 := by decide +kernel
theorem tyX5_ok : ∀ k, k < 25 → parseFieldDescriptor (TX5 k).2.2.1 = some (tyX5 k) := by decide +kernel
/-- the good words of the tables -/
def WS : List Cond := lw_tbl.filter goodWord
theorem ws_of {w : Cond} (i : Nat) (h : tables_1[i]? = some w) (hg : goodWord w = true) : w ∈ WS := List.mem_filter.mpr ⟨List.mem_append_right _ (List.mem_of_getElem? h), hg⟩
theorem ws_sel {w : Cond} (i : Nat) (h : (k2_sels lw_privs)[i]? = some w) (hg : goodWord w = true) : w ∈ WS := List.mem_filter.mpr ⟨List.mem_append_left _ (List.mem_of_getElem? h), hg⟩
/-- y, its bytes, its locals, what it answers, its arguments, the number of its class (99: static), its depth, its cells, its slots -/
abbrev MS : Type := MethodName × ByteArray × Nat × Option FieldType × Nat × Nat × Nat × Nat × Nat
def sX0_init : MS := (⟨"PetriNet$Exploration", "<init>", "()V"⟩, prog_2_method_1_code, 1, (Option.none : Option FieldType), 0, 0, 2, 13, 1396)
def sX0_explore : MS := (⟨"PetriNet$Exploration", "explore", "(LPetriNet$Net;)V"⟩, prog_2_method_2_code, 4, (Option.none : Option FieldType), 1, 0, 4, 0, 0)
def sX0_start : MS := (⟨"PetriNet$Exploration", "start", "(LPetriNet$Net;)V"⟩, prog_2_method_3_code, 3, (Option.none : Option FieldType), 1, 0, 2, 0, 0)
def sX0_visit : MS := (⟨"PetriNet$Exploration", "visit", "(JII)V"⟩, prog_2_method_4_code, 6, (Option.none : Option FieldType), 3, 0, 3, 0, 0)
def sX0_slotOf : MS := (⟨"PetriNet$Exploration", "slotOf", "(J)I"⟩, prog_2_method_5_code, 5, (some FieldType.int), 1, 0, 0, 0, 0)
def sX0_tokensIn : MS := (⟨"PetriNet$Exploration", "tokensIn", "(II)I"⟩, prog_2_method_6_code, 3, (some FieldType.int), 2, 0, 1, 0, 0)
def sX0_isEnabledIn : MS := (⟨"PetriNet$Exploration", "isEnabledIn", "(II)Z"⟩, prog_2_method_7_code, 3, (some FieldType.boolean), 2, 0, 0, 0, 0)
def sX0_leadsHome : MS := (⟨"PetriNet$Exploration", "leadsHome", "(I)Z"⟩, prog_2_method_8_code, 3, (some FieldType.boolean), 1, 0, 1, 0, 0)
def sX0_keepsTokensOf : MS := (⟨"PetriNet$Exploration", "keepsTokensOf", "(I)Z"⟩, prog_2_method_9_code, 4, (some FieldType.boolean), 1, 0, 3, 0, 0)
def sX0_tokensOf : MS := (⟨"PetriNet$Exploration", "tokensOf", "(II)I"⟩, prog_2_method_10_code, 5, (some FieldType.int), 2, 0, 2, 0, 0)
def sX1_init : MS := (⟨"PetriNet$History", "<init>", "()V"⟩, prog_3_method_1_code, 2, (Option.none : Option FieldType), 0, 1, 2, 71, 2750)
def sX1_push : MS := (⟨"PetriNet$History", "push", "(LPetriNet$Net;)V"⟩, prog_3_method_2_code, 2, (Option.none : Option FieldType), 1, 1, 2, 0, 0)
def sX1_popInto : MS := (⟨"PetriNet$History", "popInto", "(LPetriNet$Net;)V"⟩, prog_3_method_3_code, 2, (Option.none : Option FieldType), 1, 1, 2, 0, 0)
def sX1_forgetAll : MS := (⟨"PetriNet$History", "forgetAll", "()V"⟩, prog_3_method_4_code, 1, (Option.none : Option FieldType), 0, 1, 0, 0, 0)
def sX2_init : MS := (⟨"PetriNet$Net", "<init>", "()V"⟩, prog_4_method_1_code, 1, (Option.none : Option FieldType), 0, 2, 1, 6, 266)
def sX2_arc : MS := (⟨"PetriNet$Net", "arc", "(II)I"⟩, prog_4_method_2_code, 2, (some FieldType.int), 2, 99, 0, 0, 0)
def sX2_clear : MS := (⟨"PetriNet$Net", "clear", "(II)V"⟩, prog_4_method_3_code, 4, (Option.none : Option FieldType), 2, 2, 0, 0, 0)
def sX2_copyFrom : MS := (⟨"PetriNet$Net", "copyFrom", "(LPetriNet$Net;)V"⟩, prog_4_method_4_code, 2, (Option.none : Option FieldType), 1, 2, 1, 0, 0)
def sX2_swapInputsAndOutputs : MS := (⟨"PetriNet$Net", "swapInputsAndOutputs", "()V"⟩, prog_4_method_5_code, 2, (Option.none : Option FieldType), 0, 2, 0, 0, 0)
def sX2_change : MS := (⟨"PetriNet$Net", "change", "(II)I"⟩, prog_4_method_6_code, 4, (some FieldType.int), 2, 2, 0, 0, 0)
def sX2_sumOfTokens : MS := (⟨"PetriNet$Net", "sumOfTokens", "()I"⟩, prog_4_method_7_code, 3, (some FieldType.int), 0, 2, 0, 0, 0)
def sX2_placesWithWeight : MS := (⟨"PetriNet$Net", "placesWithWeight", "([II)I"⟩, prog_4_method_8_code, 5, (some FieldType.int), 2, 2, 1, 0, 0)
def sX2_placesOutOfRange : MS := (⟨"PetriNet$Net", "placesOutOfRange", "()I"⟩, prog_4_method_9_code, 3, (some FieldType.int), 0, 2, 0, 0, 0)
def sX2_reasonAt : MS := (⟨"PetriNet$Net", "reasonAt", "(II)I"⟩, prog_4_method_10_code, 5, (some FieldType.int), 2, 2, 0, 0, 0)
def sX2_allows : MS := (⟨"PetriNet$Net", "allows", "(I)Z"⟩, prog_4_method_11_code, 3, (some FieldType.boolean), 1, 2, 1, 0, 0)
def sX2_reasonAgainst : MS := (⟨"PetriNet$Net", "reasonAgainst", "(I)I"⟩, prog_4_method_12_code, 5, (some FieldType.int), 1, 2, 1, 0, 0)
def sX2_firstBlocker : MS := (⟨"PetriNet$Net", "firstBlocker", "(I)I"⟩, prog_4_method_13_code, 4, (some FieldType.int), 1, 2, 2, 0, 0)
def sX2_enabledSet : MS := (⟨"PetriNet$Net", "enabledSet", "()I"⟩, prog_4_method_14_code, 3, (some FieldType.int), 0, 2, 2, 0, 0)
def sX2_fireOnce : MS := (⟨"PetriNet$Net", "fireOnce", "(I)V"⟩, prog_4_method_15_code, 3, (Option.none : Option FieldType), 1, 2, 1, 0, 0)
def sX2_nextToFire : MS := (⟨"PetriNet$Net", "nextToFire", "()I"⟩, prog_4_method_16_code, 3, (some FieldType.int), 0, 2, 2, 0, 0)
def sX2_advance : MS := (⟨"PetriNet$Net", "advance", "(I)I"⟩, prog_4_method_17_code, 4, (some FieldType.int), 1, 2, 3, 0, 0)
def sX2_keepsWeightedTokens : MS := (⟨"PetriNet$Net", "keepsWeightedTokens", "([I)Z"⟩, prog_4_method_18_code, 5, (some FieldType.boolean), 1, 2, 1, 0, 0)
def sX2_keepsMarking : MS := (⟨"PetriNet$Net", "keepsMarking", "([I)Z"⟩, prog_4_method_19_code, 5, (some FieldType.boolean), 1, 2, 1, 0, 0)
def sX2_packMarking : MS := (⟨"PetriNet$Net", "packMarking", "()J"⟩, prog_4_method_20_code, 4, (some FieldType.long), 0, 2, 0, 0, 0)
def sX2_packChange : MS := (⟨"PetriNet$Net", "packChange", "(I)J"⟩, prog_4_method_21_code, 5, (some FieldType.long), 1, 2, 1, 0, 0)
def sX2_unpackTokens : MS := (⟨"PetriNet$Net", "unpackTokens", "(JI)I"⟩, prog_4_method_22_code, 3, (some FieldType.int), 2, 99, 0, 0, 0)
def sX2_unpackMarking : MS := (⟨"PetriNet$Net", "unpackMarking", "(J)V"⟩, prog_4_method_23_code, 4, (Option.none : Option FieldType), 1, 2, 1, 0, 0)
def sX3_init : MS := (⟨"PetriNet$Script", "<init>", "()V"⟩, prog_5_method_1_code, 1, (Option.none : Option FieldType), 0, 3, 2, 8, 774)
def sX3_addFourBytes : MS := (⟨"PetriNet$Script", "addFourBytes", "(I)V"⟩, prog_5_method_2_code, 3, (Option.none : Option FieldType), 1, 3, 0, 0, 0)
def sX3_execute : MS := (⟨"PetriNet$Script", "execute", "()V"⟩, prog_5_method_3_code, 3, (Option.none : Option FieldType), 0, 3, 7, 0, 0)
def sX3_readHeader : MS := (⟨"PetriNet$Script", "readHeader", "()Z"⟩, prog_5_method_4_code, 3, (some FieldType.boolean), 0, 3, 5, 0, 0)
def sX3_readCommand : MS := (⟨"PetriNet$Script", "readCommand", "()Z"⟩, prog_5_method_5_code, 3, (some FieldType.boolean), 0, 3, 6, 0, 0)
def sX3_commandOfToken : MS := (⟨"PetriNet$Script", "commandOfToken", "()I"⟩, prog_5_method_6_code, 1, (some FieldType.int), 0, 3, 5, 0, 0)
def sX3_readTokens : MS := (⟨"PetriNet$Script", "readTokens", "()Z"⟩, prog_5_method_7_code, 3, (some FieldType.boolean), 0, 3, 3, 0, 0)
def sX3_readCapacity : MS := (⟨"PetriNet$Script", "readCapacity", "()Z"⟩, prog_5_method_8_code, 3, (some FieldType.boolean), 0, 3, 3, 0, 0)
def sX3_readArcFromPlace : MS := (⟨"PetriNet$Script", "readArcFromPlace", "([I)Z"⟩, prog_5_method_9_code, 5, (some FieldType.boolean), 1, 3, 3, 0, 0)
def sX3_readArcFromTransition : MS := (⟨"PetriNet$Script", "readArcFromTransition", "([I)Z"⟩, prog_5_method_10_code, 5, (some FieldType.boolean), 1, 3, 3, 0, 0)
def sX3_readFire : MS := (⟨"PetriNet$Script", "readFire", "()Z"⟩, prog_5_method_11_code, 3, (some FieldType.boolean), 0, 3, 3, 0, 0)
def sX3_readSemicolon : MS := (⟨"PetriNet$Script", "readSemicolon", "()Z"⟩, prog_5_method_12_code, 1, (some FieldType.boolean), 0, 3, 2, 0, 0)
def sX3_readNumber : MS := (⟨"PetriNet$Script", "readNumber", "(II)I"⟩, prog_5_method_13_code, 5, (some FieldType.int), 2, 3, 2, 0, 0)
def sX3_fail : MS := (⟨"PetriNet$Script", "fail", "(I)Z"⟩, prog_5_method_14_code, 2, (some FieldType.boolean), 1, 3, 0, 0, 0)
def sX3_isWord : MS := (⟨"PetriNet$Script", "isWord", "(Ljava/lang/String;)Z"⟩, prog_5_method_15_code, 3, (some FieldType.boolean), 1, 3, 4, 0, 0)
def sX3_readToken : MS := (⟨"PetriNet$Script", "readToken", "()V"⟩, prog_5_method_16_code, 1, (Option.none : Option FieldType), 0, 3, 1, 0, 0)
def sX3_isLetter : MS := (⟨"PetriNet$Script", "isLetter", "(I)Z"⟩, prog_5_method_17_code, 1, (some FieldType.boolean), 1, 99, 0, 0, 0)
def sX3_isDigit : MS := (⟨"PetriNet$Script", "isDigit", "(I)Z"⟩, prog_5_method_18_code, 1, (some FieldType.boolean), 1, 99, 0, 0, 0)
def sX4_init : MS := (⟨"PetriNet", "<init>", "()V"⟩, prog_1_method_1_code, 1, (Option.none : Option FieldType), 0, 4, 3, 118, 5836)
def sX4_firstNet : MS := (⟨"PetriNet", "firstNet", "()LPetriNet$Net;"⟩, prog_1_method_2_code, 1, (some (FieldType.object "PetriNet$Net")), 0, 99, 2, 7, 274)
def sX4_append : MS := (⟨"PetriNet", "append", "(IIIII)I"⟩, prog_1_method_3_code, 6, (some FieldType.int), 5, 4, 1, 0, 0)
def sX4_truncateInput : MS := (⟨"PetriNet", "truncateInput", "(I)I"⟩, prog_1_method_4_code, 2, (some FieldType.int), 1, 4, 6, 1, 6)
def sX4_inputLength : MS := (⟨"PetriNet", "inputLength", "()I"⟩, prog_1_method_5_code, 1, (some FieldType.int), 0, 4, 0, 0, 0)
def sX4_runScript : MS := (⟨"PetriNet", "runScript", "()I"⟩, prog_1_method_6_code, 1, (some FieldType.int), 0, 4, 8, 0, 0)
def sX4_setTokens : MS := (⟨"PetriNet", "setTokens", "(II)I"⟩, prog_1_method_7_code, 4, (some FieldType.int), 2, 4, 6, 2, 12)
def sX4_setCapacity : MS := (⟨"PetriNet", "setCapacity", "(II)I"⟩, prog_1_method_8_code, 4, (some FieldType.int), 2, 4, 6, 3, 18)
def sX4_setInput : MS := (⟨"PetriNet", "setInput", "(III)I"⟩, prog_1_method_9_code, 5, (some FieldType.int), 3, 4, 7, 3, 18)
def sX4_setOutput : MS := (⟨"PetriNet", "setOutput", "(III)I"⟩, prog_1_method_10_code, 5, (some FieldType.int), 3, 4, 7, 3, 18)
def sX4_setInhibitor : MS := (⟨"PetriNet", "setInhibitor", "(III)I"⟩, prog_1_method_11_code, 5, (some FieldType.int), 3, 4, 7, 3, 18)
def sX4_fire : MS := (⟨"PetriNet", "fire", "(I)I"⟩, prog_1_method_12_code, 2, (some FieldType.int), 1, 4, 6, 2, 12)
def sX4_run : MS := (⟨"PetriNet", "run", "(I)I"⟩, prog_1_method_13_code, 2, (some FieldType.int), 1, 4, 6, 1, 6)
def sX4_moveToMarking : MS := (⟨"PetriNet", "moveToMarking", "(I)I"⟩, prog_1_method_14_code, 2, (some FieldType.int), 1, 4, 6, 1, 6)
def sX4_reverseNet : MS := (⟨"PetriNet", "reverseNet", "()I"⟩, prog_1_method_15_code, 1, (some FieldType.int), 0, 4, 4, 0, 0)
def sX4_beginChange : MS := (⟨"PetriNet", "beginChange", "()V"⟩, prog_1_method_16_code, 1, (Option.none : Option FieldType), 0, 4, 3, 0, 0)
def sX4_undo : MS := (⟨"PetriNet", "undo", "()I"⟩, prog_1_method_17_code, 1, (some FieldType.int), 0, 4, 3, 0, 0)
def sX4_undoCount : MS := (⟨"PetriNet", "undoCount", "()I"⟩, prog_1_method_18_code, 1, (some FieldType.int), 0, 4, 0, 0, 0)
def sX4_saveSnapshot : MS := (⟨"PetriNet", "saveSnapshot", "()I"⟩, prog_1_method_19_code, 1, (some FieldType.int), 0, 4, 2, 0, 0)
def sX4_restoreSnapshot : MS := (⟨"PetriNet", "restoreSnapshot", "()I"⟩, prog_1_method_20_code, 1, (some FieldType.int), 0, 4, 5, 1, 6)
def sX4_scriptErrorKind : MS := (⟨"PetriNet", "scriptErrorKind", "()I"⟩, prog_1_method_21_code, 1, (some FieldType.int), 0, 4, 0, 0, 0)
def sX4_scriptErrorOffset : MS := (⟨"PetriNet", "scriptErrorOffset", "()I"⟩, prog_1_method_22_code, 1, (some FieldType.int), 0, 4, 0, 0, 0)
def sX4_placeCount : MS := (⟨"PetriNet", "placeCount", "()I"⟩, prog_1_method_23_code, 1, (some FieldType.int), 0, 4, 0, 0, 0)
def sX4_transitionCount : MS := (⟨"PetriNet", "transitionCount", "()I"⟩, prog_1_method_24_code, 1, (some FieldType.int), 0, 4, 0, 0, 0)
def sX4_tokens : MS := (⟨"PetriNet", "tokens", "(I)I"⟩, prog_1_method_25_code, 2, (some FieldType.int), 1, 4, 6, 1, 6)
def sX4_capacity : MS := (⟨"PetriNet", "capacity", "(I)I"⟩, prog_1_method_26_code, 2, (some FieldType.int), 1, 4, 6, 1, 6)
def sX4_effect : MS := (⟨"PetriNet", "effect", "(II)I"⟩, prog_1_method_27_code, 3, (some FieldType.int), 2, 4, 6, 2, 12)
def sX4_totalTokens : MS := (⟨"PetriNet", "totalTokens", "()I"⟩, prog_1_method_28_code, 1, (some FieldType.int), 0, 4, 1, 0, 0)
def sX4_inputPlaces : MS := (⟨"PetriNet", "inputPlaces", "(I)I"⟩, prog_1_method_29_code, 2, (some FieldType.int), 1, 4, 6, 1, 6)
def sX4_outputPlaces : MS := (⟨"PetriNet", "outputPlaces", "(I)I"⟩, prog_1_method_30_code, 2, (some FieldType.int), 1, 4, 6, 1, 6)
def sX4_consumers : MS := (⟨"PetriNet", "consumers", "(I)I"⟩, prog_1_method_31_code, 4, (some FieldType.int), 1, 4, 6, 1, 6)
def sX4_whyNotEnabled : MS := (⟨"PetriNet", "whyNotEnabled", "(I)I"⟩, prog_1_method_32_code, 2, (some FieldType.int), 1, 4, 6, 1, 6)
def sX4_blockingPlace : MS := (⟨"PetriNet", "blockingPlace", "(I)I"⟩, prog_1_method_33_code, 2, (some FieldType.int), 1, 4, 6, 1, 6)
def sX4_enabledTransitions : MS := (⟨"PetriNet", "enabledTransitions", "()I"⟩, prog_1_method_34_code, 1, (some FieldType.int), 0, 4, 3, 0, 0)
def sX4_isDead : MS := (⟨"PetriNet", "isDead", "()Z"⟩, prog_1_method_35_code, 1, (some FieldType.boolean), 0, 4, 3, 0, 0)
def sX4_firings : MS := (⟨"PetriNet", "firings", "(I)I"⟩, prog_1_method_36_code, 2, (some FieldType.int), 1, 4, 6, 1, 6)
def sX4_nextOfRun : MS := (⟨"PetriNet", "nextOfRun", "()I"⟩, prog_1_method_37_code, 1, (some FieldType.int), 0, 4, 3, 0, 0)
def sX4_firesInRow : MS := (⟨"PetriNet", "firesInRow", "(I)I"⟩, prog_1_method_38_code, 3, (some FieldType.int), 1, 4, 6, 1, 6)
def sX4_areInConflict : MS := (⟨"PetriNet", "areInConflict", "(II)Z"⟩, prog_1_method_39_code, 3, (some FieldType.boolean), 2, 4, 6, 2, 12)
def sX4_disables : MS := (⟨"PetriNet", "disables", "(II)Z"⟩, prog_1_method_40_code, 3, (some FieldType.boolean), 2, 4, 2, 0, 0)
def sX4_markingCount : MS := (⟨"PetriNet", "markingCount", "()I"⟩, prog_1_method_41_code, 1, (some FieldType.int), 0, 4, 6, 0, 0)
def sX4_isComplete : MS := (⟨"PetriNet", "isComplete", "()Z"⟩, prog_1_method_42_code, 1, (some FieldType.boolean), 0, 4, 6, 0, 0)
def sX4_markingTokens : MS := (⟨"PetriNet", "markingTokens", "(II)I"⟩, prog_1_method_43_code, 3, (some FieldType.int), 2, 4, 6, 2, 12)
def sX4_markingDistance : MS := (⟨"PetriNet", "markingDistance", "(I)I"⟩, prog_1_method_44_code, 2, (some FieldType.int), 1, 4, 6, 1, 6)
def sX4_markingTransition : MS := (⟨"PetriNet", "markingTransition", "(I)I"⟩, prog_1_method_45_code, 2, (some FieldType.int), 1, 4, 6, 1, 6)
def sX4_firstDeadMarking : MS := (⟨"PetriNet", "firstDeadMarking", "()I"⟩, prog_1_method_46_code, 3, (some FieldType.int), 0, 4, 6, 0, 0)
def sX4_deadMarkings : MS := (⟨"PetriNet", "deadMarkings", "()I"⟩, prog_1_method_47_code, 4, (some FieldType.int), 0, 4, 6, 0, 0)
def sX4_bound : MS := (⟨"PetriNet", "bound", "(I)I"⟩, prog_1_method_48_code, 5, (some FieldType.int), 1, 4, 6, 1, 6)
def sX4_canFire : MS := (⟨"PetriNet", "canFire", "(I)Z"⟩, prog_1_method_49_code, 4, (some FieldType.boolean), 1, 4, 6, 1, 6)
def sX4_returnsHome : MS := (⟨"PetriNet", "returnsHome", "()Z"⟩, prog_1_method_50_code, 3, (some FieldType.boolean), 0, 4, 6, 0, 0)
def sX4_distanceToEmpty : MS := (⟨"PetriNet", "distanceToEmpty", "(I)I"⟩, prog_1_method_51_code, 4, (some FieldType.int), 1, 4, 6, 1, 6)
def sX4_explored : MS := (⟨"PetriNet", "explored", "()LPetriNet$Exploration;"⟩, prog_1_method_52_code, 1, (some (FieldType.object "PetriNet$Exploration")), 0, 4, 5, 0, 0)
def sX4_isPlaceInvariant : MS := (⟨"PetriNet", "isPlaceInvariant", "(I)Z"⟩, prog_1_method_53_code, 2, (some FieldType.boolean), 1, 4, 6, 1, 6)
def sX4_isTransitionInvariant : MS := (⟨"PetriNet", "isTransitionInvariant", "(I)Z"⟩, prog_1_method_54_code, 2, (some FieldType.boolean), 1, 4, 6, 1, 6)
def sX4_weightedTokens : MS := (⟨"PetriNet", "weightedTokens", "(I)I"⟩, prog_1_method_55_code, 4, (some FieldType.int), 1, 4, 6, 1, 6)
def sX4_simpleInvariants : MS := (⟨"PetriNet", "simpleInvariants", "()I"⟩, prog_1_method_56_code, 3, (some FieldType.int), 0, 4, 3, 0, 0)
def sX4_smallestInvariant : MS := (⟨"PetriNet", "smallestInvariant", "()I"⟩, prog_1_method_57_code, 2, (some FieldType.int), 0, 4, 3, 0, 0)
def sX4_coveredPlaces : MS := (⟨"PetriNet", "coveredPlaces", "()I"⟩, prog_1_method_58_code, 3, (some FieldType.int), 0, 4, 3, 0, 0)
def sX4_readVector : MS := (⟨"PetriNet", "readVector", "(II)V"⟩, prog_1_method_59_code, 5, (Option.none : Option FieldType), 2, 4, 5, 1, 6)
def sX4_isSimpleInvariant : MS := (⟨"PetriNet", "isSimpleInvariant", "(I)Z"⟩, prog_1_method_60_code, 3, (some FieldType.boolean), 1, 4, 2, 0, 0)
def sX4_vectorOf : MS := (⟨"PetriNet", "vectorOf", "(I)I"⟩, prog_1_method_61_code, 3, (some FieldType.int), 1, 99, 0, 0, 0)
def sX4_tokensAfterRun : MS := (⟨"PetriNet", "tokensAfterRun", "(II)I"⟩, prog_1_method_62_code, 3, (some FieldType.int), 2, 4, 6, 2, 12)
def sX4_runLength : MS := (⟨"PetriNet", "runLength", "()I"⟩, prog_1_method_63_code, 2, (some FieldType.int), 0, 4, 4, 0, 0)
def sX4_load : MS := (⟨"PetriNet", "load", "()D"⟩, prog_1_method_64_code, 3, (some FieldType.double), 0, 4, 1, 0, 0)
def sX4_enabledShare : MS := (⟨"PetriNet", "enabledShare", "()F"⟩, prog_1_method_65_code, 2, (some FieldType.float), 0, 4, 3, 0, 0)
def sX4_violations : MS := (⟨"PetriNet", "violations", "()I"⟩, prog_1_method_66_code, 4, (some FieldType.int), 0, 4, 6, 0, 0)
def sX4_writeMarking : MS := (⟨"PetriNet", "writeMarking", "()I"⟩, prog_1_method_67_code, 2, (some FieldType.int), 0, 4, 3, 0, 0)
def sX4_reportByte : MS := (⟨"PetriNet", "reportByte", "(I)I"⟩, prog_1_method_68_code, 2, (some FieldType.int), 1, 4, 0, 0, 0)
def sX4_putEnabled : MS := (⟨"PetriNet", "putEnabled", "(I)V"⟩, prog_1_method_69_code, 4, (Option.none : Option FieldType), 1, 4, 2, 0, 0)
def sX4_putNumber : MS := (⟨"PetriNet", "putNumber", "(I)V"⟩, prog_1_method_70_code, 2, (Option.none : Option FieldType), 1, 4, 1, 0, 0)
def sX4_put : MS := (⟨"PetriNet", "put", "(I)V"⟩, prog_1_method_71_code, 2, (Option.none : Option FieldType), 1, 4, 0, 0, 0)
def sX4_checkPlace : MS := (⟨"PetriNet", "checkPlace", "(I)V"⟩, prog_1_method_72_code, 2, (Option.none : Option FieldType), 1, 4, 5, 1, 6)
def sX4_checkTransition : MS := (⟨"PetriNet", "checkTransition", "(I)V"⟩, prog_1_method_73_code, 2, (Option.none : Option FieldType), 1, 4, 5, 1, 6)
def sX4_checkArc : MS := (⟨"PetriNet", "checkArc", "(III)V"⟩, prog_1_method_74_code, 4, (Option.none : Option FieldType), 3, 4, 6, 3, 18)
def sX4_checkMarking : MS := (⟨"PetriNet", "checkMarking", "(II)V"⟩, prog_1_method_75_code, 2, (Option.none : Option FieldType), 2, 99, 5, 1, 6)
def sX4_checkRange : MS := (⟨"PetriNet", "checkRange", "(III)V"⟩, prog_1_method_76_code, 3, (Option.none : Option FieldType), 3, 99, 5, 1, 6)
def sX5_init : MS := (⟨"PetriNetModel", "<init>", "()V"⟩, prog_7_method_1_code, 1, (Option.none : Option FieldType), 0, 5, 4, 40, 8000)
def sX5_thrown : MS := (⟨"PetriNetModel", "thrown", "()I"⟩, prog_7_method_2_code, 1, (some FieldType.int), 0, 5, 0, 0, 0)
def sX5_copy : MS := (⟨"PetriNetModel", "copy", "([I[I)V"⟩, prog_7_method_3_code, 3, (Option.none : Option FieldType), 2, 99, 0, 0, 0)
def sX5_start : MS := (⟨"PetriNetModel", "start", "(II)V"⟩, prog_7_method_4_code, 4, (Option.none : Option FieldType), 2, 5, 0, 0, 0)
def sX5_remember : MS := (⟨"PetriNetModel", "remember", "([I)V"⟩, prog_7_method_5_code, 4, (Option.none : Option FieldType), 1, 5, 1, 0, 0)
def sX5_outside : MS := (⟨"PetriNetModel", "outside", "(IIII)Z"⟩, prog_7_method_6_code, 5, (some FieldType.boolean), 4, 5, 0, 0, 0)
def sX5_raise : MS := (⟨"PetriNetModel", "raise", "(ZI)Z"⟩, prog_7_method_7_code, 3, (some FieldType.boolean), 2, 5, 0, 0, 0)
def sX5_noPlace : MS := (⟨"PetriNetModel", "noPlace", "(I)Z"⟩, prog_7_method_8_code, 2, (some FieldType.boolean), 1, 5, 1, 0, 0)
def sX5_noTransition : MS := (⟨"PetriNetModel", "noTransition", "(I)Z"⟩, prog_7_method_9_code, 2, (some FieldType.boolean), 1, 5, 1, 0, 0)
def sX5_ones : MS := (⟨"PetriNetModel", "ones", "(I)I"⟩, prog_7_method_10_code, 3, (some FieldType.int), 1, 99, 0, 0, 0)
def sX5_arc : MS := (⟨"PetriNetModel", "arc", "(III)I"⟩, prog_7_method_11_code, 4, (some FieldType.int), 3, 5, 0, 0, 0)
def sX5_put : MS := (⟨"PetriNetModel", "put", "(IIII)V"⟩, prog_7_method_12_code, 5, (Option.none : Option FieldType), 4, 5, 0, 0, 0)
def sX5_tokensOf : MS := (⟨"PetriNetModel", "tokensOf", "(I)I"⟩, prog_7_method_13_code, 2, (some FieldType.int), 1, 5, 0, 0, 0)
def sX5_capacityOf : MS := (⟨"PetriNetModel", "capacityOf", "(I)I"⟩, prog_7_method_14_code, 2, (some FieldType.int), 1, 5, 0, 0, 0)
def sX5_effectOf : MS := (⟨"PetriNetModel", "effectOf", "(II)I"⟩, prog_7_method_15_code, 3, (some FieldType.int), 2, 5, 1, 0, 0)
def sX5_applies : MS := (⟨"PetriNetModel", "applies", "(III)Z"⟩, prog_7_method_16_code, 6, (some FieldType.boolean), 3, 5, 2, 0, 0)
def sX5_firstPlace : MS := (⟨"PetriNetModel", "firstPlace", "(II)I"⟩, prog_7_method_17_code, 4, (some FieldType.int), 2, 5, 3, 0, 0)
def sX5_reasonOf : MS := (⟨"PetriNetModel", "reasonOf", "(I)I"⟩, prog_7_method_18_code, 3, (some FieldType.int), 1, 5, 4, 0, 0)
def sX5_enabled : MS := (⟨"PetriNetModel", "enabled", "(I)Z"⟩, prog_7_method_19_code, 2, (some FieldType.boolean), 1, 5, 5, 0, 0)
def sX5_enabledSet : MS := (⟨"PetriNetModel", "enabledSet", "()I"⟩, prog_7_method_20_code, 3, (some FieldType.int), 0, 5, 6, 0, 0)
def sX5_move : MS := (⟨"PetriNetModel", "move", "(I)V"⟩, prog_7_method_21_code, 3, (Option.none : Option FieldType), 1, 5, 2, 0, 0)
def sX5_fireIt : MS := (⟨"PetriNetModel", "fireIt", "(I)V"⟩, prog_7_method_22_code, 2, (Option.none : Option FieldType), 1, 5, 3, 0, 0)
def sX5_allTokens : MS := (⟨"PetriNetModel", "allTokens", "()I"⟩, prog_7_method_23_code, 3, (some FieldType.int), 0, 5, 1, 0, 0)
def sX5_nextFired : MS := (⟨"PetriNetModel", "nextFired", "()I"⟩, prog_7_method_24_code, 3, (some FieldType.int), 0, 5, 6, 0, 0)
def sX5_runIt : MS := (⟨"PetriNetModel", "runIt", "(I)I"⟩, prog_7_method_25_code, 4, (some FieldType.int), 1, 5, 7, 0, 0)
def sX5_note : MS := (⟨"PetriNetModel", "note", "(I)V"⟩, prog_7_method_26_code, 3, (Option.none : Option FieldType), 1, 5, 0, 0, 0)
def sX5_take : MS := (⟨"PetriNetModel", "take", "(I)V"⟩, prog_7_method_27_code, 3, (Option.none : Option FieldType), 1, 5, 0, 0, 0)
def sX5_isMarking : MS := (⟨"PetriNetModel", "isMarking", "(I)Z"⟩, prog_7_method_28_code, 3, (some FieldType.boolean), 1, 5, 0, 0, 0)
def sX5_known : MS := (⟨"PetriNetModel", "known", "()I"⟩, prog_7_method_29_code, 2, (some FieldType.int), 0, 5, 1, 0, 0)
def sX5_follow : MS := (⟨"PetriNetModel", "follow", "(II)V"⟩, prog_7_method_30_code, 3, (Option.none : Option FieldType), 2, 5, 6, 0, 0)
def sX5_explore : MS := (⟨"PetriNetModel", "explore", "()V"⟩, prog_7_method_31_code, 3, (Option.none : Option FieldType), 0, 5, 7, 0, 0)
def sX5_setTokens : MS := (⟨"PetriNetModel", "setTokens", "(II)I"⟩, prog_7_method_32_code, 4, (some FieldType.int), 2, 5, 2, 0, 0)
def sX5_setCapacity : MS := (⟨"PetriNetModel", "setCapacity", "(II)I"⟩, prog_7_method_33_code, 4, (some FieldType.int), 2, 5, 2, 0, 0)
def sX5_setArc : MS := (⟨"PetriNetModel", "setArc", "(IIII)I"⟩, prog_7_method_34_code, 6, (some FieldType.int), 4, 5, 2, 0, 0)
def sX5_setInput : MS := (⟨"PetriNetModel", "setInput", "(III)I"⟩, prog_7_method_35_code, 4, (some FieldType.int), 3, 5, 3, 0, 0)
def sX5_setOutput : MS := (⟨"PetriNetModel", "setOutput", "(III)I"⟩, prog_7_method_36_code, 4, (some FieldType.int), 3, 5, 3, 0, 0)
def sX5_setInhibitor : MS := (⟨"PetriNetModel", "setInhibitor", "(III)I"⟩, prog_7_method_37_code, 4, (some FieldType.int), 3, 5, 3, 0, 0)
def sX5_fire : MS := (⟨"PetriNetModel", "fire", "(I)I"⟩, prog_7_method_38_code, 2, (some FieldType.int), 1, 5, 6, 0, 0)
def sX5_run : MS := (⟨"PetriNetModel", "run", "(I)I"⟩, prog_7_method_39_code, 2, (some FieldType.int), 1, 5, 8, 0, 0)
def sX5_noMarking : MS := (⟨"PetriNetModel", "noMarking", "(II)Z"⟩, prog_7_method_40_code, 3, (some FieldType.boolean), 2, 5, 8, 0, 0)
def sX5_moveToMarking : MS := (⟨"PetriNetModel", "moveToMarking", "(I)I"⟩, prog_7_method_41_code, 2, (some FieldType.int), 1, 5, 9, 0, 0)
def sX5_reverseNet : MS := (⟨"PetriNetModel", "reverseNet", "()I"⟩, prog_7_method_42_code, 3, (some FieldType.int), 0, 5, 7, 0, 0)
def sX5_undo : MS := (⟨"PetriNetModel", "undo", "()I"⟩, prog_7_method_43_code, 1, (some FieldType.int), 0, 5, 1, 0, 0)
def sX5_undoCount : MS := (⟨"PetriNetModel", "undoCount", "()I"⟩, prog_7_method_44_code, 1, (some FieldType.int), 0, 5, 0, 0, 0)
def sX5_saveSnapshot : MS := (⟨"PetriNetModel", "saveSnapshot", "()I"⟩, prog_7_method_45_code, 1, (some FieldType.int), 0, 5, 2, 0, 0)
def sX5_restoreSnapshot : MS := (⟨"PetriNetModel", "restoreSnapshot", "()I"⟩, prog_7_method_46_code, 1, (some FieldType.int), 0, 5, 2, 0, 0)
def sX5_letterAt : MS := (⟨"PetriNetModel", "letterAt", "(I)Z"⟩, prog_7_method_47_code, 2, (some FieldType.boolean), 1, 5, 0, 0, 0)
def sX5_digitAt : MS := (⟨"PetriNetModel", "digitAt", "(I)Z"⟩, prog_7_method_48_code, 2, (some FieldType.boolean), 1, 5, 0, 0, 0)
def sX5_scan : MS := (⟨"PetriNetModel", "scan", "()V"⟩, prog_7_method_49_code, 1, (Option.none : Option FieldType), 0, 5, 1, 0, 0)
def sX5_isWord : MS := (⟨"PetriNetModel", "isWord", "(Ljava/lang/String;)Z"⟩, prog_7_method_50_code, 4, (some FieldType.boolean), 1, 5, 4, 0, 0)
def sX5_fail : MS := (⟨"PetriNetModel", "fail", "(I)V"⟩, prog_7_method_51_code, 2, (Option.none : Option FieldType), 1, 5, 0, 0, 0)
def sX5_good : MS := (⟨"PetriNetModel", "good", "()Z"⟩, prog_7_method_52_code, 1, (some FieldType.boolean), 0, 5, 0, 0, 0)
def sX5_advance : MS := (⟨"PetriNetModel", "advance", "()V"⟩, prog_7_method_53_code, 1, (Option.none : Option FieldType), 0, 5, 2, 0, 0)
def sX5_numberHere : MS := (⟨"PetriNetModel", "numberHere", "(II)I"⟩, prog_7_method_54_code, 3, (some FieldType.int), 2, 5, 1, 0, 0)
def sX5_number : MS := (⟨"PetriNetModel", "number", "(II)I"⟩, prog_7_method_55_code, 4, (some FieldType.int), 2, 5, 3, 0, 0)
def sX5_aPlace : MS := (⟨"PetriNetModel", "aPlace", "()I"⟩, prog_7_method_56_code, 1, (some FieldType.int), 0, 5, 4, 0, 0)
def sX5_aTransition : MS := (⟨"PetriNetModel", "aTransition", "()I"⟩, prog_7_method_57_code, 1, (some FieldType.int), 0, 5, 4, 0, 0)
def sX5_ends : MS := (⟨"PetriNetModel", "ends", "()Z"⟩, prog_7_method_58_code, 1, (some FieldType.boolean), 0, 5, 1, 0, 0)
def sX5_runScript : MS := (⟨"PetriNetModel", "runScript", "()I"⟩, prog_7_method_59_code, 3, (some FieldType.int), 0, 5, 10, 0, 0)
def sX5_command : MS := (⟨"PetriNetModel", "command", "()V"⟩, prog_7_method_60_code, 3, (Option.none : Option FieldType), 0, 5, 9, 0, 0)
def sX5_placedArc : MS := (⟨"PetriNetModel", "placedArc", "(I)V"⟩, prog_7_method_61_code, 4, (Option.none : Option FieldType), 1, 5, 5, 0, 0)
def sX5_arcCommand : MS := (⟨"PetriNetModel", "arcCommand", "(III)V"⟩, prog_7_method_62_code, 5, (Option.none : Option FieldType), 3, 5, 4, 0, 0)
def sX5_firingCommand : MS := (⟨"PetriNetModel", "firingCommand", "()V"⟩, prog_7_method_63_code, 3, (Option.none : Option FieldType), 0, 5, 8, 0, 0)
def sX5_type : MS := (⟨"PetriNetModel", "type", "(I)V"⟩, prog_7_method_64_code, 3, (Option.none : Option FieldType), 1, 5, 0, 0, 0)
def sX5_append : MS := (⟨"PetriNetModel", "append", "(IIIII)I"⟩, prog_7_method_65_code, 6, (some FieldType.int), 5, 5, 1, 0, 0)
def sX5_truncateInput : MS := (⟨"PetriNetModel", "truncateInput", "(I)I"⟩, prog_7_method_66_code, 2, (some FieldType.int), 1, 5, 1, 0, 0)
def sX5_inputLength : MS := (⟨"PetriNetModel", "inputLength", "()I"⟩, prog_7_method_67_code, 1, (some FieldType.int), 0, 5, 0, 0, 0)
def sX5_scriptErrorKind : MS := (⟨"PetriNetModel", "scriptErrorKind", "()I"⟩, prog_7_method_68_code, 1, (some FieldType.int), 0, 5, 0, 0, 0)
def sX5_scriptErrorOffset : MS := (⟨"PetriNetModel", "scriptErrorOffset", "()I"⟩, prog_7_method_69_code, 1, (some FieldType.int), 0, 5, 0, 0, 0)
def sX5_placeCount : MS := (⟨"PetriNetModel", "placeCount", "()I"⟩, prog_7_method_70_code, 1, (some FieldType.int), 0, 5, 0, 0, 0)
def sX5_transitionCount : MS := (⟨"PetriNetModel", "transitionCount", "()I"⟩, prog_7_method_71_code, 1, (some FieldType.int), 0, 5, 0, 0, 0)
def sX5_tokens : MS := (⟨"PetriNetModel", "tokens", "(I)I"⟩, prog_7_method_72_code, 2, (some FieldType.int), 1, 5, 2, 0, 0)
def sX5_capacity : MS := (⟨"PetriNetModel", "capacity", "(I)I"⟩, prog_7_method_73_code, 2, (some FieldType.int), 1, 5, 2, 0, 0)
def sX5_effect : MS := (⟨"PetriNetModel", "effect", "(II)I"⟩, prog_7_method_74_code, 3, (some FieldType.int), 2, 5, 2, 0, 0)
def sX5_totalTokens : MS := (⟨"PetriNetModel", "totalTokens", "()I"⟩, prog_7_method_75_code, 1, (some FieldType.int), 0, 5, 2, 0, 0)
def sX5_placesOf : MS := (⟨"PetriNetModel", "placesOf", "(II)I"⟩, prog_7_method_76_code, 5, (some FieldType.int), 2, 5, 1, 0, 0)
def sX5_inputPlaces : MS := (⟨"PetriNetModel", "inputPlaces", "(I)I"⟩, prog_7_method_77_code, 2, (some FieldType.int), 1, 5, 2, 0, 0)
def sX5_outputPlaces : MS := (⟨"PetriNetModel", "outputPlaces", "(I)I"⟩, prog_7_method_78_code, 2, (some FieldType.int), 1, 5, 2, 0, 0)
def sX5_consumers : MS := (⟨"PetriNetModel", "consumers", "(I)I"⟩, prog_7_method_79_code, 4, (some FieldType.int), 1, 5, 2, 0, 0)
def sX5_whyNotEnabled : MS := (⟨"PetriNetModel", "whyNotEnabled", "(I)I"⟩, prog_7_method_80_code, 2, (some FieldType.int), 1, 5, 5, 0, 0)
def sX5_blockingPlace : MS := (⟨"PetriNetModel", "blockingPlace", "(I)I"⟩, prog_7_method_81_code, 2, (some FieldType.int), 1, 5, 6, 0, 0)
def sX5_enabledTransitions : MS := (⟨"PetriNetModel", "enabledTransitions", "()I"⟩, prog_7_method_82_code, 1, (some FieldType.int), 0, 5, 7, 0, 0)
def sX5_isDead : MS := (⟨"PetriNetModel", "isDead", "()Z"⟩, prog_7_method_83_code, 1, (some FieldType.boolean), 0, 5, 7, 0, 0)
def sX5_firings : MS := (⟨"PetriNetModel", "firings", "(I)I"⟩, prog_7_method_84_code, 2, (some FieldType.int), 1, 5, 2, 0, 0)
def sX5_nextOfRun : MS := (⟨"PetriNetModel", "nextOfRun", "()I"⟩, prog_7_method_85_code, 1, (some FieldType.int), 0, 5, 7, 0, 0)
def sX5_firesInRow : MS := (⟨"PetriNetModel", "firesInRow", "(I)I"⟩, prog_7_method_86_code, 3, (some FieldType.int), 1, 5, 6, 0, 0)
def sX5_disables : MS := (⟨"PetriNetModel", "disables", "(II)Z"⟩, prog_7_method_87_code, 4, (some FieldType.boolean), 2, 5, 6, 0, 0)
def sX5_areInConflict : MS := (⟨"PetriNetModel", "areInConflict", "(II)Z"⟩, prog_7_method_88_code, 3, (some FieldType.boolean), 2, 5, 7, 0, 0)
def sX5_markingCount : MS := (⟨"PetriNetModel", "markingCount", "()I"⟩, prog_7_method_89_code, 1, (some FieldType.int), 0, 5, 8, 0, 0)
def sX5_isComplete : MS := (⟨"PetriNetModel", "isComplete", "()Z"⟩, prog_7_method_90_code, 1, (some FieldType.boolean), 0, 5, 8, 0, 0)
def sX5_markingTokens : MS := (⟨"PetriNetModel", "markingTokens", "(II)I"⟩, prog_7_method_91_code, 3, (some FieldType.int), 2, 5, 9, 0, 0)
def sX5_markingDistance : MS := (⟨"PetriNetModel", "markingDistance", "(I)I"⟩, prog_7_method_92_code, 2, (some FieldType.int), 1, 5, 9, 0, 0)
def sX5_markingTransition : MS := (⟨"PetriNetModel", "markingTransition", "(I)I"⟩, prog_7_method_93_code, 2, (some FieldType.int), 1, 5, 9, 0, 0)
def sX5_deadAt : MS := (⟨"PetriNetModel", "deadAt", "(I)Z"⟩, prog_7_method_94_code, 3, (some FieldType.boolean), 1, 5, 7, 0, 0)
def sX5_firstDeadMarking : MS := (⟨"PetriNetModel", "firstDeadMarking", "()I"⟩, prog_7_method_95_code, 2, (some FieldType.int), 0, 5, 8, 0, 0)
def sX5_deadMarkings : MS := (⟨"PetriNetModel", "deadMarkings", "()I"⟩, prog_7_method_96_code, 3, (some FieldType.int), 0, 5, 8, 0, 0)
def sX5_bound : MS := (⟨"PetriNetModel", "bound", "(I)I"⟩, prog_7_method_97_code, 5, (some FieldType.int), 1, 5, 8, 0, 0)
def sX5_canFire : MS := (⟨"PetriNetModel", "canFire", "(I)Z"⟩, prog_7_method_98_code, 4, (some FieldType.boolean), 1, 5, 8, 0, 0)
def sX5_leadsHome : MS := (⟨"PetriNetModel", "leadsHome", "(I)Z"⟩, prog_7_method_99_code, 4, (some FieldType.boolean), 1, 5, 6, 0, 0)
def sX5_returnsHome : MS := (⟨"PetriNetModel", "returnsHome", "()Z"⟩, prog_7_method_100_code, 3, (some FieldType.boolean), 0, 5, 8, 0, 0)
def sX5_distanceToEmpty : MS := (⟨"PetriNetModel", "distanceToEmpty", "(I)I"⟩, prog_7_method_101_code, 3, (some FieldType.int), 1, 5, 8, 0, 0)
def sX5_digit : MS := (⟨"PetriNetModel", "digit", "(II)I"⟩, prog_7_method_102_code, 4, (some FieldType.int), 2, 99, 0, 0, 0)
def sX5_noVector : MS := (⟨"PetriNetModel", "noVector", "(II)Z"⟩, prog_7_method_103_code, 5, (some FieldType.boolean), 2, 5, 1, 0, 0)
def sX5_keeps : MS := (⟨"PetriNetModel", "keeps", "(I)Z"⟩, prog_7_method_104_code, 5, (some FieldType.boolean), 1, 5, 2, 0, 0)
def sX5_isPlaceInvariant : MS := (⟨"PetriNetModel", "isPlaceInvariant", "(I)Z"⟩, prog_7_method_105_code, 2, (some FieldType.boolean), 1, 5, 3, 0, 0)
def sX5_isTransitionInvariant : MS := (⟨"PetriNetModel", "isTransitionInvariant", "(I)Z"⟩, prog_7_method_106_code, 5, (some FieldType.boolean), 1, 5, 2, 0, 0)
def sX5_weighted : MS := (⟨"PetriNetModel", "weighted", "(I)I"⟩, prog_7_method_107_code, 4, (some FieldType.int), 1, 5, 1, 0, 0)
def sX5_weightedTokens : MS := (⟨"PetriNetModel", "weightedTokens", "(I)I"⟩, prog_7_method_108_code, 2, (some FieldType.int), 1, 5, 2, 0, 0)
def sX5_vectorOf : MS := (⟨"PetriNetModel", "vectorOf", "(I)I"⟩, prog_7_method_109_code, 4, (some FieldType.int), 1, 5, 0, 0, 0)
def sX5_sets : MS := (⟨"PetriNetModel", "sets", "()I"⟩, prog_7_method_110_code, 1, (some FieldType.int), 0, 5, 0, 0, 0)
def sX5_simpleInvariants : MS := (⟨"PetriNetModel", "simpleInvariants", "()I"⟩, prog_7_method_111_code, 3, (some FieldType.int), 0, 5, 3, 0, 0)
def sX5_smallestInvariant : MS := (⟨"PetriNetModel", "smallestInvariant", "()I"⟩, prog_7_method_112_code, 2, (some FieldType.int), 0, 5, 3, 0, 0)
def sX5_coveredPlaces : MS := (⟨"PetriNetModel", "coveredPlaces", "()I"⟩, prog_7_method_113_code, 3, (some FieldType.int), 0, 5, 3, 0, 0)
def sX5_tokensAfterRun : MS := (⟨"PetriNetModel", "tokensAfterRun", "(II)I"⟩, prog_7_method_114_code, 5, (some FieldType.int), 2, 5, 8, 0, 0)
def sX5_runLength : MS := (⟨"PetriNetModel", "runLength", "()I"⟩, prog_7_method_115_code, 3, (some FieldType.int), 0, 5, 8, 0, 0)
def sX5_load : MS := (⟨"PetriNetModel", "load", "()D"⟩, prog_7_method_116_code, 3, (some FieldType.double), 0, 5, 2, 0, 0)
def sX5_enabledShare : MS := (⟨"PetriNetModel", "enabledShare", "()F"⟩, prog_7_method_117_code, 1, (some FieldType.float), 0, 5, 7, 0, 0)
def sX5_staysSame : MS := (⟨"PetriNetModel", "staysSame", "(I)Z"⟩, prog_7_method_118_code, 5, (some FieldType.boolean), 1, 5, 2, 0, 0)
def sX5_violations : MS := (⟨"PetriNetModel", "violations", "()I"⟩, prog_7_method_119_code, 4, (some FieldType.int), 0, 5, 8, 0, 0)
def sX5_say : MS := (⟨"PetriNetModel", "say", "(I)V"⟩, prog_7_method_120_code, 2, (Option.none : Option FieldType), 1, 5, 0, 0, 0)
def sX5_sayNumber : MS := (⟨"PetriNetModel", "sayNumber", "(I)V"⟩, prog_7_method_121_code, 2, (Option.none : Option FieldType), 1, 5, 1, 0, 0)
def sX5_sayEnabled : MS := (⟨"PetriNetModel", "sayEnabled", "(I)V"⟩, prog_7_method_122_code, 4, (Option.none : Option FieldType), 1, 5, 2, 0, 0)
def sX5_writeMarking : MS := (⟨"PetriNetModel", "writeMarking", "()I"⟩, prog_7_method_123_code, 2, (some FieldType.int), 0, 5, 7, 0, 0)
def sX5_reportByte : MS := (⟨"PetriNetModel", "reportByte", "(I)I"⟩, prog_7_method_124_code, 2, (some FieldType.int), 1, 5, 0, 0, 0)
def sJ0_length_8abf5 : MS := (⟨"java/lang/String", "length", "()I"⟩, prog_18_method_54_code, 1, (some FieldType.int), 0, 8, 1, 0, 0)
def sJ0_coder_7d493 : MS := (⟨"java/lang/String", "coder", "()B"⟩, prog_18_method_152_code, 1, (some FieldType.byte), 0, 8, 0, 0, 0)
def sJ0_charAt_5068e : MS := (⟨"java/lang/String", "charAt", "(I)C"⟩, prog_18_method_56_code, 2, (some FieldType.char), 1, 8, 3, 0, 0)
def sJ0_isLatin1_aae02 : MS := (⟨"java/lang/String", "isLatin1", "()Z"⟩, prog_18_method_154_code, 1, (some FieldType.boolean), 0, 8, 0, 0, 0)
def sJ1_charAt_3b067 : MS := (⟨"java/lang/StringLatin1", "charAt", "([BI)C"⟩, prog_19_method_2_code, 2, (some FieldType.char), 2, 99, 2, 0, 0)
def sJ0_checkIndex_df160 : MS := (⟨"java/lang/String", "checkIndex", "(II)V"⟩, prog_18_method_155_code, 2, (Option.none : Option FieldType), 2, 99, 1, 0, 0)
def sJ3_checkIndex_8e157 : MS := (⟨"jdk/internal/util/Preconditions", "checkIndex", "(IILjava/util/function/BiFunction;)I"⟩, prog_26_method_11_code, 3, (some FieldType.int), 3, 99, 0, 0, 0)
def sJ6_bitCount_0f7a4 : MS := (⟨"java/lang/Integer", "bitCount", "(I)I"⟩, prog_15_method_49_code, 1, (some FieldType.int), 1, 99, 0, 0, 0)
/-- the class that the constant pool of own class o is of -/
def oR : Nat → String := fun o => match o with
  | 0 => "PetriNet$Exploration"
  | 1 => "PetriNet$History"
  | 2 => "PetriNet$Net"
  | 3 => "PetriNet$Script"
  | 4 => "PetriNet"
  | 5 => "PetriNetModel"
  | 6 => "PetriNetLaw"
  | 7 => "java/lang/Integer"
  | 8 => "java/lang/String"
  | 9 => "java/lang/StringLatin1"
  | _ => "jdk/internal/util/Preconditions"
/-- a method's own words are among WS -/
def okM (q : MS) : Prop := Cond.code q.1 q.2.1 q.2.2.1 q.2.2.2.1 ∈ WS ∧ Cond.initialized q.1.cls ∈ WS ∧ plainName q.1.cls = true ∧ (q.1.cls ≠ "java/lang/invoke/MethodHandle" ∧ q.1.cls ≠ "java/lang/invoke/VarHandle") ∧ (parseMethodDescriptor q.1.desc).map (fun d => d.parameters.length) = some q.2.2.2.2.1 ∧ (if q.2.2.2.2.2.1 = 99 then Cond.static q.1 ∈ WS else oR q.2.2.2.2.2.1 = q.1.cls ∧  Cond.instanceMethod q.1 ∈ WS ∧ (q.1.name = "<init>" ∨ Cond.selects q.1.cls q.1 q.1 ∈ WS))
set_option maxRecDepth 100000 in
theorem okX0_init : okM sX0_init := ⟨ws_of 158 rfl rfl, ws_of 5 (by decide +kernel) (by decide +kernel), by decide +kernel, ⟨by decide +kernel, by decide +kernel⟩, by decide +kernel, ⟨rfl, ws_of 157 (by decide +kernel) (by decide +kernel), Or.inl rfl⟩⟩
set_option maxRecDepth 100000 in
theorem okX0_explore : okM sX0_explore := ⟨ws_of 490 rfl rfl, ws_of 5 (by decide +kernel) (by decide +kernel), by decide +kernel, ⟨by decide +kernel, by decide +kernel⟩, by decide +kernel, ⟨rfl, ws_of 488 (by decide +kernel) (by decide +kernel), Or.inr (ws_of 489 (by decide +kernel) (by decide +kernel))⟩⟩
set_option maxRecDepth 100000 in
theorem okX0_start : okM sX0_start := ⟨ws_of 494 rfl rfl, ws_of 5 (by decide +kernel) (by decide +kernel), by decide +kernel, ⟨by decide +kernel, by decide +kernel⟩, by decide +kernel, ⟨rfl, ws_of 493 (by decide +kernel) (by decide +kernel), Or.inr (ws_sel 15 (by decide +kernel) (by decide +kernel))⟩⟩
set_option maxRecDepth 100000 in
theorem okX0_visit : okM sX0_visit := ⟨ws_of 507 rfl rfl, ws_of 5 (by decide +kernel) (by decide +kernel), by decide +kernel, ⟨by decide +kernel, by decide +kernel⟩, by decide +kernel, ⟨rfl, ws_of 506 (by decide +kernel) (by decide +kernel), Or.inr (ws_sel 16 (by decide +kernel) (by decide +kernel))⟩⟩
set_option maxRecDepth 100000 in
theorem okX0_slotOf : okM sX0_slotOf := ⟨ws_of 511 rfl rfl, ws_of 5 (by decide +kernel) (by decide +kernel), by decide +kernel, ⟨by decide +kernel, by decide +kernel⟩, by decide +kernel, ⟨rfl, ws_of 510 (by decide +kernel) (by decide +kernel), Or.inr (ws_sel 17 (by decide +kernel) (by decide +kernel))⟩⟩
set_option maxRecDepth 100000 in
theorem okX0_tokensIn : okM sX0_tokensIn := ⟨ws_of 600 rfl rfl, ws_of 5 (by decide +kernel) (by decide +kernel), by decide +kernel, ⟨by decide +kernel, by decide +kernel⟩, by decide +kernel, ⟨rfl, ws_of 598 (by decide +kernel) (by decide +kernel), Or.inr (ws_of 599 (by decide +kernel) (by decide +kernel))⟩⟩
set_option maxRecDepth 100000 in
theorem okX0_isEnabledIn : okM sX0_isEnabledIn := ⟨ws_of 524 rfl rfl, ws_of 5 (by decide +kernel) (by decide +kernel), by decide +kernel, ⟨by decide +kernel, by decide +kernel⟩, by decide +kernel, ⟨rfl, ws_of 522 (by decide +kernel) (by decide +kernel), Or.inr (ws_of 523 (by decide +kernel) (by decide +kernel))⟩⟩
set_option maxRecDepth 100000 in
theorem okX0_leadsHome : okM sX0_leadsHome := ⟨ws_of 544 rfl rfl, ws_of 5 (by decide +kernel) (by decide +kernel), by decide +kernel, ⟨by decide +kernel, by decide +kernel⟩, by decide +kernel, ⟨rfl, ws_of 542 (by decide +kernel) (by decide +kernel), Or.inr (ws_of 543 (by decide +kernel) (by decide +kernel))⟩⟩
set_option maxRecDepth 100000 in
theorem okX0_keepsTokensOf : okM sX0_keepsTokensOf := ⟨ws_of 592 rfl rfl, ws_of 5 (by decide +kernel) (by decide +kernel), by decide +kernel, ⟨by decide +kernel, by decide +kernel⟩, by decide +kernel, ⟨rfl, ws_of 590 (by decide +kernel) (by decide +kernel), Or.inr (ws_of 591 (by decide +kernel) (by decide +kernel))⟩⟩
set_option maxRecDepth 100000 in
theorem okX0_tokensOf : okM sX0_tokensOf := ⟨ws_of 596 rfl rfl, ws_of 5 (by decide +kernel) (by decide +kernel), by decide +kernel, ⟨by decide +kernel, by decide +kernel⟩, by decide +kernel, ⟨rfl, ws_of 595 (by decide +kernel) (by decide +kernel), Or.inr (ws_sel 19 (by decide +kernel) (by decide +kernel))⟩⟩
set_option maxRecDepth 100000 in
theorem okX1_init : okM sX1_init := ⟨ws_of 100 rfl rfl, ws_of 3 (by decide +kernel) (by decide +kernel), by decide +kernel, ⟨by decide +kernel, by decide +kernel⟩, by decide +kernel, ⟨rfl, ws_of 99 (by decide +kernel) (by decide +kernel), Or.inl rfl⟩⟩
set_option maxRecDepth 100000 in
theorem okX1_push : okM sX1_push := ⟨ws_of 396 rfl rfl, ws_of 3 (by decide +kernel) (by decide +kernel), by decide +kernel, ⟨by decide +kernel, by decide +kernel⟩, by decide +kernel, ⟨rfl, ws_of 394 (by decide +kernel) (by decide +kernel), Or.inr (ws_of 395 (by decide +kernel) (by decide +kernel))⟩⟩
set_option maxRecDepth 100000 in
theorem okX1_popInto : okM sX1_popInto := ⟨ws_of 437 rfl rfl, ws_of 3 (by decide +kernel) (by decide +kernel), by decide +kernel, ⟨by decide +kernel, by decide +kernel⟩, by decide +kernel, ⟨rfl, ws_of 435 (by decide +kernel) (by decide +kernel), Or.inr (ws_of 436 (by decide +kernel) (by decide +kernel))⟩⟩
set_option maxRecDepth 100000 in
theorem okX1_forgetAll : okM sX1_forgetAll := ⟨ws_of 838 rfl rfl, ws_of 3 (by decide +kernel) (by decide +kernel), by decide +kernel, ⟨by decide +kernel, by decide +kernel⟩, by decide +kernel, ⟨rfl, ws_of 836 (by decide +kernel) (by decide +kernel), Or.inr (ws_of 837 (by decide +kernel) (by decide +kernel))⟩⟩
set_option maxRecDepth 100000 in
theorem okX2_init : okM sX2_init := ⟨ws_of 36 rfl rfl, ws_of 2 (by decide +kernel) (by decide +kernel), by decide +kernel, ⟨by decide +kernel, by decide +kernel⟩, by decide +kernel, ⟨rfl, ws_of 35 (by decide +kernel) (by decide +kernel), Or.inl rfl⟩⟩
set_option maxRecDepth 100000 in
theorem okX2_arc : okM sX2_arc := ⟨ws_of 87 rfl rfl, ws_of 2 (by decide +kernel) (by decide +kernel), by decide +kernel, ⟨by decide +kernel, by decide +kernel⟩, by decide +kernel, ws_of 86 (by decide +kernel) (by decide +kernel)⟩
set_option maxRecDepth 100000 in
theorem okX2_clear : okM sX2_clear := ⟨ws_of 84 rfl rfl, ws_of 2 (by decide +kernel) (by decide +kernel), by decide +kernel, ⟨by decide +kernel, by decide +kernel⟩, by decide +kernel, ⟨rfl, ws_of 82 (by decide +kernel) (by decide +kernel), Or.inr (ws_of 83 (by decide +kernel) (by decide +kernel))⟩⟩
set_option maxRecDepth 100000 in
theorem okX2_copyFrom : okM sX2_copyFrom := ⟨ws_of 400 rfl rfl, ws_of 2 (by decide +kernel) (by decide +kernel), by decide +kernel, ⟨by decide +kernel, by decide +kernel⟩, by decide +kernel, ⟨rfl, ws_of 398 (by decide +kernel) (by decide +kernel), Or.inr (ws_of 399 (by decide +kernel) (by decide +kernel))⟩⟩
set_option maxRecDepth 100000 in
theorem okX2_swapInputsAndOutputs : okM sX2_swapInputsAndOutputs := ⟨ws_of 419 rfl rfl, ws_of 2 (by decide +kernel) (by decide +kernel), by decide +kernel, ⟨by decide +kernel, by decide +kernel⟩, by decide +kernel, ⟨rfl, ws_of 417 (by decide +kernel) (by decide +kernel), Or.inr (ws_of 418 (by decide +kernel) (by decide +kernel))⟩⟩
set_option maxRecDepth 100000 in
theorem okX2_change : okM sX2_change := ⟨ws_of 95 rfl rfl, ws_of 2 (by decide +kernel) (by decide +kernel), by decide +kernel, ⟨by decide +kernel, by decide +kernel⟩, by decide +kernel, ⟨rfl, ws_of 93 (by decide +kernel) (by decide +kernel), Or.inr (ws_of 94 (by decide +kernel) (by decide +kernel))⟩⟩
set_option maxRecDepth 100000 in
theorem okX2_sumOfTokens : okM sX2_sumOfTokens := ⟨ws_of 411 rfl rfl, ws_of 2 (by decide +kernel) (by decide +kernel), by decide +kernel, ⟨by decide +kernel, by decide +kernel⟩, by decide +kernel, ⟨rfl, ws_of 409 (by decide +kernel) (by decide +kernel), Or.inr (ws_of 410 (by decide +kernel) (by decide +kernel))⟩⟩
set_option maxRecDepth 100000 in
theorem okX2_placesWithWeight : okM sX2_placesWithWeight := ⟨ws_of 871 rfl rfl, ws_of 2 (by decide +kernel) (by decide +kernel), by decide +kernel, ⟨by decide +kernel, by decide +kernel⟩, by decide +kernel, ⟨rfl, ws_of 869 (by decide +kernel) (by decide +kernel), Or.inr (ws_of 870 (by decide +kernel) (by decide +kernel))⟩⟩
set_option maxRecDepth 100000 in
theorem okX2_placesOutOfRange : okM sX2_placesOutOfRange := ⟨ws_of 588 rfl rfl, ws_of 2 (by decide +kernel) (by decide +kernel), by decide +kernel, ⟨by decide +kernel, by decide +kernel⟩, by decide +kernel, ⟨rfl, ws_of 586 (by decide +kernel) (by decide +kernel), Or.inr (ws_of 587 (by decide +kernel) (by decide +kernel))⟩⟩
set_option maxRecDepth 100000 in
theorem okX2_reasonAt : okM sX2_reasonAt := ⟨ws_of 377 rfl rfl, ws_of 2 (by decide +kernel) (by decide +kernel), by decide +kernel, ⟨by decide +kernel, by decide +kernel⟩, by decide +kernel, ⟨rfl, ws_of 375 (by decide +kernel) (by decide +kernel), Or.inr (ws_of 376 (by decide +kernel) (by decide +kernel))⟩⟩
set_option maxRecDepth 100000 in
theorem okX2_allows : okM sX2_allows := ⟨ws_of 373 rfl rfl, ws_of 2 (by decide +kernel) (by decide +kernel), by decide +kernel, ⟨by decide +kernel, by decide +kernel⟩, by decide +kernel, ⟨rfl, ws_of 371 (by decide +kernel) (by decide +kernel), Or.inr (ws_of 372 (by decide +kernel) (by decide +kernel))⟩⟩
set_option maxRecDepth 100000 in
theorem okX2_reasonAgainst : okM sX2_reasonAgainst := ⟨ws_of 897 rfl rfl, ws_of 2 (by decide +kernel) (by decide +kernel), by decide +kernel, ⟨by decide +kernel, by decide +kernel⟩, by decide +kernel, ⟨rfl, ws_of 895 (by decide +kernel) (by decide +kernel), Or.inr (ws_of 896 (by decide +kernel) (by decide +kernel))⟩⟩
set_option maxRecDepth 100000 in
theorem okX2_firstBlocker : okM sX2_firstBlocker := ⟨ws_of 908 rfl rfl, ws_of 2 (by decide +kernel) (by decide +kernel), by decide +kernel, ⟨by decide +kernel, by decide +kernel⟩, by decide +kernel, ⟨rfl, ws_of 906 (by decide +kernel) (by decide +kernel), Or.inr (ws_of 907 (by decide +kernel) (by decide +kernel))⟩⟩
set_option maxRecDepth 100000 in
theorem okX2_enabledSet : okM sX2_enabledSet := ⟨ws_of 423 rfl rfl, ws_of 2 (by decide +kernel) (by decide +kernel), by decide +kernel, ⟨by decide +kernel, by decide +kernel⟩, by decide +kernel, ⟨rfl, ws_of 421 (by decide +kernel) (by decide +kernel), Or.inr (ws_of 422 (by decide +kernel) (by decide +kernel))⟩⟩
set_option maxRecDepth 100000 in
theorem okX2_fireOnce : okM sX2_fireOnce := ⟨ws_of 91 rfl rfl, ws_of 2 (by decide +kernel) (by decide +kernel), by decide +kernel, ⟨by decide +kernel, by decide +kernel⟩, by decide +kernel, ⟨rfl, ws_of 89 (by decide +kernel) (by decide +kernel), Or.inr (ws_of 90 (by decide +kernel) (by decide +kernel))⟩⟩
set_option maxRecDepth 100000 in
theorem okX2_nextToFire : okM sX2_nextToFire := ⟨ws_of 386 rfl rfl, ws_of 2 (by decide +kernel) (by decide +kernel), by decide +kernel, ⟨by decide +kernel, by decide +kernel⟩, by decide +kernel, ⟨rfl, ws_of 384 (by decide +kernel) (by decide +kernel), Or.inr (ws_of 385 (by decide +kernel) (by decide +kernel))⟩⟩
set_option maxRecDepth 100000 in
theorem okX2_advance : okM sX2_advance := ⟨ws_of 382 rfl rfl, ws_of 2 (by decide +kernel) (by decide +kernel), by decide +kernel, ⟨by decide +kernel, by decide +kernel⟩, by decide +kernel, ⟨rfl, ws_of 380 (by decide +kernel) (by decide +kernel), Or.inr (ws_of 381 (by decide +kernel) (by decide +kernel))⟩⟩
set_option maxRecDepth 100000 in
theorem okX2_keepsWeightedTokens : okM sX2_keepsWeightedTokens := ⟨ws_of 556 rfl rfl, ws_of 2 (by decide +kernel) (by decide +kernel), by decide +kernel, ⟨by decide +kernel, by decide +kernel⟩, by decide +kernel, ⟨rfl, ws_of 554 (by decide +kernel) (by decide +kernel), Or.inr (ws_of 555 (by decide +kernel) (by decide +kernel))⟩⟩
set_option maxRecDepth 100000 in
theorem okX2_keepsMarking : okM sX2_keepsMarking := ⟨ws_of 1003 rfl rfl, ws_of 2 (by decide +kernel) (by decide +kernel), by decide +kernel, ⟨by decide +kernel, by decide +kernel⟩, by decide +kernel, ⟨rfl, ws_of 1001 (by decide +kernel) (by decide +kernel), Or.inr (ws_of 1002 (by decide +kernel) (by decide +kernel))⟩⟩
set_option maxRecDepth 100000 in
theorem okX2_packMarking : okM sX2_packMarking := ⟨ws_of 503 rfl rfl, ws_of 2 (by decide +kernel) (by decide +kernel), by decide +kernel, ⟨by decide +kernel, by decide +kernel⟩, by decide +kernel, ⟨rfl, ws_of 501 (by decide +kernel) (by decide +kernel), Or.inr (ws_of 502 (by decide +kernel) (by decide +kernel))⟩⟩
set_option maxRecDepth 100000 in
theorem okX2_packChange : okM sX2_packChange := ⟨ws_of 499 rfl rfl, ws_of 2 (by decide +kernel) (by decide +kernel), by decide +kernel, ⟨by decide +kernel, by decide +kernel⟩, by decide +kernel, ⟨rfl, ws_of 497 (by decide +kernel) (by decide +kernel), Or.inr (ws_of 498 (by decide +kernel) (by decide +kernel))⟩⟩
set_option maxRecDepth 100000 in
theorem okX2_unpackTokens : okM sX2_unpackTokens := ⟨ws_of 519 rfl rfl, ws_of 2 (by decide +kernel) (by decide +kernel), by decide +kernel, ⟨by decide +kernel, by decide +kernel⟩, by decide +kernel, ws_of 518 (by decide +kernel) (by decide +kernel)⟩
set_option maxRecDepth 100000 in
theorem okX2_unpackMarking : okM sX2_unpackMarking := ⟨ws_of 516 rfl rfl, ws_of 2 (by decide +kernel) (by decide +kernel), by decide +kernel, ⟨by decide +kernel, by decide +kernel⟩, by decide +kernel, ⟨rfl, ws_of 514 (by decide +kernel) (by decide +kernel), Or.inr (ws_of 515 (by decide +kernel) (by decide +kernel))⟩⟩
set_option maxRecDepth 100000 in
theorem okX3_init : okM sX3_init := ⟨ws_of 120 rfl rfl, ws_of 4 (by decide +kernel) (by decide +kernel), by decide +kernel, ⟨by decide +kernel, by decide +kernel⟩, by decide +kernel, ⟨rfl, ws_of 119 (by decide +kernel) (by decide +kernel), Or.inl rfl⟩⟩
set_option maxRecDepth 100000 in
theorem okX3_addFourBytes : okM sX3_addFourBytes := ⟨ws_of 238 rfl rfl, ws_of 4 (by decide +kernel) (by decide +kernel), by decide +kernel, ⟨by decide +kernel, by decide +kernel⟩, by decide +kernel, ⟨rfl, ws_of 236 (by decide +kernel) (by decide +kernel), Or.inr (ws_of 237 (by decide +kernel) (by decide +kernel))⟩⟩
set_option maxRecDepth 100000 in
theorem okX3_execute : okM sX3_execute := ⟨ws_of 250 rfl rfl, ws_of 4 (by decide +kernel) (by decide +kernel), by decide +kernel, ⟨by decide +kernel, by decide +kernel⟩, by decide +kernel, ⟨rfl, ws_of 248 (by decide +kernel) (by decide +kernel), Or.inr (ws_of 249 (by decide +kernel) (by decide +kernel))⟩⟩
set_option maxRecDepth 100000 in
theorem okX3_readHeader : okM sX3_readHeader := ⟨ws_of 264 rfl rfl, ws_of 4 (by decide +kernel) (by decide +kernel), by decide +kernel, ⟨by decide +kernel, by decide +kernel⟩, by decide +kernel, ⟨rfl, ws_of 263 (by decide +kernel) (by decide +kernel), Or.inr (ws_sel 1 (by decide +kernel) (by decide +kernel))⟩⟩
set_option maxRecDepth 100000 in
theorem okX3_readCommand : okM sX3_readCommand := ⟨ws_of 334 rfl rfl, ws_of 4 (by decide +kernel) (by decide +kernel), by decide +kernel, ⟨by decide +kernel, by decide +kernel⟩, by decide +kernel, ⟨rfl, ws_of 333 (by decide +kernel) (by decide +kernel), Or.inr (ws_sel 6 (by decide +kernel) (by decide +kernel))⟩⟩
set_option maxRecDepth 100000 in
theorem okX3_commandOfToken : okM sX3_commandOfToken := ⟨ws_of 338 rfl rfl, ws_of 4 (by decide +kernel) (by decide +kernel), by decide +kernel, ⟨by decide +kernel, by decide +kernel⟩, by decide +kernel, ⟨rfl, ws_of 337 (by decide +kernel) (by decide +kernel), Or.inr (ws_sel 7 (by decide +kernel) (by decide +kernel))⟩⟩
set_option maxRecDepth 100000 in
theorem okX3_readTokens : okM sX3_readTokens := ⟨ws_of 349 rfl rfl, ws_of 4 (by decide +kernel) (by decide +kernel), by decide +kernel, ⟨by decide +kernel, by decide +kernel⟩, by decide +kernel, ⟨rfl, ws_of 348 (by decide +kernel) (by decide +kernel), Or.inr (ws_sel 8 (by decide +kernel) (by decide +kernel))⟩⟩
set_option maxRecDepth 100000 in
theorem okX3_readCapacity : okM sX3_readCapacity := ⟨ws_of 353 rfl rfl, ws_of 4 (by decide +kernel) (by decide +kernel), by decide +kernel, ⟨by decide +kernel, by decide +kernel⟩, by decide +kernel, ⟨rfl, ws_of 352 (by decide +kernel) (by decide +kernel), Or.inr (ws_sel 9 (by decide +kernel) (by decide +kernel))⟩⟩
set_option maxRecDepth 100000 in
theorem okX3_readArcFromPlace : okM sX3_readArcFromPlace := ⟨ws_of 360 rfl rfl, ws_of 4 (by decide +kernel) (by decide +kernel), by decide +kernel, ⟨by decide +kernel, by decide +kernel⟩, by decide +kernel, ⟨rfl, ws_of 359 (by decide +kernel) (by decide +kernel), Or.inr (ws_sel 10 (by decide +kernel) (by decide +kernel))⟩⟩
set_option maxRecDepth 100000 in
theorem okX3_readArcFromTransition : okM sX3_readArcFromTransition := ⟨ws_of 365 rfl rfl, ws_of 4 (by decide +kernel) (by decide +kernel), by decide +kernel, ⟨by decide +kernel, by decide +kernel⟩, by decide +kernel, ⟨rfl, ws_of 364 (by decide +kernel) (by decide +kernel), Or.inr (ws_sel 11 (by decide +kernel) (by decide +kernel))⟩⟩
set_option maxRecDepth 100000 in
theorem okX3_readFire : okM sX3_readFire := ⟨ws_of 369 rfl rfl, ws_of 4 (by decide +kernel) (by decide +kernel), by decide +kernel, ⟨by decide +kernel, by decide +kernel⟩, by decide +kernel, ⟨rfl, ws_of 368 (by decide +kernel) (by decide +kernel), Or.inr (ws_sel 12 (by decide +kernel) (by decide +kernel))⟩⟩
set_option maxRecDepth 100000 in
theorem okX3_readSemicolon : okM sX3_readSemicolon := ⟨ws_of 330 rfl rfl, ws_of 4 (by decide +kernel) (by decide +kernel), by decide +kernel, ⟨by decide +kernel, by decide +kernel⟩, by decide +kernel, ⟨rfl, ws_of 329 (by decide +kernel) (by decide +kernel), Or.inr (ws_sel 5 (by decide +kernel) (by decide +kernel))⟩⟩
set_option maxRecDepth 100000 in
theorem okX3_readNumber : okM sX3_readNumber := ⟨ws_of 325 rfl rfl, ws_of 4 (by decide +kernel) (by decide +kernel), by decide +kernel, ⟨by decide +kernel, by decide +kernel⟩, by decide +kernel, ⟨rfl, ws_of 324 (by decide +kernel) (by decide +kernel), Or.inr (ws_sel 4 (by decide +kernel) (by decide +kernel))⟩⟩
set_option maxRecDepth 100000 in
theorem okX3_fail : okM sX3_fail := ⟨ws_of 321 rfl rfl, ws_of 4 (by decide +kernel) (by decide +kernel), by decide +kernel, ⟨by decide +kernel, by decide +kernel⟩, by decide +kernel, ⟨rfl, ws_of 320 (by decide +kernel) (by decide +kernel), Or.inr (ws_sel 3 (by decide +kernel) (by decide +kernel))⟩⟩
set_option maxRecDepth 100000 in
theorem okX3_isWord : okM sX3_isWord := ⟨ws_of 269 rfl rfl, ws_of 4 (by decide +kernel) (by decide +kernel), by decide +kernel, ⟨by decide +kernel, by decide +kernel⟩, by decide +kernel, ⟨rfl, ws_of 268 (by decide +kernel) (by decide +kernel), Or.inr (ws_sel 2 (by decide +kernel) (by decide +kernel))⟩⟩
set_option maxRecDepth 100000 in
theorem okX3_readToken : okM sX3_readToken := ⟨ws_of 254 rfl rfl, ws_of 4 (by decide +kernel) (by decide +kernel), by decide +kernel, ⟨by decide +kernel, by decide +kernel⟩, by decide +kernel, ⟨rfl, ws_of 253 (by decide +kernel) (by decide +kernel), Or.inr (ws_sel 0 (by decide +kernel) (by decide +kernel))⟩⟩
set_option maxRecDepth 100000 in
theorem okX3_isLetter : okM sX3_isLetter := ⟨ws_of 257 rfl rfl, ws_of 4 (by decide +kernel) (by decide +kernel), by decide +kernel, ⟨by decide +kernel, by decide +kernel⟩, by decide +kernel, ws_of 256 (by decide +kernel) (by decide +kernel)⟩
set_option maxRecDepth 100000 in
theorem okX3_isDigit : okM sX3_isDigit := ⟨ws_of 260 rfl rfl, ws_of 4 (by decide +kernel) (by decide +kernel), by decide +kernel, ⟨by decide +kernel, by decide +kernel⟩, by decide +kernel, ws_of 259 (by decide +kernel) (by decide +kernel)⟩
set_option maxRecDepth 100000 in
theorem okX4_init : okM sX4_init := ⟨ws_of 25 rfl rfl, ws_of 1 (by decide +kernel) (by decide +kernel), by decide +kernel, ⟨by decide +kernel, by decide +kernel⟩, by decide +kernel, ⟨rfl, ws_of 24 (by decide +kernel) (by decide +kernel), Or.inl rfl⟩⟩
set_option maxRecDepth 100000 in
theorem okX4_firstNet : okM sX4_firstNet := ⟨ws_of 31 rfl rfl, ws_of 1 (by decide +kernel) (by decide +kernel), by decide +kernel, ⟨by decide +kernel, by decide +kernel⟩, by decide +kernel, ws_of 30 (by decide +kernel) (by decide +kernel)⟩
set_option maxRecDepth 100000 in
theorem okX4_append : okM sX4_append := ⟨ws_of 234 rfl rfl, ws_of 1 (by decide +kernel) (by decide +kernel), by decide +kernel, ⟨by decide +kernel, by decide +kernel⟩, by decide +kernel, ⟨rfl, ws_of 232 (by decide +kernel) (by decide +kernel), Or.inr (ws_of 233 (by decide +kernel) (by decide +kernel))⟩⟩
set_option maxRecDepth 100000 in
theorem okX4_truncateInput : okM sX4_truncateInput := ⟨ws_of 629 rfl rfl, ws_of 1 (by decide +kernel) (by decide +kernel), by decide +kernel, ⟨by decide +kernel, by decide +kernel⟩, by decide +kernel, ⟨rfl, ws_of 627 (by decide +kernel) (by decide +kernel), Or.inr (ws_of 628 (by decide +kernel) (by decide +kernel))⟩⟩
set_option maxRecDepth 100000 in
theorem okX4_inputLength : okM sX4_inputLength := ⟨ws_of 242 rfl rfl, ws_of 1 (by decide +kernel) (by decide +kernel), by decide +kernel, ⟨by decide +kernel, by decide +kernel⟩, by decide +kernel, ⟨rfl, ws_of 240 (by decide +kernel) (by decide +kernel), Or.inr (ws_of 241 (by decide +kernel) (by decide +kernel))⟩⟩
set_option maxRecDepth 100000 in
theorem okX4_runScript : okM sX4_runScript := ⟨ws_of 246 rfl rfl, ws_of 1 (by decide +kernel) (by decide +kernel), by decide +kernel, ⟨by decide +kernel, by decide +kernel⟩, by decide +kernel, ⟨rfl, ws_of 244 (by decide +kernel) (by decide +kernel), Or.inr (ws_of 245 (by decide +kernel) (by decide +kernel))⟩⟩
set_option maxRecDepth 100000 in
theorem okX4_setTokens : okM sX4_setTokens := ⟨ws_of 708 rfl rfl, ws_of 1 (by decide +kernel) (by decide +kernel), by decide +kernel, ⟨by decide +kernel, by decide +kernel⟩, by decide +kernel, ⟨rfl, ws_of 706 (by decide +kernel) (by decide +kernel), Or.inr (ws_of 707 (by decide +kernel) (by decide +kernel))⟩⟩
set_option maxRecDepth 100000 in
theorem okX4_setCapacity : okM sX4_setCapacity := ⟨ws_of 736 rfl rfl, ws_of 1 (by decide +kernel) (by decide +kernel), by decide +kernel, ⟨by decide +kernel, by decide +kernel⟩, by decide +kernel, ⟨rfl, ws_of 734 (by decide +kernel) (by decide +kernel), Or.inr (ws_of 735 (by decide +kernel) (by decide +kernel))⟩⟩
set_option maxRecDepth 100000 in
theorem okX4_setInput : okM sX4_setInput := ⟨ws_of 759 rfl rfl, ws_of 1 (by decide +kernel) (by decide +kernel), by decide +kernel, ⟨by decide +kernel, by decide +kernel⟩, by decide +kernel, ⟨rfl, ws_of 757 (by decide +kernel) (by decide +kernel), Or.inr (ws_of 758 (by decide +kernel) (by decide +kernel))⟩⟩
set_option maxRecDepth 100000 in
theorem okX4_setOutput : okM sX4_setOutput := ⟨ws_of 775 rfl rfl, ws_of 1 (by decide +kernel) (by decide +kernel), by decide +kernel, ⟨by decide +kernel, by decide +kernel⟩, by decide +kernel, ⟨rfl, ws_of 773 (by decide +kernel) (by decide +kernel), Or.inr (ws_of 774 (by decide +kernel) (by decide +kernel))⟩⟩
set_option maxRecDepth 100000 in
theorem okX4_setInhibitor : okM sX4_setInhibitor := ⟨ws_of 782 rfl rfl, ws_of 1 (by decide +kernel) (by decide +kernel), by decide +kernel, ⟨by decide +kernel, by decide +kernel⟩, by decide +kernel, ⟨rfl, ws_of 780 (by decide +kernel) (by decide +kernel), Or.inr (ws_of 781 (by decide +kernel) (by decide +kernel))⟩⟩
set_option maxRecDepth 100000 in
theorem okX4_fire : okM sX4_fire := ⟨ws_of 789 rfl rfl, ws_of 1 (by decide +kernel) (by decide +kernel), by decide +kernel, ⟨by decide +kernel, by decide +kernel⟩, by decide +kernel, ⟨rfl, ws_of 787 (by decide +kernel) (by decide +kernel), Or.inr (ws_of 788 (by decide +kernel) (by decide +kernel))⟩⟩
set_option maxRecDepth 100000 in
theorem okX4_run : okM sX4_run := ⟨ws_of 798 rfl rfl, ws_of 1 (by decide +kernel) (by decide +kernel), by decide +kernel, ⟨by decide +kernel, by decide +kernel⟩, by decide +kernel, ⟨rfl, ws_of 796 (by decide +kernel) (by decide +kernel), Or.inr (ws_of 797 (by decide +kernel) (by decide +kernel))⟩⟩
set_option maxRecDepth 100000 in
theorem okX4_moveToMarking : okM sX4_moveToMarking := ⟨ws_of 806 rfl rfl, ws_of 1 (by decide +kernel) (by decide +kernel), by decide +kernel, ⟨by decide +kernel, by decide +kernel⟩, by decide +kernel, ⟨rfl, ws_of 804 (by decide +kernel) (by decide +kernel), Or.inr (ws_of 805 (by decide +kernel) (by decide +kernel))⟩⟩
set_option maxRecDepth 100000 in
theorem okX4_reverseNet : okM sX4_reverseNet := ⟨ws_of 415 rfl rfl, ws_of 1 (by decide +kernel) (by decide +kernel), by decide +kernel, ⟨by decide +kernel, by decide +kernel⟩, by decide +kernel, ⟨rfl, ws_of 413 (by decide +kernel) (by decide +kernel), Or.inr (ws_of 414 (by decide +kernel) (by decide +kernel))⟩⟩
set_option maxRecDepth 100000 in
theorem okX4_beginChange : okM sX4_beginChange := ⟨ws_of 392 rfl rfl, ws_of 1 (by decide +kernel) (by decide +kernel), by decide +kernel, ⟨by decide +kernel, by decide +kernel⟩, by decide +kernel, ⟨rfl, ws_of 391 (by decide +kernel) (by decide +kernel), Or.inr (ws_sel 13 (by decide +kernel) (by decide +kernel))⟩⟩
set_option maxRecDepth 100000 in
theorem okX4_undo : okM sX4_undo := ⟨ws_of 433 rfl rfl, ws_of 1 (by decide +kernel) (by decide +kernel), by decide +kernel, ⟨by decide +kernel, by decide +kernel⟩, by decide +kernel, ⟨rfl, ws_of 431 (by decide +kernel) (by decide +kernel), Or.inr (ws_of 432 (by decide +kernel) (by decide +kernel))⟩⟩
set_option maxRecDepth 100000 in
theorem okX4_undoCount : okM sX4_undoCount := ⟨ws_of 441 rfl rfl, ws_of 1 (by decide +kernel) (by decide +kernel), by decide +kernel, ⟨by decide +kernel, by decide +kernel⟩, by decide +kernel, ⟨rfl, ws_of 439 (by decide +kernel) (by decide +kernel), Or.inr (ws_of 440 (by decide +kernel) (by decide +kernel))⟩⟩
set_option maxRecDepth 100000 in
theorem okX4_saveSnapshot : okM sX4_saveSnapshot := ⟨ws_of 445 rfl rfl, ws_of 1 (by decide +kernel) (by decide +kernel), by decide +kernel, ⟨by decide +kernel, by decide +kernel⟩, by decide +kernel, ⟨rfl, ws_of 443 (by decide +kernel) (by decide +kernel), Or.inr (ws_of 444 (by decide +kernel) (by decide +kernel))⟩⟩
set_option maxRecDepth 100000 in
theorem okX4_restoreSnapshot : okM sX4_restoreSnapshot := ⟨ws_of 833 rfl rfl, ws_of 1 (by decide +kernel) (by decide +kernel), by decide +kernel, ⟨by decide +kernel, by decide +kernel⟩, by decide +kernel, ⟨rfl, ws_of 831 (by decide +kernel) (by decide +kernel), Or.inr (ws_of 832 (by decide +kernel) (by decide +kernel))⟩⟩
set_option maxRecDepth 100000 in
theorem okX4_scriptErrorKind : okM sX4_scriptErrorKind := ⟨ws_of 449 rfl rfl, ws_of 1 (by decide +kernel) (by decide +kernel), by decide +kernel, ⟨by decide +kernel, by decide +kernel⟩, by decide +kernel, ⟨rfl, ws_of 447 (by decide +kernel) (by decide +kernel), Or.inr (ws_of 448 (by decide +kernel) (by decide +kernel))⟩⟩
set_option maxRecDepth 100000 in
theorem okX4_scriptErrorOffset : okM sX4_scriptErrorOffset := ⟨ws_of 453 rfl rfl, ws_of 1 (by decide +kernel) (by decide +kernel), by decide +kernel, ⟨by decide +kernel, by decide +kernel⟩, by decide +kernel, ⟨rfl, ws_of 451 (by decide +kernel) (by decide +kernel), Or.inr (ws_of 452 (by decide +kernel) (by decide +kernel))⟩⟩
set_option maxRecDepth 100000 in
theorem okX4_placeCount : okM sX4_placeCount := ⟨ws_of 457 rfl rfl, ws_of 1 (by decide +kernel) (by decide +kernel), by decide +kernel, ⟨by decide +kernel, by decide +kernel⟩, by decide +kernel, ⟨rfl, ws_of 455 (by decide +kernel) (by decide +kernel), Or.inr (ws_of 456 (by decide +kernel) (by decide +kernel))⟩⟩
set_option maxRecDepth 100000 in
theorem okX4_transitionCount : okM sX4_transitionCount := ⟨ws_of 461 rfl rfl, ws_of 1 (by decide +kernel) (by decide +kernel), by decide +kernel, ⟨by decide +kernel, by decide +kernel⟩, by decide +kernel, ⟨rfl, ws_of 459 (by decide +kernel) (by decide +kernel), Or.inr (ws_of 460 (by decide +kernel) (by decide +kernel))⟩⟩
set_option maxRecDepth 100000 in
theorem okX4_tokens : okM sX4_tokens := ⟨ws_of 845 rfl rfl, ws_of 1 (by decide +kernel) (by decide +kernel), by decide +kernel, ⟨by decide +kernel, by decide +kernel⟩, by decide +kernel, ⟨rfl, ws_of 843 (by decide +kernel) (by decide +kernel), Or.inr (ws_of 844 (by decide +kernel) (by decide +kernel))⟩⟩
set_option maxRecDepth 100000 in
theorem okX4_capacity : okM sX4_capacity := ⟨ws_of 852 rfl rfl, ws_of 1 (by decide +kernel) (by decide +kernel), by decide +kernel, ⟨by decide +kernel, by decide +kernel⟩, by decide +kernel, ⟨rfl, ws_of 850 (by decide +kernel) (by decide +kernel), Or.inr (ws_of 851 (by decide +kernel) (by decide +kernel))⟩⟩
set_option maxRecDepth 100000 in
theorem okX4_effect : okM sX4_effect := ⟨ws_of 859 rfl rfl, ws_of 1 (by decide +kernel) (by decide +kernel), by decide +kernel, ⟨by decide +kernel, by decide +kernel⟩, by decide +kernel, ⟨rfl, ws_of 857 (by decide +kernel) (by decide +kernel), Or.inr (ws_of 858 (by decide +kernel) (by decide +kernel))⟩⟩
set_option maxRecDepth 100000 in
theorem okX4_totalTokens : okM sX4_totalTokens := ⟨ws_of 465 rfl rfl, ws_of 1 (by decide +kernel) (by decide +kernel), by decide +kernel, ⟨by decide +kernel, by decide +kernel⟩, by decide +kernel, ⟨rfl, ws_of 463 (by decide +kernel) (by decide +kernel), Or.inr (ws_of 464 (by decide +kernel) (by decide +kernel))⟩⟩
set_option maxRecDepth 100000 in
theorem okX4_inputPlaces : okM sX4_inputPlaces := ⟨ws_of 867 rfl rfl, ws_of 1 (by decide +kernel) (by decide +kernel), by decide +kernel, ⟨by decide +kernel, by decide +kernel⟩, by decide +kernel, ⟨rfl, ws_of 865 (by decide +kernel) (by decide +kernel), Or.inr (ws_of 866 (by decide +kernel) (by decide +kernel))⟩⟩
set_option maxRecDepth 100000 in
theorem okX4_outputPlaces : okM sX4_outputPlaces := ⟨ws_of 879 rfl rfl, ws_of 1 (by decide +kernel) (by decide +kernel), by decide +kernel, ⟨by decide +kernel, by decide +kernel⟩, by decide +kernel, ⟨rfl, ws_of 877 (by decide +kernel) (by decide +kernel), Or.inr (ws_of 878 (by decide +kernel) (by decide +kernel))⟩⟩
set_option maxRecDepth 100000 in
theorem okX4_consumers : okM sX4_consumers := ⟨ws_of 886 rfl rfl, ws_of 1 (by decide +kernel) (by decide +kernel), by decide +kernel, ⟨by decide +kernel, by decide +kernel⟩, by decide +kernel, ⟨rfl, ws_of 884 (by decide +kernel) (by decide +kernel), Or.inr (ws_of 885 (by decide +kernel) (by decide +kernel))⟩⟩
set_option maxRecDepth 100000 in
theorem okX4_whyNotEnabled : okM sX4_whyNotEnabled := ⟨ws_of 893 rfl rfl, ws_of 1 (by decide +kernel) (by decide +kernel), by decide +kernel, ⟨by decide +kernel, by decide +kernel⟩, by decide +kernel, ⟨rfl, ws_of 891 (by decide +kernel) (by decide +kernel), Or.inr (ws_of 892 (by decide +kernel) (by decide +kernel))⟩⟩
set_option maxRecDepth 100000 in
theorem okX4_blockingPlace : okM sX4_blockingPlace := ⟨ws_of 904 rfl rfl, ws_of 1 (by decide +kernel) (by decide +kernel), by decide +kernel, ⟨by decide +kernel, by decide +kernel⟩, by decide +kernel, ⟨rfl, ws_of 902 (by decide +kernel) (by decide +kernel), Or.inr (ws_of 903 (by decide +kernel) (by decide +kernel))⟩⟩
set_option maxRecDepth 100000 in
theorem okX4_enabledTransitions : okM sX4_enabledTransitions := ⟨ws_of 469 rfl rfl, ws_of 1 (by decide +kernel) (by decide +kernel), by decide +kernel, ⟨by decide +kernel, by decide +kernel⟩, by decide +kernel, ⟨rfl, ws_of 467 (by decide +kernel) (by decide +kernel), Or.inr (ws_of 468 (by decide +kernel) (by decide +kernel))⟩⟩
set_option maxRecDepth 100000 in
theorem okX4_isDead : okM sX4_isDead := ⟨ws_of 473 rfl rfl, ws_of 1 (by decide +kernel) (by decide +kernel), by decide +kernel, ⟨by decide +kernel, by decide +kernel⟩, by decide +kernel, ⟨rfl, ws_of 471 (by decide +kernel) (by decide +kernel), Or.inr (ws_of 472 (by decide +kernel) (by decide +kernel))⟩⟩
set_option maxRecDepth 100000 in
theorem okX4_firings : okM sX4_firings := ⟨ws_of 916 rfl rfl, ws_of 1 (by decide +kernel) (by decide +kernel), by decide +kernel, ⟨by decide +kernel, by decide +kernel⟩, by decide +kernel, ⟨rfl, ws_of 914 (by decide +kernel) (by decide +kernel), Or.inr (ws_of 915 (by decide +kernel) (by decide +kernel))⟩⟩
set_option maxRecDepth 100000 in
theorem okX4_nextOfRun : okM sX4_nextOfRun := ⟨ws_of 477 rfl rfl, ws_of 1 (by decide +kernel) (by decide +kernel), by decide +kernel, ⟨by decide +kernel, by decide +kernel⟩, by decide +kernel, ⟨rfl, ws_of 475 (by decide +kernel) (by decide +kernel), Or.inr (ws_of 476 (by decide +kernel) (by decide +kernel))⟩⟩
set_option maxRecDepth 100000 in
theorem okX4_firesInRow : okM sX4_firesInRow := ⟨ws_of 923 rfl rfl, ws_of 1 (by decide +kernel) (by decide +kernel), by decide +kernel, ⟨by decide +kernel, by decide +kernel⟩, by decide +kernel, ⟨rfl, ws_of 921 (by decide +kernel) (by decide +kernel), Or.inr (ws_of 922 (by decide +kernel) (by decide +kernel))⟩⟩
set_option maxRecDepth 100000 in
theorem okX4_areInConflict : okM sX4_areInConflict := ⟨ws_of 930 rfl rfl, ws_of 1 (by decide +kernel) (by decide +kernel), by decide +kernel, ⟨by decide +kernel, by decide +kernel⟩, by decide +kernel, ⟨rfl, ws_of 928 (by decide +kernel) (by decide +kernel), Or.inr (ws_of 929 (by decide +kernel) (by decide +kernel))⟩⟩
set_option maxRecDepth 100000 in
theorem okX4_disables : okM sX4_disables := ⟨ws_of 934 rfl rfl, ws_of 1 (by decide +kernel) (by decide +kernel), by decide +kernel, ⟨by decide +kernel, by decide +kernel⟩, by decide +kernel, ⟨rfl, ws_of 933 (by decide +kernel) (by decide +kernel), Or.inr (ws_sel 27 (by decide +kernel) (by decide +kernel))⟩⟩
set_option maxRecDepth 100000 in
theorem okX4_markingCount : okM sX4_markingCount := ⟨ws_of 482 rfl rfl, ws_of 1 (by decide +kernel) (by decide +kernel), by decide +kernel, ⟨by decide +kernel, by decide +kernel⟩, by decide +kernel, ⟨rfl, ws_of 480 (by decide +kernel) (by decide +kernel), Or.inr (ws_of 481 (by decide +kernel) (by decide +kernel))⟩⟩
set_option maxRecDepth 100000 in
theorem okX4_isComplete : okM sX4_isComplete := ⟨ws_of 528 rfl rfl, ws_of 1 (by decide +kernel) (by decide +kernel), by decide +kernel, ⟨by decide +kernel, by decide +kernel⟩, by decide +kernel, ⟨rfl, ws_of 526 (by decide +kernel) (by decide +kernel), Or.inr (ws_of 527 (by decide +kernel) (by decide +kernel))⟩⟩
set_option maxRecDepth 100000 in
theorem okX4_markingTokens : okM sX4_markingTokens := ⟨ws_of 941 rfl rfl, ws_of 1 (by decide +kernel) (by decide +kernel), by decide +kernel, ⟨by decide +kernel, by decide +kernel⟩, by decide +kernel, ⟨rfl, ws_of 939 (by decide +kernel) (by decide +kernel), Or.inr (ws_of 940 (by decide +kernel) (by decide +kernel))⟩⟩
set_option maxRecDepth 100000 in
theorem okX4_markingDistance : okM sX4_markingDistance := ⟨ws_of 949 rfl rfl, ws_of 1 (by decide +kernel) (by decide +kernel), by decide +kernel, ⟨by decide +kernel, by decide +kernel⟩, by decide +kernel, ⟨rfl, ws_of 947 (by decide +kernel) (by decide +kernel), Or.inr (ws_of 948 (by decide +kernel) (by decide +kernel))⟩⟩
set_option maxRecDepth 100000 in
theorem okX4_markingTransition : okM sX4_markingTransition := ⟨ws_of 956 rfl rfl, ws_of 1 (by decide +kernel) (by decide +kernel), by decide +kernel, ⟨by decide +kernel, by decide +kernel⟩, by decide +kernel, ⟨rfl, ws_of 954 (by decide +kernel) (by decide +kernel), Or.inr (ws_of 955 (by decide +kernel) (by decide +kernel))⟩⟩
set_option maxRecDepth 100000 in
theorem okX4_firstDeadMarking : okM sX4_firstDeadMarking := ⟨ws_of 532 rfl rfl, ws_of 1 (by decide +kernel) (by decide +kernel), by decide +kernel, ⟨by decide +kernel, by decide +kernel⟩, by decide +kernel, ⟨rfl, ws_of 530 (by decide +kernel) (by decide +kernel), Or.inr (ws_of 531 (by decide +kernel) (by decide +kernel))⟩⟩
set_option maxRecDepth 100000 in
theorem okX4_deadMarkings : okM sX4_deadMarkings := ⟨ws_of 536 rfl rfl, ws_of 1 (by decide +kernel) (by decide +kernel), by decide +kernel, ⟨by decide +kernel, by decide +kernel⟩, by decide +kernel, ⟨rfl, ws_of 534 (by decide +kernel) (by decide +kernel), Or.inr (ws_of 535 (by decide +kernel) (by decide +kernel))⟩⟩
set_option maxRecDepth 100000 in
theorem okX4_bound : okM sX4_bound := ⟨ws_of 963 rfl rfl, ws_of 1 (by decide +kernel) (by decide +kernel), by decide +kernel, ⟨by decide +kernel, by decide +kernel⟩, by decide +kernel, ⟨rfl, ws_of 961 (by decide +kernel) (by decide +kernel), Or.inr (ws_of 962 (by decide +kernel) (by decide +kernel))⟩⟩
set_option maxRecDepth 100000 in
theorem okX4_canFire : okM sX4_canFire := ⟨ws_of 971 rfl rfl, ws_of 1 (by decide +kernel) (by decide +kernel), by decide +kernel, ⟨by decide +kernel, by decide +kernel⟩, by decide +kernel, ⟨rfl, ws_of 969 (by decide +kernel) (by decide +kernel), Or.inr (ws_of 970 (by decide +kernel) (by decide +kernel))⟩⟩
set_option maxRecDepth 100000 in
theorem okX4_returnsHome : okM sX4_returnsHome := ⟨ws_of 540 rfl rfl, ws_of 1 (by decide +kernel) (by decide +kernel), by decide +kernel, ⟨by decide +kernel, by decide +kernel⟩, by decide +kernel, ⟨rfl, ws_of 538 (by decide +kernel) (by decide +kernel), Or.inr (ws_of 539 (by decide +kernel) (by decide +kernel))⟩⟩
set_option maxRecDepth 100000 in
theorem okX4_distanceToEmpty : okM sX4_distanceToEmpty := ⟨ws_of 979 rfl rfl, ws_of 1 (by decide +kernel) (by decide +kernel), by decide +kernel, ⟨by decide +kernel, by decide +kernel⟩, by decide +kernel, ⟨rfl, ws_of 977 (by decide +kernel) (by decide +kernel), Or.inr (ws_of 978 (by decide +kernel) (by decide +kernel))⟩⟩
set_option maxRecDepth 100000 in
theorem okX4_explored : okM sX4_explored := ⟨ws_of 486 rfl rfl, ws_of 1 (by decide +kernel) (by decide +kernel), by decide +kernel, ⟨by decide +kernel, by decide +kernel⟩, by decide +kernel, ⟨rfl, ws_of 485 (by decide +kernel) (by decide +kernel), Or.inr (ws_sel 14 (by decide +kernel) (by decide +kernel))⟩⟩
set_option maxRecDepth 100000 in
theorem okX4_isPlaceInvariant : okM sX4_isPlaceInvariant := ⟨ws_of 986 rfl rfl, ws_of 1 (by decide +kernel) (by decide +kernel), by decide +kernel, ⟨by decide +kernel, by decide +kernel⟩, by decide +kernel, ⟨rfl, ws_of 984 (by decide +kernel) (by decide +kernel), Or.inr (ws_of 985 (by decide +kernel) (by decide +kernel))⟩⟩
set_option maxRecDepth 100000 in
theorem okX4_isTransitionInvariant : okM sX4_isTransitionInvariant := ⟨ws_of 999 rfl rfl, ws_of 1 (by decide +kernel) (by decide +kernel), by decide +kernel, ⟨by decide +kernel, by decide +kernel⟩, by decide +kernel, ⟨rfl, ws_of 997 (by decide +kernel) (by decide +kernel), Or.inr (ws_of 998 (by decide +kernel) (by decide +kernel))⟩⟩
set_option maxRecDepth 100000 in
theorem okX4_weightedTokens : okM sX4_weightedTokens := ⟨ws_of 1010 rfl rfl, ws_of 1 (by decide +kernel) (by decide +kernel), by decide +kernel, ⟨by decide +kernel, by decide +kernel⟩, by decide +kernel, ⟨rfl, ws_of 1008 (by decide +kernel) (by decide +kernel), Or.inr (ws_of 1009 (by decide +kernel) (by decide +kernel))⟩⟩
set_option maxRecDepth 100000 in
theorem okX4_simpleInvariants : okM sX4_simpleInvariants := ⟨ws_of 548 rfl rfl, ws_of 1 (by decide +kernel) (by decide +kernel), by decide +kernel, ⟨by decide +kernel, by decide +kernel⟩, by decide +kernel, ⟨rfl, ws_of 546 (by decide +kernel) (by decide +kernel), Or.inr (ws_of 547 (by decide +kernel) (by decide +kernel))⟩⟩
set_option maxRecDepth 100000 in
theorem okX4_smallestInvariant : okM sX4_smallestInvariant := ⟨ws_of 560 rfl rfl, ws_of 1 (by decide +kernel) (by decide +kernel), by decide +kernel, ⟨by decide +kernel, by decide +kernel⟩, by decide +kernel, ⟨rfl, ws_of 558 (by decide +kernel) (by decide +kernel), Or.inr (ws_of 559 (by decide +kernel) (by decide +kernel))⟩⟩
set_option maxRecDepth 100000 in
theorem okX4_coveredPlaces : okM sX4_coveredPlaces := ⟨ws_of 567 rfl rfl, ws_of 1 (by decide +kernel) (by decide +kernel), by decide +kernel, ⟨by decide +kernel, by decide +kernel⟩, by decide +kernel, ⟨rfl, ws_of 565 (by decide +kernel) (by decide +kernel), Or.inr (ws_of 566 (by decide +kernel) (by decide +kernel))⟩⟩
set_option maxRecDepth 100000 in
theorem okX4_readVector : okM sX4_readVector := ⟨ws_of 990 rfl rfl, ws_of 1 (by decide +kernel) (by decide +kernel), by decide +kernel, ⟨by decide +kernel, by decide +kernel⟩, by decide +kernel, ⟨rfl, ws_of 989 (by decide +kernel) (by decide +kernel), Or.inr (ws_sel 28 (by decide +kernel) (by decide +kernel))⟩⟩
set_option maxRecDepth 100000 in
theorem okX4_isSimpleInvariant : okM sX4_isSimpleInvariant := ⟨ws_of 552 rfl rfl, ws_of 1 (by decide +kernel) (by decide +kernel), by decide +kernel, ⟨by decide +kernel, by decide +kernel⟩, by decide +kernel, ⟨rfl, ws_of 551 (by decide +kernel) (by decide +kernel), Or.inr (ws_sel 18 (by decide +kernel) (by decide +kernel))⟩⟩
set_option maxRecDepth 100000 in
theorem okX4_vectorOf : okM sX4_vectorOf := ⟨ws_of 563 rfl rfl, ws_of 1 (by decide +kernel) (by decide +kernel), by decide +kernel, ⟨by decide +kernel, by decide +kernel⟩, by decide +kernel, ws_of 562 (by decide +kernel) (by decide +kernel)⟩
set_option maxRecDepth 100000 in
theorem okX4_tokensAfterRun : okM sX4_tokensAfterRun := ⟨ws_of 1017 rfl rfl, ws_of 1 (by decide +kernel) (by decide +kernel), by decide +kernel, ⟨by decide +kernel, by decide +kernel⟩, by decide +kernel, ⟨rfl, ws_of 1015 (by decide +kernel) (by decide +kernel), Or.inr (ws_of 1016 (by decide +kernel) (by decide +kernel))⟩⟩
set_option maxRecDepth 100000 in
theorem okX4_runLength : okM sX4_runLength := ⟨ws_of 571 rfl rfl, ws_of 1 (by decide +kernel) (by decide +kernel), by decide +kernel, ⟨by decide +kernel, by decide +kernel⟩, by decide +kernel, ⟨rfl, ws_of 569 (by decide +kernel) (by decide +kernel), Or.inr (ws_of 570 (by decide +kernel) (by decide +kernel))⟩⟩
set_option maxRecDepth 100000 in
theorem okX4_load : okM sX4_load := ⟨ws_of 576 rfl rfl, ws_of 1 (by decide +kernel) (by decide +kernel), by decide +kernel, ⟨by decide +kernel, by decide +kernel⟩, by decide +kernel, ⟨rfl, ws_of 574 (by decide +kernel) (by decide +kernel), Or.inr (ws_of 575 (by decide +kernel) (by decide +kernel))⟩⟩
set_option maxRecDepth 100000 in
theorem okX4_enabledShare : okM sX4_enabledShare := ⟨ws_of 580 rfl rfl, ws_of 1 (by decide +kernel) (by decide +kernel), by decide +kernel, ⟨by decide +kernel, by decide +kernel⟩, by decide +kernel, ⟨rfl, ws_of 578 (by decide +kernel) (by decide +kernel), Or.inr (ws_of 579 (by decide +kernel) (by decide +kernel))⟩⟩
set_option maxRecDepth 100000 in
theorem okX4_violations : okM sX4_violations := ⟨ws_of 584 rfl rfl, ws_of 1 (by decide +kernel) (by decide +kernel), by decide +kernel, ⟨by decide +kernel, by decide +kernel⟩, by decide +kernel, ⟨rfl, ws_of 582 (by decide +kernel) (by decide +kernel), Or.inr (ws_of 583 (by decide +kernel) (by decide +kernel))⟩⟩
set_option maxRecDepth 100000 in
theorem okX4_writeMarking : okM sX4_writeMarking := ⟨ws_of 605 rfl rfl, ws_of 1 (by decide +kernel) (by decide +kernel), by decide +kernel, ⟨by decide +kernel, by decide +kernel⟩, by decide +kernel, ⟨rfl, ws_of 603 (by decide +kernel) (by decide +kernel), Or.inr (ws_of 604 (by decide +kernel) (by decide +kernel))⟩⟩
set_option maxRecDepth 100000 in
theorem okX4_reportByte : okM sX4_reportByte := ⟨ws_of 621 rfl rfl, ws_of 1 (by decide +kernel) (by decide +kernel), by decide +kernel, ⟨by decide +kernel, by decide +kernel⟩, by decide +kernel, ⟨rfl, ws_of 619 (by decide +kernel) (by decide +kernel), Or.inr (ws_of 620 (by decide +kernel) (by decide +kernel))⟩⟩
set_option maxRecDepth 100000 in
theorem okX4_putEnabled : okM sX4_putEnabled := ⟨ws_of 617 rfl rfl, ws_of 1 (by decide +kernel) (by decide +kernel), by decide +kernel, ⟨by decide +kernel, by decide +kernel⟩, by decide +kernel, ⟨rfl, ws_of 616 (by decide +kernel) (by decide +kernel), Or.inr (ws_sel 22 (by decide +kernel) (by decide +kernel))⟩⟩
set_option maxRecDepth 100000 in
theorem okX4_putNumber : okM sX4_putNumber := ⟨ws_of 613 rfl rfl, ws_of 1 (by decide +kernel) (by decide +kernel), by decide +kernel, ⟨by decide +kernel, by decide +kernel⟩, by decide +kernel, ⟨rfl, ws_of 612 (by decide +kernel) (by decide +kernel), Or.inr (ws_sel 21 (by decide +kernel) (by decide +kernel))⟩⟩
set_option maxRecDepth 100000 in
theorem okX4_put : okM sX4_put := ⟨ws_of 609 rfl rfl, ws_of 1 (by decide +kernel) (by decide +kernel), by decide +kernel, ⟨by decide +kernel, by decide +kernel⟩, by decide +kernel, ⟨rfl, ws_of 608 (by decide +kernel) (by decide +kernel), Or.inr (ws_sel 20 (by decide +kernel) (by decide +kernel))⟩⟩
set_option maxRecDepth 100000 in
theorem okX4_checkPlace : okM sX4_checkPlace := ⟨ws_of 712 rfl rfl, ws_of 1 (by decide +kernel) (by decide +kernel), by decide +kernel, ⟨by decide +kernel, by decide +kernel⟩, by decide +kernel, ⟨rfl, ws_of 711 (by decide +kernel) (by decide +kernel), Or.inr (ws_sel 24 (by decide +kernel) (by decide +kernel))⟩⟩
set_option maxRecDepth 100000 in
theorem okX4_checkTransition : okM sX4_checkTransition := ⟨ws_of 767 rfl rfl, ws_of 1 (by decide +kernel) (by decide +kernel), by decide +kernel, ⟨by decide +kernel, by decide +kernel⟩, by decide +kernel, ⟨rfl, ws_of 766 (by decide +kernel) (by decide +kernel), Or.inr (ws_sel 26 (by decide +kernel) (by decide +kernel))⟩⟩
set_option maxRecDepth 100000 in
theorem okX4_checkArc : okM sX4_checkArc := ⟨ws_of 763 rfl rfl, ws_of 1 (by decide +kernel) (by decide +kernel), by decide +kernel, ⟨by decide +kernel, by decide +kernel⟩, by decide +kernel, ⟨rfl, ws_of 762 (by decide +kernel) (by decide +kernel), Or.inr (ws_sel 25 (by decide +kernel) (by decide +kernel))⟩⟩
set_option maxRecDepth 100000 in
theorem okX4_checkMarking : okM sX4_checkMarking := ⟨ws_of 809 rfl rfl, ws_of 1 (by decide +kernel) (by decide +kernel), by decide +kernel, ⟨by decide +kernel, by decide +kernel⟩, by decide +kernel, ws_of 808 (by decide +kernel) (by decide +kernel)⟩
set_option maxRecDepth 100000 in
theorem okX4_checkRange : okM sX4_checkRange := ⟨ws_of 632 rfl rfl, ws_of 1 (by decide +kernel) (by decide +kernel), by decide +kernel, ⟨by decide +kernel, by decide +kernel⟩, by decide +kernel, ws_of 631 (by decide +kernel) (by decide +kernel)⟩
set_option maxRecDepth 100000 in
theorem okX5_init : okM sX5_init := ⟨ws_of 1022 rfl rfl, ws_of 6 (by decide +kernel) (by decide +kernel), by decide +kernel, ⟨by decide +kernel, by decide +kernel⟩, by decide +kernel, ⟨rfl, ws_of 1021 (by decide +kernel) (by decide +kernel), Or.inl rfl⟩⟩
set_option maxRecDepth 100000 in
theorem okX5_thrown : okM sX5_thrown := ⟨ws_of 1129 rfl rfl, ws_of 6 (by decide +kernel) (by decide +kernel), by decide +kernel, ⟨by decide +kernel, by decide +kernel⟩, by decide +kernel, ⟨rfl, ws_of 1127 (by decide +kernel) (by decide +kernel), Or.inr (ws_of 1128 (by decide +kernel) (by decide +kernel))⟩⟩
set_option maxRecDepth 100000 in
theorem okX5_copy : okM sX5_copy := ⟨ws_of 1152 rfl rfl, ws_of 6 (by decide +kernel) (by decide +kernel), by decide +kernel, ⟨by decide +kernel, by decide +kernel⟩, by decide +kernel, ws_of 1151 (by decide +kernel) (by decide +kernel)⟩
set_option maxRecDepth 100000 in
theorem okX5_start : okM sX5_start := ⟨ws_of 1029 rfl rfl, ws_of 6 (by decide +kernel) (by decide +kernel), by decide +kernel, ⟨by decide +kernel, by decide +kernel⟩, by decide +kernel, ⟨rfl, ws_of 1028 (by decide +kernel) (by decide +kernel), Or.inr (ws_sel 29 (by decide +kernel) (by decide +kernel))⟩⟩
set_option maxRecDepth 100000 in
theorem okX5_remember : okM sX5_remember := ⟨ws_of 1149 rfl rfl, ws_of 6 (by decide +kernel) (by decide +kernel), by decide +kernel, ⟨by decide +kernel, by decide +kernel⟩, by decide +kernel, ⟨rfl, ws_of 1148 (by decide +kernel) (by decide +kernel), Or.inr (ws_sel 38 (by decide +kernel) (by decide +kernel))⟩⟩
set_option maxRecDepth 100000 in
theorem okX5_outside : okM sX5_outside := ⟨ws_of 1141 rfl rfl, ws_of 6 (by decide +kernel) (by decide +kernel), by decide +kernel, ⟨by decide +kernel, by decide +kernel⟩, by decide +kernel, ⟨rfl, ws_of 1140 (by decide +kernel) (by decide +kernel), Or.inr (ws_sel 36 (by decide +kernel) (by decide +kernel))⟩⟩
set_option maxRecDepth 100000 in
theorem okX5_raise : okM sX5_raise := ⟨ws_of 1164 rfl rfl, ws_of 6 (by decide +kernel) (by decide +kernel), by decide +kernel, ⟨by decide +kernel, by decide +kernel⟩, by decide +kernel, ⟨rfl, ws_of 1163 (by decide +kernel) (by decide +kernel), Or.inr (ws_sel 40 (by decide +kernel) (by decide +kernel))⟩⟩
set_option maxRecDepth 100000 in
theorem okX5_noPlace : okM sX5_noPlace := ⟨ws_of 1137 rfl rfl, ws_of 6 (by decide +kernel) (by decide +kernel), by decide +kernel, ⟨by decide +kernel, by decide +kernel⟩, by decide +kernel, ⟨rfl, ws_of 1136 (by decide +kernel) (by decide +kernel), Or.inr (ws_sel 35 (by decide +kernel) (by decide +kernel))⟩⟩
set_option maxRecDepth 100000 in
theorem okX5_noTransition : okM sX5_noTransition := ⟨ws_of 1172 rfl rfl, ws_of 6 (by decide +kernel) (by decide +kernel), by decide +kernel, ⟨by decide +kernel, by decide +kernel⟩, by decide +kernel, ⟨rfl, ws_of 1171 (by decide +kernel) (by decide +kernel), Or.inr (ws_sel 41 (by decide +kernel) (by decide +kernel))⟩⟩
set_option maxRecDepth 100000 in
theorem okX5_ones : okM sX5_ones := ⟨ws_of 1259 rfl rfl, ws_of 6 (by decide +kernel) (by decide +kernel), by decide +kernel, ⟨by decide +kernel, by decide +kernel⟩, by decide +kernel, ws_of 1258 (by decide +kernel) (by decide +kernel)⟩
set_option maxRecDepth 100000 in
theorem okX5_arc : okM sX5_arc := ⟨ws_of 1049 rfl rfl, ws_of 6 (by decide +kernel) (by decide +kernel), by decide +kernel, ⟨by decide +kernel, by decide +kernel⟩, by decide +kernel, ⟨rfl, ws_of 1048 (by decide +kernel) (by decide +kernel), Or.inr (ws_sel 34 (by decide +kernel) (by decide +kernel))⟩⟩
set_option maxRecDepth 100000 in
theorem okX5_put : okM sX5_put := ⟨ws_of 1033 rfl rfl, ws_of 6 (by decide +kernel) (by decide +kernel), by decide +kernel, ⟨by decide +kernel, by decide +kernel⟩, by decide +kernel, ⟨rfl, ws_of 1032 (by decide +kernel) (by decide +kernel), Or.inr (ws_sel 30 (by decide +kernel) (by decide +kernel))⟩⟩
set_option maxRecDepth 100000 in
theorem okX5_tokensOf : okM sX5_tokensOf := ⟨ws_of 1156 rfl rfl, ws_of 6 (by decide +kernel) (by decide +kernel), by decide +kernel, ⟨by decide +kernel, by decide +kernel⟩, by decide +kernel, ⟨rfl, ws_of 1155 (by decide +kernel) (by decide +kernel), Or.inr (ws_sel 39 (by decide +kernel) (by decide +kernel))⟩⟩
set_option maxRecDepth 100000 in
theorem okX5_capacityOf : okM sX5_capacityOf := ⟨ws_of 1145 rfl rfl, ws_of 6 (by decide +kernel) (by decide +kernel), by decide +kernel, ⟨by decide +kernel, by decide +kernel⟩, by decide +kernel, ⟨rfl, ws_of 1144 (by decide +kernel) (by decide +kernel), Or.inr (ws_sel 37 (by decide +kernel) (by decide +kernel))⟩⟩
set_option maxRecDepth 100000 in
theorem okX5_effectOf : okM sX5_effectOf := ⟨ws_of 1045 rfl rfl, ws_of 6 (by decide +kernel) (by decide +kernel), by decide +kernel, ⟨by decide +kernel, by decide +kernel⟩, by decide +kernel, ⟨rfl, ws_of 1044 (by decide +kernel) (by decide +kernel), Or.inr (ws_sel 33 (by decide +kernel) (by decide +kernel))⟩⟩
set_option maxRecDepth 100000 in
theorem okX5_applies : okM sX5_applies := ⟨ws_of 1204 rfl rfl, ws_of 6 (by decide +kernel) (by decide +kernel), by decide +kernel, ⟨by decide +kernel, by decide +kernel⟩, by decide +kernel, ⟨rfl, ws_of 1203 (by decide +kernel) (by decide +kernel), Or.inr (ws_sel 46 (by decide +kernel) (by decide +kernel))⟩⟩
set_option maxRecDepth 100000 in
theorem okX5_firstPlace : okM sX5_firstPlace := ⟨ws_of 1200 rfl rfl, ws_of 6 (by decide +kernel) (by decide +kernel), by decide +kernel, ⟨by decide +kernel, by decide +kernel⟩, by decide +kernel, ⟨rfl, ws_of 1199 (by decide +kernel) (by decide +kernel), Or.inr (ws_sel 45 (by decide +kernel) (by decide +kernel))⟩⟩
set_option maxRecDepth 100000 in
theorem okX5_reasonOf : okM sX5_reasonOf := ⟨ws_of 1196 rfl rfl, ws_of 6 (by decide +kernel) (by decide +kernel), by decide +kernel, ⟨by decide +kernel, by decide +kernel⟩, by decide +kernel, ⟨rfl, ws_of 1195 (by decide +kernel) (by decide +kernel), Or.inr (ws_sel 44 (by decide +kernel) (by decide +kernel))⟩⟩
set_option maxRecDepth 100000 in
theorem okX5_enabled : okM sX5_enabled := ⟨ws_of 1192 rfl rfl, ws_of 6 (by decide +kernel) (by decide +kernel), by decide +kernel, ⟨by decide +kernel, by decide +kernel⟩, by decide +kernel, ⟨rfl, ws_of 1191 (by decide +kernel) (by decide +kernel), Or.inr (ws_sel 43 (by decide +kernel) (by decide +kernel))⟩⟩
set_option maxRecDepth 100000 in
theorem okX5_enabledSet : okM sX5_enabledSet := ⟨ws_of 1256 rfl rfl, ws_of 6 (by decide +kernel) (by decide +kernel), by decide +kernel, ⟨by decide +kernel, by decide +kernel⟩, by decide +kernel, ⟨rfl, ws_of 1255 (by decide +kernel) (by decide +kernel), Or.inr (ws_sel 56 (by decide +kernel) (by decide +kernel))⟩⟩
set_option maxRecDepth 100000 in
theorem okX5_move : okM sX5_move := ⟨ws_of 1041 rfl rfl, ws_of 6 (by decide +kernel) (by decide +kernel), by decide +kernel, ⟨by decide +kernel, by decide +kernel⟩, by decide +kernel, ⟨rfl, ws_of 1040 (by decide +kernel) (by decide +kernel), Or.inr (ws_sel 32 (by decide +kernel) (by decide +kernel))⟩⟩
set_option maxRecDepth 100000 in
theorem okX5_fireIt : okM sX5_fireIt := ⟨ws_of 1037 rfl rfl, ws_of 6 (by decide +kernel) (by decide +kernel), by decide +kernel, ⟨by decide +kernel, by decide +kernel⟩, by decide +kernel, ⟨rfl, ws_of 1036 (by decide +kernel) (by decide +kernel), Or.inr (ws_sel 31 (by decide +kernel) (by decide +kernel))⟩⟩
set_option maxRecDepth 100000 in
theorem okX5_allTokens : okM sX5_allTokens := ⟨ws_of 1275 rfl rfl, ws_of 6 (by decide +kernel) (by decide +kernel), by decide +kernel, ⟨by decide +kernel, by decide +kernel⟩, by decide +kernel, ⟨rfl, ws_of 1274 (by decide +kernel) (by decide +kernel), Or.inr (ws_sel 57 (by decide +kernel) (by decide +kernel))⟩⟩
set_option maxRecDepth 100000 in
theorem okX5_nextFired : okM sX5_nextFired := ⟨ws_of 1216 rfl rfl, ws_of 6 (by decide +kernel) (by decide +kernel), by decide +kernel, ⟨by decide +kernel, by decide +kernel⟩, by decide +kernel, ⟨rfl, ws_of 1215 (by decide +kernel) (by decide +kernel), Or.inr (ws_sel 48 (by decide +kernel) (by decide +kernel))⟩⟩
set_option maxRecDepth 100000 in
theorem okX5_runIt : okM sX5_runIt := ⟨ws_of 1212 rfl rfl, ws_of 6 (by decide +kernel) (by decide +kernel), by decide +kernel, ⟨by decide +kernel, by decide +kernel⟩, by decide +kernel, ⟨rfl, ws_of 1211 (by decide +kernel) (by decide +kernel), Or.inr (ws_sel 47 (by decide +kernel) (by decide +kernel))⟩⟩
set_option maxRecDepth 100000 in
theorem okX5_note : okM sX5_note := ⟨ws_of 1232 rfl rfl, ws_of 6 (by decide +kernel) (by decide +kernel), by decide +kernel, ⟨by decide +kernel, by decide +kernel⟩, by decide +kernel, ⟨rfl, ws_of 1231 (by decide +kernel) (by decide +kernel), Or.inr (ws_sel 51 (by decide +kernel) (by decide +kernel))⟩⟩
set_option maxRecDepth 100000 in
theorem okX5_take : okM sX5_take := ⟨ws_of 1240 rfl rfl, ws_of 6 (by decide +kernel) (by decide +kernel), by decide +kernel, ⟨by decide +kernel, by decide +kernel⟩, by decide +kernel, ⟨rfl, ws_of 1239 (by decide +kernel) (by decide +kernel), Or.inr (ws_sel 53 (by decide +kernel) (by decide +kernel))⟩⟩
set_option maxRecDepth 100000 in
theorem okX5_isMarking : okM sX5_isMarking := ⟨ws_of 1248 rfl rfl, ws_of 6 (by decide +kernel) (by decide +kernel), by decide +kernel, ⟨by decide +kernel, by decide +kernel⟩, by decide +kernel, ⟨rfl, ws_of 1247 (by decide +kernel) (by decide +kernel), Or.inr (ws_sel 55 (by decide +kernel) (by decide +kernel))⟩⟩
set_option maxRecDepth 100000 in
theorem okX5_known : okM sX5_known := ⟨ws_of 1244 rfl rfl, ws_of 6 (by decide +kernel) (by decide +kernel), by decide +kernel, ⟨by decide +kernel, by decide +kernel⟩, by decide +kernel, ⟨rfl, ws_of 1243 (by decide +kernel) (by decide +kernel), Or.inr (ws_sel 54 (by decide +kernel) (by decide +kernel))⟩⟩
set_option maxRecDepth 100000 in
theorem okX5_follow : okM sX5_follow := ⟨ws_of 1236 rfl rfl, ws_of 6 (by decide +kernel) (by decide +kernel), by decide +kernel, ⟨by decide +kernel, by decide +kernel⟩, by decide +kernel, ⟨rfl, ws_of 1235 (by decide +kernel) (by decide +kernel), Or.inr (ws_sel 52 (by decide +kernel) (by decide +kernel))⟩⟩
set_option maxRecDepth 100000 in
theorem okX5_explore : okM sX5_explore := ⟨ws_of 1228 rfl rfl, ws_of 6 (by decide +kernel) (by decide +kernel), by decide +kernel, ⟨by decide +kernel, by decide +kernel⟩, by decide +kernel, ⟨rfl, ws_of 1227 (by decide +kernel) (by decide +kernel), Or.inr (ws_sel 50 (by decide +kernel) (by decide +kernel))⟩⟩
set_option maxRecDepth 100000 in
theorem okX5_setTokens : okM sX5_setTokens := ⟨ws_of 1133 rfl rfl, ws_of 6 (by decide +kernel) (by decide +kernel), by decide +kernel, ⟨by decide +kernel, by decide +kernel⟩, by decide +kernel, ⟨rfl, ws_of 1131 (by decide +kernel) (by decide +kernel), Or.inr (ws_of 1132 (by decide +kernel) (by decide +kernel))⟩⟩
set_option maxRecDepth 100000 in
theorem okX5_setCapacity : okM sX5_setCapacity := ⟨ws_of 1160 rfl rfl, ws_of 6 (by decide +kernel) (by decide +kernel), by decide +kernel, ⟨by decide +kernel, by decide +kernel⟩, by decide +kernel, ⟨rfl, ws_of 1158 (by decide +kernel) (by decide +kernel), Or.inr (ws_of 1159 (by decide +kernel) (by decide +kernel))⟩⟩
set_option maxRecDepth 100000 in
theorem okX5_setArc : okM sX5_setArc := ⟨ws_of 1176 rfl rfl, ws_of 6 (by decide +kernel) (by decide +kernel), by decide +kernel, ⟨by decide +kernel, by decide +kernel⟩, by decide +kernel, ⟨rfl, ws_of 1175 (by decide +kernel) (by decide +kernel), Or.inr (ws_sel 42 (by decide +kernel) (by decide +kernel))⟩⟩
set_option maxRecDepth 100000 in
theorem okX5_setInput : okM sX5_setInput := ⟨ws_of 1168 rfl rfl, ws_of 6 (by decide +kernel) (by decide +kernel), by decide +kernel, ⟨by decide +kernel, by decide +kernel⟩, by decide +kernel, ⟨rfl, ws_of 1166 (by decide +kernel) (by decide +kernel), Or.inr (ws_of 1167 (by decide +kernel) (by decide +kernel))⟩⟩
set_option maxRecDepth 100000 in
theorem okX5_setOutput : okM sX5_setOutput := ⟨ws_of 1180 rfl rfl, ws_of 6 (by decide +kernel) (by decide +kernel), by decide +kernel, ⟨by decide +kernel, by decide +kernel⟩, by decide +kernel, ⟨rfl, ws_of 1178 (by decide +kernel) (by decide +kernel), Or.inr (ws_of 1179 (by decide +kernel) (by decide +kernel))⟩⟩
set_option maxRecDepth 100000 in
theorem okX5_setInhibitor : okM sX5_setInhibitor := ⟨ws_of 1184 rfl rfl, ws_of 6 (by decide +kernel) (by decide +kernel), by decide +kernel, ⟨by decide +kernel, by decide +kernel⟩, by decide +kernel, ⟨rfl, ws_of 1182 (by decide +kernel) (by decide +kernel), Or.inr (ws_of 1183 (by decide +kernel) (by decide +kernel))⟩⟩
set_option maxRecDepth 100000 in
theorem okX5_fire : okM sX5_fire := ⟨ws_of 1188 rfl rfl, ws_of 6 (by decide +kernel) (by decide +kernel), by decide +kernel, ⟨by decide +kernel, by decide +kernel⟩, by decide +kernel, ⟨rfl, ws_of 1186 (by decide +kernel) (by decide +kernel), Or.inr (ws_of 1187 (by decide +kernel) (by decide +kernel))⟩⟩
set_option maxRecDepth 100000 in
theorem okX5_run : okM sX5_run := ⟨ws_of 1208 rfl rfl, ws_of 6 (by decide +kernel) (by decide +kernel), by decide +kernel, ⟨by decide +kernel, by decide +kernel⟩, by decide +kernel, ⟨rfl, ws_of 1206 (by decide +kernel) (by decide +kernel), Or.inr (ws_of 1207 (by decide +kernel) (by decide +kernel))⟩⟩
set_option maxRecDepth 100000 in
theorem okX5_noMarking : okM sX5_noMarking := ⟨ws_of 1224 rfl rfl, ws_of 6 (by decide +kernel) (by decide +kernel), by decide +kernel, ⟨by decide +kernel, by decide +kernel⟩, by decide +kernel, ⟨rfl, ws_of 1223 (by decide +kernel) (by decide +kernel), Or.inr (ws_sel 49 (by decide +kernel) (by decide +kernel))⟩⟩
set_option maxRecDepth 100000 in
theorem okX5_moveToMarking : okM sX5_moveToMarking := ⟨ws_of 1220 rfl rfl, ws_of 6 (by decide +kernel) (by decide +kernel), by decide +kernel, ⟨by decide +kernel, by decide +kernel⟩, by decide +kernel, ⟨rfl, ws_of 1218 (by decide +kernel) (by decide +kernel), Or.inr (ws_of 1219 (by decide +kernel) (by decide +kernel))⟩⟩
set_option maxRecDepth 100000 in
theorem okX5_reverseNet : okM sX5_reverseNet := ⟨ws_of 1252 rfl rfl, ws_of 6 (by decide +kernel) (by decide +kernel), by decide +kernel, ⟨by decide +kernel, by decide +kernel⟩, by decide +kernel, ⟨rfl, ws_of 1250 (by decide +kernel) (by decide +kernel), Or.inr (ws_of 1251 (by decide +kernel) (by decide +kernel))⟩⟩
set_option maxRecDepth 100000 in
theorem okX5_undo : okM sX5_undo := ⟨ws_of 1263 rfl rfl, ws_of 6 (by decide +kernel) (by decide +kernel), by decide +kernel, ⟨by decide +kernel, by decide +kernel⟩, by decide +kernel, ⟨rfl, ws_of 1261 (by decide +kernel) (by decide +kernel), Or.inr (ws_of 1262 (by decide +kernel) (by decide +kernel))⟩⟩
set_option maxRecDepth 100000 in
theorem okX5_undoCount : okM sX5_undoCount := ⟨ws_of 1267 rfl rfl, ws_of 6 (by decide +kernel) (by decide +kernel), by decide +kernel, ⟨by decide +kernel, by decide +kernel⟩, by decide +kernel, ⟨rfl, ws_of 1265 (by decide +kernel) (by decide +kernel), Or.inr (ws_of 1266 (by decide +kernel) (by decide +kernel))⟩⟩
set_option maxRecDepth 100000 in
theorem okX5_saveSnapshot : okM sX5_saveSnapshot := ⟨ws_of 1271 rfl rfl, ws_of 6 (by decide +kernel) (by decide +kernel), by decide +kernel, ⟨by decide +kernel, by decide +kernel⟩, by decide +kernel, ⟨rfl, ws_of 1269 (by decide +kernel) (by decide +kernel), Or.inr (ws_of 1270 (by decide +kernel) (by decide +kernel))⟩⟩
set_option maxRecDepth 100000 in
theorem okX5_restoreSnapshot : okM sX5_restoreSnapshot := ⟨ws_of 1279 rfl rfl, ws_of 6 (by decide +kernel) (by decide +kernel), by decide +kernel, ⟨by decide +kernel, by decide +kernel⟩, by decide +kernel, ⟨rfl, ws_of 1277 (by decide +kernel) (by decide +kernel), Or.inr (ws_of 1278 (by decide +kernel) (by decide +kernel))⟩⟩
set_option maxRecDepth 100000 in
theorem okX5_letterAt : okM sX5_letterAt := ⟨ws_of 1291 rfl rfl, ws_of 6 (by decide +kernel) (by decide +kernel), by decide +kernel, ⟨by decide +kernel, by decide +kernel⟩, by decide +kernel, ⟨rfl, ws_of 1290 (by decide +kernel) (by decide +kernel), Or.inr (ws_sel 59 (by decide +kernel) (by decide +kernel))⟩⟩
set_option maxRecDepth 100000 in
theorem okX5_digitAt : okM sX5_digitAt := ⟨ws_of 1295 rfl rfl, ws_of 6 (by decide +kernel) (by decide +kernel), by decide +kernel, ⟨by decide +kernel, by decide +kernel⟩, by decide +kernel, ⟨rfl, ws_of 1294 (by decide +kernel) (by decide +kernel), Or.inr (ws_sel 60 (by decide +kernel) (by decide +kernel))⟩⟩
set_option maxRecDepth 100000 in
theorem okX5_scan : okM sX5_scan := ⟨ws_of 1287 rfl rfl, ws_of 6 (by decide +kernel) (by decide +kernel), by decide +kernel, ⟨by decide +kernel, by decide +kernel⟩, by decide +kernel, ⟨rfl, ws_of 1286 (by decide +kernel) (by decide +kernel), Or.inr (ws_sel 58 (by decide +kernel) (by decide +kernel))⟩⟩
set_option maxRecDepth 100000 in
theorem okX5_isWord : okM sX5_isWord := ⟨ws_of 1300 rfl rfl, ws_of 6 (by decide +kernel) (by decide +kernel), by decide +kernel, ⟨by decide +kernel, by decide +kernel⟩, by decide +kernel, ⟨rfl, ws_of 1299 (by decide +kernel) (by decide +kernel), Or.inr (ws_sel 61 (by decide +kernel) (by decide +kernel))⟩⟩
set_option maxRecDepth 100000 in
theorem okX5_fail : okM sX5_fail := ⟨ws_of 1306 rfl rfl, ws_of 6 (by decide +kernel) (by decide +kernel), by decide +kernel, ⟨by decide +kernel, by decide +kernel⟩, by decide +kernel, ⟨rfl, ws_of 1305 (by decide +kernel) (by decide +kernel), Or.inr (ws_sel 62 (by decide +kernel) (by decide +kernel))⟩⟩
set_option maxRecDepth 100000 in
theorem okX5_good : okM sX5_good := ⟨ws_of 1314 rfl rfl, ws_of 6 (by decide +kernel) (by decide +kernel), by decide +kernel, ⟨by decide +kernel, by decide +kernel⟩, by decide +kernel, ⟨rfl, ws_of 1313 (by decide +kernel) (by decide +kernel), Or.inr (ws_sel 64 (by decide +kernel) (by decide +kernel))⟩⟩
set_option maxRecDepth 100000 in
theorem okX5_advance : okM sX5_advance := ⟨ws_of 1310 rfl rfl, ws_of 6 (by decide +kernel) (by decide +kernel), by decide +kernel, ⟨by decide +kernel, by decide +kernel⟩, by decide +kernel, ⟨rfl, ws_of 1309 (by decide +kernel) (by decide +kernel), Or.inr (ws_sel 63 (by decide +kernel) (by decide +kernel))⟩⟩
set_option maxRecDepth 100000 in
theorem okX5_numberHere : okM sX5_numberHere := ⟨ws_of 1322 rfl rfl, ws_of 6 (by decide +kernel) (by decide +kernel), by decide +kernel, ⟨by decide +kernel, by decide +kernel⟩, by decide +kernel, ⟨rfl, ws_of 1321 (by decide +kernel) (by decide +kernel), Or.inr (ws_sel 66 (by decide +kernel) (by decide +kernel))⟩⟩
set_option maxRecDepth 100000 in
theorem okX5_number : okM sX5_number := ⟨ws_of 1318 rfl rfl, ws_of 6 (by decide +kernel) (by decide +kernel), by decide +kernel, ⟨by decide +kernel, by decide +kernel⟩, by decide +kernel, ⟨rfl, ws_of 1317 (by decide +kernel) (by decide +kernel), Or.inr (ws_sel 65 (by decide +kernel) (by decide +kernel))⟩⟩
set_option maxRecDepth 100000 in
theorem okX5_aPlace : okM sX5_aPlace := ⟨ws_of 1335 rfl rfl, ws_of 6 (by decide +kernel) (by decide +kernel), by decide +kernel, ⟨by decide +kernel, by decide +kernel⟩, by decide +kernel, ⟨rfl, ws_of 1334 (by decide +kernel) (by decide +kernel), Or.inr (ws_sel 69 (by decide +kernel) (by decide +kernel))⟩⟩
set_option maxRecDepth 100000 in
theorem okX5_aTransition : okM sX5_aTransition := ⟨ws_of 1341 rfl rfl, ws_of 6 (by decide +kernel) (by decide +kernel), by decide +kernel, ⟨by decide +kernel, by decide +kernel⟩, by decide +kernel, ⟨rfl, ws_of 1340 (by decide +kernel) (by decide +kernel), Or.inr (ws_sel 70 (by decide +kernel) (by decide +kernel))⟩⟩
set_option maxRecDepth 100000 in
theorem okX5_ends : okM sX5_ends := ⟨ws_of 1326 rfl rfl, ws_of 6 (by decide +kernel) (by decide +kernel), by decide +kernel, ⟨by decide +kernel, by decide +kernel⟩, by decide +kernel, ⟨rfl, ws_of 1325 (by decide +kernel) (by decide +kernel), Or.inr (ws_sel 67 (by decide +kernel) (by decide +kernel))⟩⟩
set_option maxRecDepth 100000 in
theorem okX5_runScript : okM sX5_runScript := ⟨ws_of 1283 rfl rfl, ws_of 6 (by decide +kernel) (by decide +kernel), by decide +kernel, ⟨by decide +kernel, by decide +kernel⟩, by decide +kernel, ⟨rfl, ws_of 1281 (by decide +kernel) (by decide +kernel), Or.inr (ws_of 1282 (by decide +kernel) (by decide +kernel))⟩⟩
set_option maxRecDepth 100000 in
theorem okX5_command : okM sX5_command := ⟨ws_of 1330 rfl rfl, ws_of 6 (by decide +kernel) (by decide +kernel), by decide +kernel, ⟨by decide +kernel, by decide +kernel⟩, by decide +kernel, ⟨rfl, ws_of 1329 (by decide +kernel) (by decide +kernel), Or.inr (ws_sel 68 (by decide +kernel) (by decide +kernel))⟩⟩
set_option maxRecDepth 100000 in
theorem okX5_placedArc : okM sX5_placedArc := ⟨ws_of 1350 rfl rfl, ws_of 6 (by decide +kernel) (by decide +kernel), by decide +kernel, ⟨by decide +kernel, by decide +kernel⟩, by decide +kernel, ⟨rfl, ws_of 1349 (by decide +kernel) (by decide +kernel), Or.inr (ws_sel 72 (by decide +kernel) (by decide +kernel))⟩⟩
set_option maxRecDepth 100000 in
theorem okX5_arcCommand : okM sX5_arcCommand := ⟨ws_of 1345 rfl rfl, ws_of 6 (by decide +kernel) (by decide +kernel), by decide +kernel, ⟨by decide +kernel, by decide +kernel⟩, by decide +kernel, ⟨rfl, ws_of 1344 (by decide +kernel) (by decide +kernel), Or.inr (ws_sel 71 (by decide +kernel) (by decide +kernel))⟩⟩
set_option maxRecDepth 100000 in
theorem okX5_firingCommand : okM sX5_firingCommand := ⟨ws_of 1355 rfl rfl, ws_of 6 (by decide +kernel) (by decide +kernel), by decide +kernel, ⟨by decide +kernel, by decide +kernel⟩, by decide +kernel, ⟨rfl, ws_of 1354 (by decide +kernel) (by decide +kernel), Or.inr (ws_sel 73 (by decide +kernel) (by decide +kernel))⟩⟩
set_option maxRecDepth 100000 in
theorem okX5_type : okM sX5_type := ⟨ws_of 1365 rfl rfl, ws_of 6 (by decide +kernel) (by decide +kernel), by decide +kernel, ⟨by decide +kernel, by decide +kernel⟩, by decide +kernel, ⟨rfl, ws_of 1364 (by decide +kernel) (by decide +kernel), Or.inr (ws_sel 74 (by decide +kernel) (by decide +kernel))⟩⟩
set_option maxRecDepth 100000 in
theorem okX5_append : okM sX5_append := ⟨ws_of 1361 rfl rfl, ws_of 6 (by decide +kernel) (by decide +kernel), by decide +kernel, ⟨by decide +kernel, by decide +kernel⟩, by decide +kernel, ⟨rfl, ws_of 1359 (by decide +kernel) (by decide +kernel), Or.inr (ws_of 1360 (by decide +kernel) (by decide +kernel))⟩⟩
set_option maxRecDepth 100000 in
theorem okX5_truncateInput : okM sX5_truncateInput := ⟨ws_of 1369 rfl rfl, ws_of 6 (by decide +kernel) (by decide +kernel), by decide +kernel, ⟨by decide +kernel, by decide +kernel⟩, by decide +kernel, ⟨rfl, ws_of 1367 (by decide +kernel) (by decide +kernel), Or.inr (ws_of 1368 (by decide +kernel) (by decide +kernel))⟩⟩
set_option maxRecDepth 100000 in
theorem okX5_inputLength : okM sX5_inputLength := ⟨ws_of 1373 rfl rfl, ws_of 6 (by decide +kernel) (by decide +kernel), by decide +kernel, ⟨by decide +kernel, by decide +kernel⟩, by decide +kernel, ⟨rfl, ws_of 1371 (by decide +kernel) (by decide +kernel), Or.inr (ws_of 1372 (by decide +kernel) (by decide +kernel))⟩⟩
set_option maxRecDepth 100000 in
theorem okX5_scriptErrorKind : okM sX5_scriptErrorKind := ⟨ws_of 1377 rfl rfl, ws_of 6 (by decide +kernel) (by decide +kernel), by decide +kernel, ⟨by decide +kernel, by decide +kernel⟩, by decide +kernel, ⟨rfl, ws_of 1375 (by decide +kernel) (by decide +kernel), Or.inr (ws_of 1376 (by decide +kernel) (by decide +kernel))⟩⟩
set_option maxRecDepth 100000 in
theorem okX5_scriptErrorOffset : okM sX5_scriptErrorOffset := ⟨ws_of 1381 rfl rfl, ws_of 6 (by decide +kernel) (by decide +kernel), by decide +kernel, ⟨by decide +kernel, by decide +kernel⟩, by decide +kernel, ⟨rfl, ws_of 1379 (by decide +kernel) (by decide +kernel), Or.inr (ws_of 1380 (by decide +kernel) (by decide +kernel))⟩⟩
set_option maxRecDepth 100000 in
theorem okX5_placeCount : okM sX5_placeCount := ⟨ws_of 1385 rfl rfl, ws_of 6 (by decide +kernel) (by decide +kernel), by decide +kernel, ⟨by decide +kernel, by decide +kernel⟩, by decide +kernel, ⟨rfl, ws_of 1383 (by decide +kernel) (by decide +kernel), Or.inr (ws_of 1384 (by decide +kernel) (by decide +kernel))⟩⟩
set_option maxRecDepth 100000 in
theorem okX5_transitionCount : okM sX5_transitionCount := ⟨ws_of 1389 rfl rfl, ws_of 6 (by decide +kernel) (by decide +kernel), by decide +kernel, ⟨by decide +kernel, by decide +kernel⟩, by decide +kernel, ⟨rfl, ws_of 1387 (by decide +kernel) (by decide +kernel), Or.inr (ws_of 1388 (by decide +kernel) (by decide +kernel))⟩⟩
set_option maxRecDepth 100000 in
theorem okX5_tokens : okM sX5_tokens := ⟨ws_of 1393 rfl rfl, ws_of 6 (by decide +kernel) (by decide +kernel), by decide +kernel, ⟨by decide +kernel, by decide +kernel⟩, by decide +kernel, ⟨rfl, ws_of 1391 (by decide +kernel) (by decide +kernel), Or.inr (ws_of 1392 (by decide +kernel) (by decide +kernel))⟩⟩
set_option maxRecDepth 100000 in
theorem okX5_capacity : okM sX5_capacity := ⟨ws_of 1397 rfl rfl, ws_of 6 (by decide +kernel) (by decide +kernel), by decide +kernel, ⟨by decide +kernel, by decide +kernel⟩, by decide +kernel, ⟨rfl, ws_of 1395 (by decide +kernel) (by decide +kernel), Or.inr (ws_of 1396 (by decide +kernel) (by decide +kernel))⟩⟩
set_option maxRecDepth 100000 in
theorem okX5_effect : okM sX5_effect := ⟨ws_of 1401 rfl rfl, ws_of 6 (by decide +kernel) (by decide +kernel), by decide +kernel, ⟨by decide +kernel, by decide +kernel⟩, by decide +kernel, ⟨rfl, ws_of 1399 (by decide +kernel) (by decide +kernel), Or.inr (ws_of 1400 (by decide +kernel) (by decide +kernel))⟩⟩
set_option maxRecDepth 100000 in
theorem okX5_totalTokens : okM sX5_totalTokens := ⟨ws_of 1405 rfl rfl, ws_of 6 (by decide +kernel) (by decide +kernel), by decide +kernel, ⟨by decide +kernel, by decide +kernel⟩, by decide +kernel, ⟨rfl, ws_of 1403 (by decide +kernel) (by decide +kernel), Or.inr (ws_of 1404 (by decide +kernel) (by decide +kernel))⟩⟩
set_option maxRecDepth 100000 in
theorem okX5_placesOf : okM sX5_placesOf := ⟨ws_of 1413 rfl rfl, ws_of 6 (by decide +kernel) (by decide +kernel), by decide +kernel, ⟨by decide +kernel, by decide +kernel⟩, by decide +kernel, ⟨rfl, ws_of 1412 (by decide +kernel) (by decide +kernel), Or.inr (ws_sel 75 (by decide +kernel) (by decide +kernel))⟩⟩
set_option maxRecDepth 100000 in
theorem okX5_inputPlaces : okM sX5_inputPlaces := ⟨ws_of 1409 rfl rfl, ws_of 6 (by decide +kernel) (by decide +kernel), by decide +kernel, ⟨by decide +kernel, by decide +kernel⟩, by decide +kernel, ⟨rfl, ws_of 1407 (by decide +kernel) (by decide +kernel), Or.inr (ws_of 1408 (by decide +kernel) (by decide +kernel))⟩⟩
set_option maxRecDepth 100000 in
theorem okX5_outputPlaces : okM sX5_outputPlaces := ⟨ws_of 1417 rfl rfl, ws_of 6 (by decide +kernel) (by decide +kernel), by decide +kernel, ⟨by decide +kernel, by decide +kernel⟩, by decide +kernel, ⟨rfl, ws_of 1415 (by decide +kernel) (by decide +kernel), Or.inr (ws_of 1416 (by decide +kernel) (by decide +kernel))⟩⟩
set_option maxRecDepth 100000 in
theorem okX5_consumers : okM sX5_consumers := ⟨ws_of 1421 rfl rfl, ws_of 6 (by decide +kernel) (by decide +kernel), by decide +kernel, ⟨by decide +kernel, by decide +kernel⟩, by decide +kernel, ⟨rfl, ws_of 1419 (by decide +kernel) (by decide +kernel), Or.inr (ws_of 1420 (by decide +kernel) (by decide +kernel))⟩⟩
set_option maxRecDepth 100000 in
theorem okX5_whyNotEnabled : okM sX5_whyNotEnabled := ⟨ws_of 1425 rfl rfl, ws_of 6 (by decide +kernel) (by decide +kernel), by decide +kernel, ⟨by decide +kernel, by decide +kernel⟩, by decide +kernel, ⟨rfl, ws_of 1423 (by decide +kernel) (by decide +kernel), Or.inr (ws_of 1424 (by decide +kernel) (by decide +kernel))⟩⟩
set_option maxRecDepth 100000 in
theorem okX5_blockingPlace : okM sX5_blockingPlace := ⟨ws_of 1429 rfl rfl, ws_of 6 (by decide +kernel) (by decide +kernel), by decide +kernel, ⟨by decide +kernel, by decide +kernel⟩, by decide +kernel, ⟨rfl, ws_of 1427 (by decide +kernel) (by decide +kernel), Or.inr (ws_of 1428 (by decide +kernel) (by decide +kernel))⟩⟩
set_option maxRecDepth 100000 in
theorem okX5_enabledTransitions : okM sX5_enabledTransitions := ⟨ws_of 1433 rfl rfl, ws_of 6 (by decide +kernel) (by decide +kernel), by decide +kernel, ⟨by decide +kernel, by decide +kernel⟩, by decide +kernel, ⟨rfl, ws_of 1431 (by decide +kernel) (by decide +kernel), Or.inr (ws_of 1432 (by decide +kernel) (by decide +kernel))⟩⟩
set_option maxRecDepth 100000 in
theorem okX5_isDead : okM sX5_isDead := ⟨ws_of 1437 rfl rfl, ws_of 6 (by decide +kernel) (by decide +kernel), by decide +kernel, ⟨by decide +kernel, by decide +kernel⟩, by decide +kernel, ⟨rfl, ws_of 1435 (by decide +kernel) (by decide +kernel), Or.inr (ws_of 1436 (by decide +kernel) (by decide +kernel))⟩⟩
set_option maxRecDepth 100000 in
theorem okX5_firings : okM sX5_firings := ⟨ws_of 1441 rfl rfl, ws_of 6 (by decide +kernel) (by decide +kernel), by decide +kernel, ⟨by decide +kernel, by decide +kernel⟩, by decide +kernel, ⟨rfl, ws_of 1439 (by decide +kernel) (by decide +kernel), Or.inr (ws_of 1440 (by decide +kernel) (by decide +kernel))⟩⟩
set_option maxRecDepth 100000 in
theorem okX5_nextOfRun : okM sX5_nextOfRun := ⟨ws_of 1445 rfl rfl, ws_of 6 (by decide +kernel) (by decide +kernel), by decide +kernel, ⟨by decide +kernel, by decide +kernel⟩, by decide +kernel, ⟨rfl, ws_of 1443 (by decide +kernel) (by decide +kernel), Or.inr (ws_of 1444 (by decide +kernel) (by decide +kernel))⟩⟩
set_option maxRecDepth 100000 in
theorem okX5_firesInRow : okM sX5_firesInRow := ⟨ws_of 1449 rfl rfl, ws_of 6 (by decide +kernel) (by decide +kernel), by decide +kernel, ⟨by decide +kernel, by decide +kernel⟩, by decide +kernel, ⟨rfl, ws_of 1447 (by decide +kernel) (by decide +kernel), Or.inr (ws_of 1448 (by decide +kernel) (by decide +kernel))⟩⟩
set_option maxRecDepth 100000 in
theorem okX5_disables : okM sX5_disables := ⟨ws_of 1457 rfl rfl, ws_of 6 (by decide +kernel) (by decide +kernel), by decide +kernel, ⟨by decide +kernel, by decide +kernel⟩, by decide +kernel, ⟨rfl, ws_of 1456 (by decide +kernel) (by decide +kernel), Or.inr (ws_sel 76 (by decide +kernel) (by decide +kernel))⟩⟩
set_option maxRecDepth 100000 in
theorem okX5_areInConflict : okM sX5_areInConflict := ⟨ws_of 1453 rfl rfl, ws_of 6 (by decide +kernel) (by decide +kernel), by decide +kernel, ⟨by decide +kernel, by decide +kernel⟩, by decide +kernel, ⟨rfl, ws_of 1451 (by decide +kernel) (by decide +kernel), Or.inr (ws_of 1452 (by decide +kernel) (by decide +kernel))⟩⟩
set_option maxRecDepth 100000 in
theorem okX5_markingCount : okM sX5_markingCount := ⟨ws_of 1461 rfl rfl, ws_of 6 (by decide +kernel) (by decide +kernel), by decide +kernel, ⟨by decide +kernel, by decide +kernel⟩, by decide +kernel, ⟨rfl, ws_of 1459 (by decide +kernel) (by decide +kernel), Or.inr (ws_of 1460 (by decide +kernel) (by decide +kernel))⟩⟩
set_option maxRecDepth 100000 in
theorem okX5_isComplete : okM sX5_isComplete := ⟨ws_of 1465 rfl rfl, ws_of 6 (by decide +kernel) (by decide +kernel), by decide +kernel, ⟨by decide +kernel, by decide +kernel⟩, by decide +kernel, ⟨rfl, ws_of 1463 (by decide +kernel) (by decide +kernel), Or.inr (ws_of 1464 (by decide +kernel) (by decide +kernel))⟩⟩
set_option maxRecDepth 100000 in
theorem okX5_markingTokens : okM sX5_markingTokens := ⟨ws_of 1469 rfl rfl, ws_of 6 (by decide +kernel) (by decide +kernel), by decide +kernel, ⟨by decide +kernel, by decide +kernel⟩, by decide +kernel, ⟨rfl, ws_of 1467 (by decide +kernel) (by decide +kernel), Or.inr (ws_of 1468 (by decide +kernel) (by decide +kernel))⟩⟩
set_option maxRecDepth 100000 in
theorem okX5_markingDistance : okM sX5_markingDistance := ⟨ws_of 1473 rfl rfl, ws_of 6 (by decide +kernel) (by decide +kernel), by decide +kernel, ⟨by decide +kernel, by decide +kernel⟩, by decide +kernel, ⟨rfl, ws_of 1471 (by decide +kernel) (by decide +kernel), Or.inr (ws_of 1472 (by decide +kernel) (by decide +kernel))⟩⟩
set_option maxRecDepth 100000 in
theorem okX5_markingTransition : okM sX5_markingTransition := ⟨ws_of 1477 rfl rfl, ws_of 6 (by decide +kernel) (by decide +kernel), by decide +kernel, ⟨by decide +kernel, by decide +kernel⟩, by decide +kernel, ⟨rfl, ws_of 1475 (by decide +kernel) (by decide +kernel), Or.inr (ws_of 1476 (by decide +kernel) (by decide +kernel))⟩⟩
set_option maxRecDepth 100000 in
theorem okX5_deadAt : okM sX5_deadAt := ⟨ws_of 1485 rfl rfl, ws_of 6 (by decide +kernel) (by decide +kernel), by decide +kernel, ⟨by decide +kernel, by decide +kernel⟩, by decide +kernel, ⟨rfl, ws_of 1484 (by decide +kernel) (by decide +kernel), Or.inr (ws_sel 77 (by decide +kernel) (by decide +kernel))⟩⟩
set_option maxRecDepth 100000 in
theorem okX5_firstDeadMarking : okM sX5_firstDeadMarking := ⟨ws_of 1481 rfl rfl, ws_of 6 (by decide +kernel) (by decide +kernel), by decide +kernel, ⟨by decide +kernel, by decide +kernel⟩, by decide +kernel, ⟨rfl, ws_of 1479 (by decide +kernel) (by decide +kernel), Or.inr (ws_of 1480 (by decide +kernel) (by decide +kernel))⟩⟩
set_option maxRecDepth 100000 in
theorem okX5_deadMarkings : okM sX5_deadMarkings := ⟨ws_of 1489 rfl rfl, ws_of 6 (by decide +kernel) (by decide +kernel), by decide +kernel, ⟨by decide +kernel, by decide +kernel⟩, by decide +kernel, ⟨rfl, ws_of 1487 (by decide +kernel) (by decide +kernel), Or.inr (ws_of 1488 (by decide +kernel) (by decide +kernel))⟩⟩
set_option maxRecDepth 100000 in
theorem okX5_bound : okM sX5_bound := ⟨ws_of 1493 rfl rfl, ws_of 6 (by decide +kernel) (by decide +kernel), by decide +kernel, ⟨by decide +kernel, by decide +kernel⟩, by decide +kernel, ⟨rfl, ws_of 1491 (by decide +kernel) (by decide +kernel), Or.inr (ws_of 1492 (by decide +kernel) (by decide +kernel))⟩⟩
set_option maxRecDepth 100000 in
theorem okX5_canFire : okM sX5_canFire := ⟨ws_of 1497 rfl rfl, ws_of 6 (by decide +kernel) (by decide +kernel), by decide +kernel, ⟨by decide +kernel, by decide +kernel⟩, by decide +kernel, ⟨rfl, ws_of 1495 (by decide +kernel) (by decide +kernel), Or.inr (ws_of 1496 (by decide +kernel) (by decide +kernel))⟩⟩
set_option maxRecDepth 100000 in
theorem okX5_leadsHome : okM sX5_leadsHome := ⟨ws_of 1505 rfl rfl, ws_of 6 (by decide +kernel) (by decide +kernel), by decide +kernel, ⟨by decide +kernel, by decide +kernel⟩, by decide +kernel, ⟨rfl, ws_of 1504 (by decide +kernel) (by decide +kernel), Or.inr (ws_sel 78 (by decide +kernel) (by decide +kernel))⟩⟩
set_option maxRecDepth 100000 in
theorem okX5_returnsHome : okM sX5_returnsHome := ⟨ws_of 1501 rfl rfl, ws_of 6 (by decide +kernel) (by decide +kernel), by decide +kernel, ⟨by decide +kernel, by decide +kernel⟩, by decide +kernel, ⟨rfl, ws_of 1499 (by decide +kernel) (by decide +kernel), Or.inr (ws_of 1500 (by decide +kernel) (by decide +kernel))⟩⟩
set_option maxRecDepth 100000 in
theorem okX5_distanceToEmpty : okM sX5_distanceToEmpty := ⟨ws_of 1509 rfl rfl, ws_of 6 (by decide +kernel) (by decide +kernel), by decide +kernel, ⟨by decide +kernel, by decide +kernel⟩, by decide +kernel, ⟨rfl, ws_of 1507 (by decide +kernel) (by decide +kernel), Or.inr (ws_of 1508 (by decide +kernel) (by decide +kernel))⟩⟩
set_option maxRecDepth 100000 in
theorem okX5_digit : okM sX5_digit := ⟨ws_of 1524 rfl rfl, ws_of 6 (by decide +kernel) (by decide +kernel), by decide +kernel, ⟨by decide +kernel, by decide +kernel⟩, by decide +kernel, ws_of 1523 (by decide +kernel) (by decide +kernel)⟩
set_option maxRecDepth 100000 in
theorem okX5_noVector : okM sX5_noVector := ⟨ws_of 1517 rfl rfl, ws_of 6 (by decide +kernel) (by decide +kernel), by decide +kernel, ⟨by decide +kernel, by decide +kernel⟩, by decide +kernel, ⟨rfl, ws_of 1516 (by decide +kernel) (by decide +kernel), Or.inr (ws_sel 79 (by decide +kernel) (by decide +kernel))⟩⟩
set_option maxRecDepth 100000 in
theorem okX5_keeps : okM sX5_keeps := ⟨ws_of 1521 rfl rfl, ws_of 6 (by decide +kernel) (by decide +kernel), by decide +kernel, ⟨by decide +kernel, by decide +kernel⟩, by decide +kernel, ⟨rfl, ws_of 1520 (by decide +kernel) (by decide +kernel), Or.inr (ws_sel 80 (by decide +kernel) (by decide +kernel))⟩⟩
set_option maxRecDepth 100000 in
theorem okX5_isPlaceInvariant : okM sX5_isPlaceInvariant := ⟨ws_of 1513 rfl rfl, ws_of 6 (by decide +kernel) (by decide +kernel), by decide +kernel, ⟨by decide +kernel, by decide +kernel⟩, by decide +kernel, ⟨rfl, ws_of 1511 (by decide +kernel) (by decide +kernel), Or.inr (ws_of 1512 (by decide +kernel) (by decide +kernel))⟩⟩
set_option maxRecDepth 100000 in
theorem okX5_isTransitionInvariant : okM sX5_isTransitionInvariant := ⟨ws_of 1528 rfl rfl, ws_of 6 (by decide +kernel) (by decide +kernel), by decide +kernel, ⟨by decide +kernel, by decide +kernel⟩, by decide +kernel, ⟨rfl, ws_of 1526 (by decide +kernel) (by decide +kernel), Or.inr (ws_of 1527 (by decide +kernel) (by decide +kernel))⟩⟩
set_option maxRecDepth 100000 in
theorem okX5_weighted : okM sX5_weighted := ⟨ws_of 1536 rfl rfl, ws_of 6 (by decide +kernel) (by decide +kernel), by decide +kernel, ⟨by decide +kernel, by decide +kernel⟩, by decide +kernel, ⟨rfl, ws_of 1535 (by decide +kernel) (by decide +kernel), Or.inr (ws_sel 81 (by decide +kernel) (by decide +kernel))⟩⟩
set_option maxRecDepth 100000 in
theorem okX5_weightedTokens : okM sX5_weightedTokens := ⟨ws_of 1532 rfl rfl, ws_of 6 (by decide +kernel) (by decide +kernel), by decide +kernel, ⟨by decide +kernel, by decide +kernel⟩, by decide +kernel, ⟨rfl, ws_of 1530 (by decide +kernel) (by decide +kernel), Or.inr (ws_of 1531 (by decide +kernel) (by decide +kernel))⟩⟩
set_option maxRecDepth 100000 in
theorem okX5_vectorOf : okM sX5_vectorOf := ⟨ws_of 1548 rfl rfl, ws_of 6 (by decide +kernel) (by decide +kernel), by decide +kernel, ⟨by decide +kernel, by decide +kernel⟩, by decide +kernel, ⟨rfl, ws_of 1547 (by decide +kernel) (by decide +kernel), Or.inr (ws_sel 83 (by decide +kernel) (by decide +kernel))⟩⟩
set_option maxRecDepth 100000 in
theorem okX5_sets : okM sX5_sets := ⟨ws_of 1544 rfl rfl, ws_of 6 (by decide +kernel) (by decide +kernel), by decide +kernel, ⟨by decide +kernel, by decide +kernel⟩, by decide +kernel, ⟨rfl, ws_of 1543 (by decide +kernel) (by decide +kernel), Or.inr (ws_sel 82 (by decide +kernel) (by decide +kernel))⟩⟩
set_option maxRecDepth 100000 in
theorem okX5_simpleInvariants : okM sX5_simpleInvariants := ⟨ws_of 1540 rfl rfl, ws_of 6 (by decide +kernel) (by decide +kernel), by decide +kernel, ⟨by decide +kernel, by decide +kernel⟩, by decide +kernel, ⟨rfl, ws_of 1538 (by decide +kernel) (by decide +kernel), Or.inr (ws_of 1539 (by decide +kernel) (by decide +kernel))⟩⟩
set_option maxRecDepth 100000 in
theorem okX5_smallestInvariant : okM sX5_smallestInvariant := ⟨ws_of 1552 rfl rfl, ws_of 6 (by decide +kernel) (by decide +kernel), by decide +kernel, ⟨by decide +kernel, by decide +kernel⟩, by decide +kernel, ⟨rfl, ws_of 1550 (by decide +kernel) (by decide +kernel), Or.inr (ws_of 1551 (by decide +kernel) (by decide +kernel))⟩⟩
set_option maxRecDepth 100000 in
theorem okX5_coveredPlaces : okM sX5_coveredPlaces := ⟨ws_of 1556 rfl rfl, ws_of 6 (by decide +kernel) (by decide +kernel), by decide +kernel, ⟨by decide +kernel, by decide +kernel⟩, by decide +kernel, ⟨rfl, ws_of 1554 (by decide +kernel) (by decide +kernel), Or.inr (ws_of 1555 (by decide +kernel) (by decide +kernel))⟩⟩
set_option maxRecDepth 100000 in
theorem okX5_tokensAfterRun : okM sX5_tokensAfterRun := ⟨ws_of 1560 rfl rfl, ws_of 6 (by decide +kernel) (by decide +kernel), by decide +kernel, ⟨by decide +kernel, by decide +kernel⟩, by decide +kernel, ⟨rfl, ws_of 1558 (by decide +kernel) (by decide +kernel), Or.inr (ws_of 1559 (by decide +kernel) (by decide +kernel))⟩⟩
set_option maxRecDepth 100000 in
theorem okX5_runLength : okM sX5_runLength := ⟨ws_of 1564 rfl rfl, ws_of 6 (by decide +kernel) (by decide +kernel), by decide +kernel, ⟨by decide +kernel, by decide +kernel⟩, by decide +kernel, ⟨rfl, ws_of 1562 (by decide +kernel) (by decide +kernel), Or.inr (ws_of 1563 (by decide +kernel) (by decide +kernel))⟩⟩
set_option maxRecDepth 100000 in
theorem okX5_load : okM sX5_load := ⟨ws_of 1568 rfl rfl, ws_of 6 (by decide +kernel) (by decide +kernel), by decide +kernel, ⟨by decide +kernel, by decide +kernel⟩, by decide +kernel, ⟨rfl, ws_of 1566 (by decide +kernel) (by decide +kernel), Or.inr (ws_of 1567 (by decide +kernel) (by decide +kernel))⟩⟩
set_option maxRecDepth 100000 in
theorem okX5_enabledShare : okM sX5_enabledShare := ⟨ws_of 1572 rfl rfl, ws_of 6 (by decide +kernel) (by decide +kernel), by decide +kernel, ⟨by decide +kernel, by decide +kernel⟩, by decide +kernel, ⟨rfl, ws_of 1570 (by decide +kernel) (by decide +kernel), Or.inr (ws_of 1571 (by decide +kernel) (by decide +kernel))⟩⟩
set_option maxRecDepth 100000 in
theorem okX5_staysSame : okM sX5_staysSame := ⟨ws_of 1580 rfl rfl, ws_of 6 (by decide +kernel) (by decide +kernel), by decide +kernel, ⟨by decide +kernel, by decide +kernel⟩, by decide +kernel, ⟨rfl, ws_of 1579 (by decide +kernel) (by decide +kernel), Or.inr (ws_sel 84 (by decide +kernel) (by decide +kernel))⟩⟩
set_option maxRecDepth 100000 in
theorem okX5_violations : okM sX5_violations := ⟨ws_of 1576 rfl rfl, ws_of 6 (by decide +kernel) (by decide +kernel), by decide +kernel, ⟨by decide +kernel, by decide +kernel⟩, by decide +kernel, ⟨rfl, ws_of 1574 (by decide +kernel) (by decide +kernel), Or.inr (ws_of 1575 (by decide +kernel) (by decide +kernel))⟩⟩
set_option maxRecDepth 100000 in
theorem okX5_say : okM sX5_say := ⟨ws_of 1588 rfl rfl, ws_of 6 (by decide +kernel) (by decide +kernel), by decide +kernel, ⟨by decide +kernel, by decide +kernel⟩, by decide +kernel, ⟨rfl, ws_of 1587 (by decide +kernel) (by decide +kernel), Or.inr (ws_sel 85 (by decide +kernel) (by decide +kernel))⟩⟩
set_option maxRecDepth 100000 in
theorem okX5_sayNumber : okM sX5_sayNumber := ⟨ws_of 1592 rfl rfl, ws_of 6 (by decide +kernel) (by decide +kernel), by decide +kernel, ⟨by decide +kernel, by decide +kernel⟩, by decide +kernel, ⟨rfl, ws_of 1591 (by decide +kernel) (by decide +kernel), Or.inr (ws_sel 86 (by decide +kernel) (by decide +kernel))⟩⟩
set_option maxRecDepth 100000 in
theorem okX5_sayEnabled : okM sX5_sayEnabled := ⟨ws_of 1596 rfl rfl, ws_of 6 (by decide +kernel) (by decide +kernel), by decide +kernel, ⟨by decide +kernel, by decide +kernel⟩, by decide +kernel, ⟨rfl, ws_of 1595 (by decide +kernel) (by decide +kernel), Or.inr (ws_sel 87 (by decide +kernel) (by decide +kernel))⟩⟩
set_option maxRecDepth 100000 in
theorem okX5_writeMarking : okM sX5_writeMarking := ⟨ws_of 1584 rfl rfl, ws_of 6 (by decide +kernel) (by decide +kernel), by decide +kernel, ⟨by decide +kernel, by decide +kernel⟩, by decide +kernel, ⟨rfl, ws_of 1582 (by decide +kernel) (by decide +kernel), Or.inr (ws_of 1583 (by decide +kernel) (by decide +kernel))⟩⟩
set_option maxRecDepth 100000 in
theorem okX5_reportByte : okM sX5_reportByte := ⟨ws_of 1600 rfl rfl, ws_of 6 (by decide +kernel) (by decide +kernel), by decide +kernel, ⟨by decide +kernel, by decide +kernel⟩, by decide +kernel, ⟨rfl, ws_of 1598 (by decide +kernel) (by decide +kernel), Or.inr (ws_of 1599 (by decide +kernel) (by decide +kernel))⟩⟩
set_option maxRecDepth 100000 in
theorem okJ0_length_8abf5 : okM sJ0_length_8abf5 := ⟨ws_of 273 rfl rfl, ws_of 11 (by decide +kernel) (by decide +kernel), by decide +kernel, ⟨by decide +kernel, by decide +kernel⟩, by decide +kernel, ⟨rfl, ws_of 271 (by decide +kernel) (by decide +kernel), Or.inr (ws_of 272 (by decide +kernel) (by decide +kernel))⟩⟩
set_option maxRecDepth 100000 in
theorem okJ0_coder_7d493 : okM sJ0_coder_7d493 := ⟨ws_of 277 rfl rfl, ws_of 11 (by decide +kernel) (by decide +kernel), by decide +kernel, ⟨by decide +kernel, by decide +kernel⟩, by decide +kernel, ⟨rfl, ws_of 275 (by decide +kernel) (by decide +kernel), Or.inr (ws_of 276 (by decide +kernel) (by decide +kernel))⟩⟩
set_option maxRecDepth 100000 in
theorem okJ0_charAt_5068e : okM sJ0_charAt_5068e := ⟨ws_of 283 rfl rfl, ws_of 11 (by decide +kernel) (by decide +kernel), by decide +kernel, ⟨by decide +kernel, by decide +kernel⟩, by decide +kernel, ⟨rfl, ws_of 281 (by decide +kernel) (by decide +kernel), Or.inr (ws_of 282 (by decide +kernel) (by decide +kernel))⟩⟩
set_option maxRecDepth 100000 in
theorem okJ0_isLatin1_aae02 : okM sJ0_isLatin1_aae02 := ⟨ws_of 287 rfl rfl, ws_of 11 (by decide +kernel) (by decide +kernel), by decide +kernel, ⟨by decide +kernel, by decide +kernel⟩, by decide +kernel, ⟨rfl, ws_of 285 (by decide +kernel) (by decide +kernel), Or.inr (ws_of 286 (by decide +kernel) (by decide +kernel))⟩⟩
set_option maxRecDepth 100000 in
theorem okJ1_charAt_3b067 : okM sJ1_charAt_3b067 := ⟨ws_of 290 rfl rfl, ws_of 12 (by decide +kernel) (by decide +kernel), by decide +kernel, ⟨by decide +kernel, by decide +kernel⟩, by decide +kernel, ws_of 289 (by decide +kernel) (by decide +kernel)⟩
set_option maxRecDepth 100000 in
theorem okJ0_checkIndex_df160 : okM sJ0_checkIndex_df160 := ⟨ws_of 293 rfl rfl, ws_of 11 (by decide +kernel) (by decide +kernel), by decide +kernel, ⟨by decide +kernel, by decide +kernel⟩, by decide +kernel, ws_of 292 (by decide +kernel) (by decide +kernel)⟩
set_option maxRecDepth 100000 in
theorem okJ3_checkIndex_8e157 : okM sJ3_checkIndex_8e157 := ⟨ws_of 298 rfl rfl, ws_of 13 (by decide +kernel) (by decide +kernel), by decide +kernel, ⟨by decide +kernel, by decide +kernel⟩, by decide +kernel, ws_of 297 (by decide +kernel) (by decide +kernel)⟩
set_option maxRecDepth 100000 in
theorem okJ6_bitCount_0f7a4 : okM sJ6_bitCount_0f7a4 := ⟨ws_of 426 rfl rfl, ws_of 20 (by decide +kernel) (by decide +kernel), by decide +kernel, ⟨by decide +kernel, by decide +kernel⟩, by decide +kernel, ws_of 425 (by decide +kernel) (by decide +kernel)⟩
def eR : Nat → String := fun c => match c with
  | 0 => RX0
  | 1 => RX1
  | 2 => RX2
  | 3 => RX3
  | 4 => RX4
  | _ => RX5
def eT : Nat → u_T := fun c => match c with
  | 0 => TX0
  | 1 => TX1
  | 2 => TX2
  | 3 => TX3
  | 4 => TX4
  | _ => TX5
def eN : Nat → Nat := fun c => match c with
  | 0 => 9
  | 1 => 3
  | 2 => 8
  | 3 => 8
  | 4 => 11
  | _ => 25
def eTy : Nat → Nat → FieldType := fun c => match c with
  | 0 => tyX0
  | 1 => tyX1
  | 2 => tyX2
  | 3 => tyX3
  | 4 => tyX4
  | _ => tyX5
def fL0 : List (Nat × Nat × Nat) := [(9, 0, 0), (15, 0, 1), (19, 0, 2), (22, 0, 3), (25, 0, 4), (28, 0, 5), (34, 0, 6), (38, 0, 7), (42, 0, 8), (58, 2, 1), (94, 2, 0)]
def fL1 : List (Nat × Nat × Nat) := [(11, 1, 0), (18, 1, 1), (22, 1, 2)]
def fL2 : List (Nat × Nat × Nat) := [(9, 2, 0), (15, 2, 1), (18, 2, 2), (22, 2, 3), (25, 2, 4), (28, 2, 5), (31, 2, 6), (34, 2, 7)]
def fL3 : List (Nat × Nat × Nat) := [(9, 3, 0), (15, 3, 1), (22, 3, 2), (26, 3, 3), (29, 3, 4), (32, 3, 5), (35, 3, 6), (38, 3, 7), (81, 2, 4), (89, 2, 5), (95, 2, 6), (119, 2, 0), (122, 2, 3), (125, 2, 2), (133, 2, 1)]
def fL4 : List (Nat × Nat × Nat) := [(13, 4, 0), (20, 4, 1), (23, 4, 2), (26, 4, 3), (33, 4, 4), (40, 4, 5), (47, 4, 6), (51, 4, 7), (54, 4, 8), (58, 4, 9), (62, 4, 10), (70, 2, 3), (73, 2, 2), (76, 2, 4), (83, 2, 5), (86, 2, 6), (93, 3, 1), (106, 3, 3), (112, 3, 2), (143, 2, 7), (154, 0, 7), (160, 0, 0), (168, 0, 1), (185, 1, 2), (197, 3, 4), (200, 2, 0), (203, 2, 1), (226, 0, 8), (232, 0, 2), (235, 0, 3)]
def fL5 : List (Nat × Nat × Nat) := [(9, 5, 1), (15, 5, 2), (18, 5, 4), (21, 5, 6), (24, 5, 7), (27, 5, 8), (30, 5, 10), (34, 5, 12), (37, 5, 13), (40, 5, 14), (43, 5, 24), (59, 5, 0), (62, 5, 3), (109, 5, 15), (124, 5, 16), (165, 5, 5), (171, 5, 9), (174, 5, 17), (177, 5, 18), (180, 5, 19), (189, 5, 20), (192, 5, 21), (204, 5, 22), (238, 5, 23), (307, 5, 11)]
def fL6 : List (Nat × Nat × Nat) := []
def fL7 : List (Nat × Nat × Nat) := []
def fL8 : List (Nat × Nat × Nat) := []
def fL9 : List (Nat × Nat × Nat) := []
def fL10 : List (Nat × Nat × Nat) := []
def mL0 : List (Nat × MS) := [(33, sX2_init), (46, sX0_start), (50, sX2_packMarking), (54, sX0_visit), (61, sX0_isEnabledIn), (65, sX2_copyFrom), (68, sX2_packChange), (72, sX0_slotOf), (76, sX2_unpackMarking), (80, sX2_enabledSet), (86, sX2_unpackTokens), (90, sX0_tokensOf), (97, sX0_tokensIn)]
def mL1 : List (Nat × MS) := [(17, sX2_init), (25, sX2_copyFrom)]
def mL2 : List (Nat × MS) := [(43, sX2_arc), (47, sX2_reasonAt), (50, sX2_reasonAgainst), (54, sX2_allows), (58, sX2_change), (61, sX2_nextToFire), (65, sX2_fireOnce), (69, sX2_unpackTokens)]
def mL3 : List (Nat × MS) := [(21, sX2_init), (41, sX3_readToken), (44, sX3_readHeader), (48, sX3_readSemicolon), (51, sX3_readCommand), (55, sX3_isWord), (59, sX3_fail), (63, sX3_readNumber), (67, sX2_clear), (71, sX3_commandOfToken), (75, sX3_readTokens), (78, sX3_readCapacity), (85, sX3_readArcFromPlace), (92, sX3_readArcFromTransition), (98, sX3_readFire), (101, sX2_advance), (136, sX2_arc), (139, sX2_allows), (142, sX2_fireOnce), (146, sJ0_length_8abf5), (150, sJ0_charAt_5068e), (154, sX3_isLetter), (157, sX3_isDigit)]
def mL4 : List (Nat × MS) := [(9, sX4_firstNet), (19, sX2_init), (32, sX1_init), (39, sX3_init), (46, sX0_init), (66, sX2_clear), (79, sX2_arc), (89, sX2_fireOnce), (96, sX3_addFourBytes), (99, sX4_checkRange), (103, sX3_execute), (109, sX4_beginChange), (113, sX2_copyFrom), (117, sX2_sumOfTokens), (121, sX4_checkPlace), (131, sX4_checkArc), (134, sX4_checkTransition), (137, sX2_allows), (146, sX2_advance), (150, sX4_explored), (157, sX4_checkMarking), (164, sX2_unpackMarking), (171, sX2_swapInputsAndOutputs), (174, sX2_enabledSet), (177, sJ6_bitCount_0f7a4), (182, sX1_push), (186, sX1_popInto), (194, sX1_forgetAll), (206, sX2_change), (209, sX2_placesWithWeight), (213, sX2_reasonAgainst), (216, sX2_firstBlocker), (219, sX2_nextToFire), (222, sX4_disables), (229, sX0_tokensIn), (243, sX0_isEnabledIn), (246, sX0_leadsHome), (249, sX0_explore), (252, sX4_readVector), (255, sX2_keepsWeightedTokens), (259, sX2_keepsMarking), (262, sX4_isSimpleInvariant), (265, sX4_vectorOf), (275, sX2_placesOutOfRange), (278, sX0_keepsTokensOf), (281, sX4_put), (284, sX4_putNumber), (287, sX4_putEnabled)]
def mL5 : List (Nat × MS) := [(47, sX5_start), (51, sX5_put), (55, sX5_fireIt), (65, sX5_copy), (69, sX5_outside), (73, sX5_arc), (77, sX5_tokensOf), (81, sX5_effectOf), (85, sX5_capacityOf), (88, sX5_applies), (92, sX5_firstPlace), (95, sX5_reasonOf), (98, sX5_enabled), (102, sX5_move), (105, sX5_nextFired), (112, sX5_isMarking), (115, sX5_take), (118, sX5_known), (121, sX5_note), (128, sX5_follow), (131, sX5_noPlace), (134, sX5_remember), (138, sX5_raise), (142, sX5_noTransition), (145, sX5_setArc), (149, sX5_runIt), (152, sX5_explore), (155, sX5_noMarking), (159, sX5_enabledSet), (162, sX5_ones), (168, sX5_allTokens), (183, sX5_letterAt), (186, sX5_digitAt), (195, sJ0_length_8abf5), (200, sJ0_charAt_5068e), (207, sX5_good), (211, sX5_scan), (214, sX5_fail), (217, sX5_numberHere), (220, sX5_advance), (223, sX5_number), (228, sX5_isWord), (232, sX5_ends), (235, sX5_command), (243, sX5_aPlace), (250, sX5_aTransition), (253, sX5_arcCommand), (259, sX5_placedArc), (264, sX5_firingCommand), (271, sX5_type), (274, sX5_placesOf), (277, sX5_disables), (280, sX5_deadAt), (283, sX5_leadsHome), (286, sX5_digit), (289, sX5_noVector), (292, sX5_keeps), (295, sX5_weighted), (298, sX5_sets), (301, sX5_vectorOf), (304, sX5_staysSame), (310, sX5_say), (313, sX5_sayNumber), (316, sX5_sayEnabled)]
def mL6 : List (Nat × MS) := [(7, sX4_truncateInput), (15, sX4_setTokens), (21, sX4_setCapacity), (26, sX4_setInput), (30, sX4_setOutput), (33, sX4_setInhibitor), (36, sX4_fire), (39, sX4_run), (42, sX4_moveToMarking), (47, sX4_restoreSnapshot), (51, sX4_tokens), (54, sX4_capacity), (57, sX4_effect), (60, sX4_inputPlaces), (63, sX4_outputPlaces), (66, sX4_consumers), (69, sX4_whyNotEnabled), (72, sX4_blockingPlace), (75, sX4_firings), (78, sX4_firesInRow), (81, sX4_areInConflict), (85, sX4_markingTokens), (88, sX4_markingDistance), (91, sX4_markingTransition), (94, sX4_bound), (97, sX4_canFire), (101, sX4_distanceToEmpty), (104, sX4_isPlaceInvariant), (107, sX4_isTransitionInvariant), (110, sX4_weightedTokens), (113, sX4_tokensAfterRun), (116, sX4_init), (119, sX5_init), (120, sX4_append), (124, sX5_append), (130, sX5_truncateInput), (131, sX5_thrown), (134, sX4_inputLength), (137, sX5_inputLength), (138, sX4_runScript), (141, sX5_runScript), (145, sX5_setTokens), (148, sX5_setCapacity), (152, sX5_setInput), (155, sX5_setOutput), (158, sX5_setInhibitor), (161, sX5_fire), (164, sX5_run), (167, sX5_moveToMarking), (168, sX4_reverseNet), (171, sX5_reverseNet), (172, sX4_undo), (175, sX5_undo), (176, sX4_undoCount), (179, sX5_undoCount), (180, sX4_saveSnapshot), (183, sX5_saveSnapshot), (187, sX5_restoreSnapshot), (188, sX4_scriptErrorKind), (191, sX5_scriptErrorKind), (192, sX4_scriptErrorOffset), (195, sX5_scriptErrorOffset), (196, sX4_placeCount), (199, sX5_placeCount), (200, sX4_transitionCount), (203, sX5_transitionCount), (206, sX5_tokens), (209, sX5_capacity), (212, sX5_effect), (213, sX4_totalTokens), (216, sX5_totalTokens), (219, sX5_inputPlaces), (222, sX5_outputPlaces), (225, sX5_consumers), (228, sX5_whyNotEnabled), (231, sX5_blockingPlace), (232, sX4_enabledTransitions), (235, sX5_enabledTransitions), (236, sX4_isDead), (240, sX5_isDead), (243, sX5_firings), (244, sX4_nextOfRun), (247, sX5_nextOfRun), (250, sX5_firesInRow), (253, sX5_areInConflict), (254, sX4_markingCount), (257, sX5_markingCount), (258, sX4_isComplete), (261, sX5_isComplete), (264, sX5_markingTokens), (267, sX5_markingDistance), (270, sX5_markingTransition), (271, sX4_firstDeadMarking), (274, sX5_firstDeadMarking), (275, sX4_deadMarkings), (278, sX5_deadMarkings), (281, sX5_bound), (284, sX5_canFire), (285, sX4_returnsHome), (288, sX5_returnsHome), (291, sX5_distanceToEmpty), (294, sX5_isPlaceInvariant), (297, sX5_isTransitionInvariant), (300, sX5_weightedTokens), (301, sX4_simpleInvariants), (304, sX5_simpleInvariants), (305, sX4_smallestInvariant), (308, sX5_smallestInvariant), (309, sX4_coveredPlaces), (312, sX5_coveredPlaces), (315, sX5_tokensAfterRun), (316, sX4_runLength), (319, sX5_runLength), (320, sX4_load), (324, sX5_load), (325, sX4_enabledShare), (329, sX5_enabledShare), (330, sX4_violations), (333, sX5_violations), (334, sX4_writeMarking), (337, sX5_writeMarking), (338, sX4_reportByte), (341, sX5_reportByte)]
def mL7 : List (Nat × MS) := []
def mL8 : List (Nat × MS) := [(335, sJ0_coder_7d493), (492, sJ0_isLatin1_aae02), (495, sJ1_charAt_3b067), (1059, sJ3_checkIndex_8e157)]
def mL9 : List (Nat × MS) := [(9, sJ0_checkIndex_df160)]
def mL10 : List (Nat × MS) := []
def tfind {α : Type} : List (Nat × α) → Nat → Option α
  | [], _ => none
  | (i, v) :: r, k => if i = k then some v else tfind r k
theorem tfind_mem {α : Type} {l : List (Nat × α)} {k : Nat} {v : α} (h : tfind l k = some v) : (k, v) ∈ l := by
  induction l with
  | nil => cases h
  | cons x r ih =>
    obtain ⟨i, u⟩ := x
    unfold tfind at h
    by_cases e : i = k
    · rw [if_pos e] at h; cases h; rw [e]; exact List.mem_cons_self
    · rw [if_neg e] at h; exact List.mem_cons_of_mem _ (ih h)
def fLs : Nat → List (Nat × Nat × Nat) := fun o => match o with
  | 0 => fL0
  | 1 => fL1
  | 2 => fL2
  | 3 => fL3
  | 4 => fL4
  | 5 => fL5
  | 6 => fL6
  | 7 => fL7
  | 8 => fL8
  | 9 => fL9
  | _ => fL10
def mLs : Nat → List (Nat × MS) := fun o => match o with
  | 0 => mL0
  | 1 => mL1
  | 2 => mL2
  | 3 => mL3
  | 4 => mL4
  | 5 => mL5
  | 6 => mL6
  | 7 => mL7
  | 8 => mL8
  | 9 => mL9
  | _ => mL10
def fT (o k : Nat) : Option (Nat × Nat) := tfind (fLs o) k
def mT (o k : Nat) : Option MS := tfind (mLs o) k
def okF (o : Nat) (q : Nat × Nat × Nat) : Prop := q.2.1 < 6 ∧ q.2.2 < eN q.2.1 ∧ (eT q.2.1 q.2.2).1 = eR q.2.1 ∧ Cond.fieldLink (oR o) q.1 (eR q.2.1) (eT q.2.1 q.2.2).2.1 (eT q.2.1 q.2.2).2.2.1 ∈ WS
def okL (o : Nat) (q : Nat × MS) : Prop := okM q.2 ∧ Cond.methodLink (oR o) q.1 q.2.1 ∈ WS
theorem okF0_9 : okF 0 (9, 0, 0) := ⟨by decide, by decide, by decide, ws_of 162 (by decide +kernel) (by decide +kernel)⟩
theorem okF0_15 : okF 0 (15, 0, 1) := ⟨by decide, by decide, by decide, ws_of 164 (by decide +kernel) (by decide +kernel)⟩
theorem okF0_19 : okF 0 (19, 0, 2) := ⟨by decide, by decide, by decide, ws_of 166 (by decide +kernel) (by decide +kernel)⟩
theorem okF0_22 : okF 0 (22, 0, 3) := ⟨by decide, by decide, by decide, ws_of 168 (by decide +kernel) (by decide +kernel)⟩
theorem okF0_25 : okF 0 (25, 0, 4) := ⟨by decide, by decide, by decide, ws_of 170 (by decide +kernel) (by decide +kernel)⟩
theorem okF0_28 : okF 0 (28, 0, 5) := ⟨by decide, by decide, by decide, ws_of 171 (by decide +kernel) (by decide +kernel)⟩
theorem okF0_34 : okF 0 (34, 0, 6) := ⟨by decide, by decide, by decide, ws_of 172 (by decide +kernel) (by decide +kernel)⟩
theorem okF0_38 : okF 0 (38, 0, 7) := ⟨by decide, by decide, by decide, ws_of 173 (by decide +kernel) (by decide +kernel)⟩
theorem okF0_42 : okF 0 (42, 0, 8) := ⟨by decide, by decide, by decide, ws_of 175 (by decide +kernel) (by decide +kernel)⟩
theorem okF0_58 : okF 0 (58, 2, 1) := ⟨by decide, by decide, by decide, ws_of 43 (by decide +kernel) (by decide +kernel)⟩
theorem okF0_94 : okF 0 (94, 2, 0) := ⟨by decide, by decide, by decide, ws_of 40 (by decide +kernel) (by decide +kernel)⟩
theorem okFs0 : ∀ q ∈ fL0, okF 0 q := List.forall_mem_cons.mpr ⟨okF0_9, List.forall_mem_cons.mpr ⟨okF0_15, List.forall_mem_cons.mpr ⟨okF0_19, List.forall_mem_cons.mpr ⟨okF0_22, List.forall_mem_cons.mpr ⟨okF0_25, List.forall_mem_cons.mpr ⟨okF0_28, List.forall_mem_cons.mpr ⟨okF0_34, List.forall_mem_cons.mpr ⟨okF0_38, List.forall_mem_cons.mpr ⟨okF0_42, List.forall_mem_cons.mpr ⟨okF0_58, List.forall_mem_cons.mpr ⟨okF0_94, fun _ h => absurd h List.not_mem_nil⟩⟩⟩⟩⟩⟩⟩⟩⟩⟩⟩
theorem okL0_33 : okL 0 (33, sX2_init) := ⟨okX2_init, ws_of 161 (by decide +kernel) (by decide +kernel)⟩
theorem okL0_46 : okL 0 (46, sX0_start) := ⟨okX0_start, ws_of 491 (by decide +kernel) (by decide +kernel)⟩
theorem okL0_50 : okL 0 (50, sX2_packMarking) := ⟨okX2_packMarking, ws_of 500 (by decide +kernel) (by decide +kernel)⟩
theorem okL0_54 : okL 0 (54, sX0_visit) := ⟨okX0_visit, ws_of 504 (by decide +kernel) (by decide +kernel)⟩
theorem okL0_61 : okL 0 (61, sX0_isEnabledIn) := ⟨okX0_isEnabledIn, ws_of 521 (by decide +kernel) (by decide +kernel)⟩
theorem okL0_65 : okL 0 (65, sX2_copyFrom) := ⟨okX2_copyFrom, ws_of 495 (by decide +kernel) (by decide +kernel)⟩
theorem okL0_68 : okL 0 (68, sX2_packChange) := ⟨okX2_packChange, ws_of 496 (by decide +kernel) (by decide +kernel)⟩
theorem okL0_72 : okL 0 (72, sX0_slotOf) := ⟨okX0_slotOf, ws_of 508 (by decide +kernel) (by decide +kernel)⟩
theorem okL0_76 : okL 0 (76, sX2_unpackMarking) := ⟨okX2_unpackMarking, ws_of 513 (by decide +kernel) (by decide +kernel)⟩
theorem okL0_80 : okL 0 (80, sX2_enabledSet) := ⟨okX2_enabledSet, ws_of 520 (by decide +kernel) (by decide +kernel)⟩
theorem okL0_86 : okL 0 (86, sX2_unpackTokens) := ⟨okX2_unpackTokens, ws_of 601 (by decide +kernel) (by decide +kernel)⟩
theorem okL0_90 : okL 0 (90, sX0_tokensOf) := ⟨okX0_tokensOf, ws_of 593 (by decide +kernel) (by decide +kernel)⟩
theorem okL0_97 : okL 0 (97, sX0_tokensIn) := ⟨okX0_tokensIn, ws_of 597 (by decide +kernel) (by decide +kernel)⟩
theorem okLs0 : ∀ q ∈ mL0, okL 0 q := List.forall_mem_cons.mpr ⟨okL0_33, List.forall_mem_cons.mpr ⟨okL0_46, List.forall_mem_cons.mpr ⟨okL0_50, List.forall_mem_cons.mpr ⟨okL0_54, List.forall_mem_cons.mpr ⟨okL0_61, List.forall_mem_cons.mpr ⟨okL0_65, List.forall_mem_cons.mpr ⟨okL0_68, List.forall_mem_cons.mpr ⟨okL0_72, List.forall_mem_cons.mpr ⟨okL0_76, List.forall_mem_cons.mpr ⟨okL0_80, List.forall_mem_cons.mpr ⟨okL0_86, List.forall_mem_cons.mpr ⟨okL0_90, List.forall_mem_cons.mpr ⟨okL0_97, fun _ h => absurd h List.not_mem_nil⟩⟩⟩⟩⟩⟩⟩⟩⟩⟩⟩⟩⟩
theorem okF1_11 : okF 1 (11, 1, 0) := ⟨by decide, by decide, by decide, ws_of 105 (by decide +kernel) (by decide +kernel)⟩
theorem okF1_18 : okF 1 (18, 1, 1) := ⟨by decide, by decide, by decide, ws_of 106 (by decide +kernel) (by decide +kernel)⟩
theorem okF1_22 : okF 1 (22, 1, 2) := ⟨by decide, by decide, by decide, ws_of 107 (by decide +kernel) (by decide +kernel)⟩
theorem okFs1 : ∀ q ∈ fL1, okF 1 q := List.forall_mem_cons.mpr ⟨okF1_11, List.forall_mem_cons.mpr ⟨okF1_18, List.forall_mem_cons.mpr ⟨okF1_22, fun _ h => absurd h List.not_mem_nil⟩⟩⟩
theorem okL1_17 : okL 1 (17, sX2_init) := ⟨okX2_init, ws_of 104 (by decide +kernel) (by decide +kernel)⟩
theorem okL1_25 : okL 1 (25, sX2_copyFrom) := ⟨okX2_copyFrom, ws_of 397 (by decide +kernel) (by decide +kernel)⟩
theorem okLs1 : ∀ q ∈ mL1, okL 1 q := List.forall_mem_cons.mpr ⟨okL1_17, List.forall_mem_cons.mpr ⟨okL1_25, fun _ h => absurd h List.not_mem_nil⟩⟩
theorem okF2_9 : okF 2 (9, 2, 0) := ⟨by decide, by decide, by decide, ws_of 38 (by decide +kernel) (by decide +kernel)⟩
theorem okF2_15 : okF 2 (15, 2, 1) := ⟨by decide, by decide, by decide, ws_of 42 (by decide +kernel) (by decide +kernel)⟩
theorem okF2_18 : okF 2 (18, 2, 2) := ⟨by decide, by decide, by decide, ws_of 46 (by decide +kernel) (by decide +kernel)⟩
theorem okF2_22 : okF 2 (22, 2, 3) := ⟨by decide, by decide, by decide, ws_of 49 (by decide +kernel) (by decide +kernel)⟩
theorem okF2_25 : okF 2 (25, 2, 4) := ⟨by decide, by decide, by decide, ws_of 52 (by decide +kernel) (by decide +kernel)⟩
theorem okF2_28 : okF 2 (28, 2, 5) := ⟨by decide, by decide, by decide, ws_of 55 (by decide +kernel) (by decide +kernel)⟩
theorem okF2_31 : okF 2 (31, 2, 6) := ⟨by decide, by decide, by decide, ws_of 58 (by decide +kernel) (by decide +kernel)⟩
theorem okF2_34 : okF 2 (34, 2, 7) := ⟨by decide, by decide, by decide, ws_of 61 (by decide +kernel) (by decide +kernel)⟩
theorem okFs2 : ∀ q ∈ fL2, okF 2 q := List.forall_mem_cons.mpr ⟨okF2_9, List.forall_mem_cons.mpr ⟨okF2_15, List.forall_mem_cons.mpr ⟨okF2_18, List.forall_mem_cons.mpr ⟨okF2_22, List.forall_mem_cons.mpr ⟨okF2_25, List.forall_mem_cons.mpr ⟨okF2_28, List.forall_mem_cons.mpr ⟨okF2_31, List.forall_mem_cons.mpr ⟨okF2_34, fun _ h => absurd h List.not_mem_nil⟩⟩⟩⟩⟩⟩⟩⟩
theorem okL2_43 : okL 2 (43, sX2_arc) := ⟨okX2_arc, ws_of 872 (by decide +kernel) (by decide +kernel)⟩
theorem okL2_47 : okL 2 (47, sX2_reasonAt) := ⟨okX2_reasonAt, ws_of 374 (by decide +kernel) (by decide +kernel)⟩
theorem okL2_50 : okL 2 (50, sX2_reasonAgainst) := ⟨okX2_reasonAgainst, ws_of 909 (by decide +kernel) (by decide +kernel)⟩
theorem okL2_54 : okL 2 (54, sX2_allows) := ⟨okX2_allows, ws_of 387 (by decide +kernel) (by decide +kernel)⟩
theorem okL2_58 : okL 2 (58, sX2_change) := ⟨okX2_change, ws_of 92 (by decide +kernel) (by decide +kernel)⟩
theorem okL2_61 : okL 2 (61, sX2_nextToFire) := ⟨okX2_nextToFire, ws_of 383 (by decide +kernel) (by decide +kernel)⟩
theorem okL2_65 : okL 2 (65, sX2_fireOnce) := ⟨okX2_fireOnce, ws_of 388 (by decide +kernel) (by decide +kernel)⟩
theorem okL2_69 : okL 2 (69, sX2_unpackTokens) := ⟨okX2_unpackTokens, ws_of 517 (by decide +kernel) (by decide +kernel)⟩
theorem okLs2 : ∀ q ∈ mL2, okL 2 q := List.forall_mem_cons.mpr ⟨okL2_43, List.forall_mem_cons.mpr ⟨okL2_47, List.forall_mem_cons.mpr ⟨okL2_50, List.forall_mem_cons.mpr ⟨okL2_54, List.forall_mem_cons.mpr ⟨okL2_58, List.forall_mem_cons.mpr ⟨okL2_61, List.forall_mem_cons.mpr ⟨okL2_65, List.forall_mem_cons.mpr ⟨okL2_69, fun _ h => absurd h List.not_mem_nil⟩⟩⟩⟩⟩⟩⟩⟩
theorem okF3_9 : okF 3 (9, 3, 0) := ⟨by decide, by decide, by decide, ws_of 124 (by decide +kernel) (by decide +kernel)⟩
theorem okF3_15 : okF 3 (15, 3, 1) := ⟨by decide, by decide, by decide, ws_of 125 (by decide +kernel) (by decide +kernel)⟩
theorem okF3_22 : okF 3 (22, 3, 2) := ⟨by decide, by decide, by decide, ws_of 127 (by decide +kernel) (by decide +kernel)⟩
theorem okF3_26 : okF 3 (26, 3, 3) := ⟨by decide, by decide, by decide, ws_of 129 (by decide +kernel) (by decide +kernel)⟩
theorem okF3_29 : okF 3 (29, 3, 4) := ⟨by decide, by decide, by decide, ws_of 131 (by decide +kernel) (by decide +kernel)⟩
theorem okF3_32 : okF 3 (32, 3, 5) := ⟨by decide, by decide, by decide, ws_of 133 (by decide +kernel) (by decide +kernel)⟩
theorem okF3_35 : okF 3 (35, 3, 6) := ⟨by decide, by decide, by decide, ws_of 134 (by decide +kernel) (by decide +kernel)⟩
theorem okF3_38 : okF 3 (38, 3, 7) := ⟨by decide, by decide, by decide, ws_of 135 (by decide +kernel) (by decide +kernel)⟩
theorem okF3_81 : okF 3 (81, 2, 4) := ⟨by decide, by decide, by decide, ws_of 54 (by decide +kernel) (by decide +kernel)⟩
theorem okF3_89 : okF 3 (89, 2, 5) := ⟨by decide, by decide, by decide, ws_of 57 (by decide +kernel) (by decide +kernel)⟩
theorem okF3_95 : okF 3 (95, 2, 6) := ⟨by decide, by decide, by decide, ws_of 60 (by decide +kernel) (by decide +kernel)⟩
theorem okF3_119 : okF 3 (119, 2, 0) := ⟨by decide, by decide, by decide, ws_of 39 (by decide +kernel) (by decide +kernel)⟩
theorem okF3_122 : okF 3 (122, 2, 3) := ⟨by decide, by decide, by decide, ws_of 51 (by decide +kernel) (by decide +kernel)⟩
theorem okF3_125 : okF 3 (125, 2, 2) := ⟨by decide, by decide, by decide, ws_of 48 (by decide +kernel) (by decide +kernel)⟩
theorem okF3_133 : okF 3 (133, 2, 1) := ⟨by decide, by decide, by decide, ws_of 44 (by decide +kernel) (by decide +kernel)⟩
theorem okFs3 : ∀ q ∈ fL3, okF 3 q := List.forall_mem_cons.mpr ⟨okF3_9, List.forall_mem_cons.mpr ⟨okF3_15, List.forall_mem_cons.mpr ⟨okF3_22, List.forall_mem_cons.mpr ⟨okF3_26, List.forall_mem_cons.mpr ⟨okF3_29, List.forall_mem_cons.mpr ⟨okF3_32, List.forall_mem_cons.mpr ⟨okF3_35, List.forall_mem_cons.mpr ⟨okF3_38, List.forall_mem_cons.mpr ⟨okF3_81, List.forall_mem_cons.mpr ⟨okF3_89, List.forall_mem_cons.mpr ⟨okF3_95, List.forall_mem_cons.mpr ⟨okF3_119, List.forall_mem_cons.mpr ⟨okF3_122, List.forall_mem_cons.mpr ⟨okF3_125, List.forall_mem_cons.mpr ⟨okF3_133, fun _ h => absurd h List.not_mem_nil⟩⟩⟩⟩⟩⟩⟩⟩⟩⟩⟩⟩⟩⟩⟩
theorem okL3_21 : okL 3 (21, sX2_init) := ⟨okX2_init, ws_of 123 (by decide +kernel) (by decide +kernel)⟩
theorem okL3_41 : okL 3 (41, sX3_readToken) := ⟨okX3_readToken, ws_of 251 (by decide +kernel) (by decide +kernel)⟩
theorem okL3_44 : okL 3 (44, sX3_readHeader) := ⟨okX3_readHeader, ws_of 261 (by decide +kernel) (by decide +kernel)⟩
theorem okL3_48 : okL 3 (48, sX3_readSemicolon) := ⟨okX3_readSemicolon, ws_of 327 (by decide +kernel) (by decide +kernel)⟩
theorem okL3_51 : okL 3 (51, sX3_readCommand) := ⟨okX3_readCommand, ws_of 331 (by decide +kernel) (by decide +kernel)⟩
theorem okL3_55 : okL 3 (55, sX3_isWord) := ⟨okX3_isWord, ws_of 266 (by decide +kernel) (by decide +kernel)⟩
theorem okL3_59 : okL 3 (59, sX3_fail) := ⟨okX3_fail, ws_of 318 (by decide +kernel) (by decide +kernel)⟩
theorem okL3_63 : okL 3 (63, sX3_readNumber) := ⟨okX3_readNumber, ws_of 322 (by decide +kernel) (by decide +kernel)⟩
theorem okL3_67 : okL 3 (67, sX2_clear) := ⟨okX2_clear, ws_of 326 (by decide +kernel) (by decide +kernel)⟩
theorem okL3_71 : okL 3 (71, sX3_commandOfToken) := ⟨okX3_commandOfToken, ws_of 335 (by decide +kernel) (by decide +kernel)⟩
theorem okL3_75 : okL 3 (75, sX3_readTokens) := ⟨okX3_readTokens, ws_of 346 (by decide +kernel) (by decide +kernel)⟩
theorem okL3_78 : okL 3 (78, sX3_readCapacity) := ⟨okX3_readCapacity, ws_of 350 (by decide +kernel) (by decide +kernel)⟩
theorem okL3_85 : okL 3 (85, sX3_readArcFromPlace) := ⟨okX3_readArcFromPlace, ws_of 357 (by decide +kernel) (by decide +kernel)⟩
theorem okL3_92 : okL 3 (92, sX3_readArcFromTransition) := ⟨okX3_readArcFromTransition, ws_of 362 (by decide +kernel) (by decide +kernel)⟩
theorem okL3_98 : okL 3 (98, sX3_readFire) := ⟨okX3_readFire, ws_of 366 (by decide +kernel) (by decide +kernel)⟩
theorem okL3_101 : okL 3 (101, sX2_advance) := ⟨okX2_advance, ws_of 379 (by decide +kernel) (by decide +kernel)⟩
theorem okL3_136 : okL 3 (136, sX2_arc) := ⟨okX2_arc, ws_of 361 (by decide +kernel) (by decide +kernel)⟩
theorem okL3_139 : okL 3 (139, sX2_allows) := ⟨okX2_allows, ws_of 370 (by decide +kernel) (by decide +kernel)⟩
theorem okL3_142 : okL 3 (142, sX2_fireOnce) := ⟨okX2_fireOnce, ws_of 378 (by decide +kernel) (by decide +kernel)⟩
theorem okL3_146 : okL 3 (146, sJ0_length_8abf5) := ⟨okJ0_length_8abf5, ws_of 270 (by decide +kernel) (by decide +kernel)⟩
theorem okL3_150 : okL 3 (150, sJ0_charAt_5068e) := ⟨okJ0_charAt_5068e, ws_of 280 (by decide +kernel) (by decide +kernel)⟩
theorem okL3_154 : okL 3 (154, sX3_isLetter) := ⟨okX3_isLetter, ws_of 255 (by decide +kernel) (by decide +kernel)⟩
theorem okL3_157 : okL 3 (157, sX3_isDigit) := ⟨okX3_isDigit, ws_of 258 (by decide +kernel) (by decide +kernel)⟩
theorem okLs3 : ∀ q ∈ mL3, okL 3 q := List.forall_mem_cons.mpr ⟨okL3_21, List.forall_mem_cons.mpr ⟨okL3_41, List.forall_mem_cons.mpr ⟨okL3_44, List.forall_mem_cons.mpr ⟨okL3_48, List.forall_mem_cons.mpr ⟨okL3_51, List.forall_mem_cons.mpr ⟨okL3_55, List.forall_mem_cons.mpr ⟨okL3_59, List.forall_mem_cons.mpr ⟨okL3_63, List.forall_mem_cons.mpr ⟨okL3_67, List.forall_mem_cons.mpr ⟨okL3_71, List.forall_mem_cons.mpr ⟨okL3_75, List.forall_mem_cons.mpr ⟨okL3_78, List.forall_mem_cons.mpr ⟨okL3_85, List.forall_mem_cons.mpr ⟨okL3_92, List.forall_mem_cons.mpr ⟨okL3_98, List.forall_mem_cons.mpr ⟨okL3_101, List.forall_mem_cons.mpr ⟨okL3_136, List.forall_mem_cons.mpr ⟨okL3_139, List.forall_mem_cons.mpr ⟨okL3_142, List.forall_mem_cons.mpr ⟨okL3_146, List.forall_mem_cons.mpr ⟨okL3_150, List.forall_mem_cons.mpr ⟨okL3_154, List.forall_mem_cons.mpr ⟨okL3_157, fun _ h => absurd h List.not_mem_nil⟩⟩⟩⟩⟩⟩⟩⟩⟩⟩⟩⟩⟩⟩⟩⟩⟩⟩⟩⟩⟩⟩⟩
theorem okF4_13 : okF 4 (13, 4, 0) := ⟨by decide, by decide, by decide, ws_of 197 (by decide +kernel) (by decide +kernel)⟩
theorem okF4_20 : okF 4 (20, 4, 1) := ⟨by decide, by decide, by decide, ws_of 198 (by decide +kernel) (by decide +kernel)⟩
theorem okF4_23 : okF 4 (23, 4, 2) := ⟨by decide, by decide, by decide, ws_of 199 (by decide +kernel) (by decide +kernel)⟩
theorem okF4_26 : okF 4 (26, 4, 3) := ⟨by decide, by decide, by decide, ws_of 200 (by decide +kernel) (by decide +kernel)⟩
theorem okF4_33 : okF 4 (33, 4, 4) := ⟨by decide, by decide, by decide, ws_of 201 (by decide +kernel) (by decide +kernel)⟩
theorem okF4_40 : okF 4 (40, 4, 5) := ⟨by decide, by decide, by decide, ws_of 202 (by decide +kernel) (by decide +kernel)⟩
theorem okF4_47 : okF 4 (47, 4, 6) := ⟨by decide, by decide, by decide, ws_of 203 (by decide +kernel) (by decide +kernel)⟩
theorem okF4_51 : okF 4 (51, 4, 7) := ⟨by decide, by decide, by decide, ws_of 204 (by decide +kernel) (by decide +kernel)⟩
theorem okF4_54 : okF 4 (54, 4, 8) := ⟨by decide, by decide, by decide, ws_of 205 (by decide +kernel) (by decide +kernel)⟩
theorem okF4_58 : okF 4 (58, 4, 9) := ⟨by decide, by decide, by decide, ws_of 206 (by decide +kernel) (by decide +kernel)⟩
theorem okF4_62 : okF 4 (62, 4, 10) := ⟨by decide, by decide, by decide, ws_of 207 (by decide +kernel) (by decide +kernel)⟩
theorem okF4_70 : okF 4 (70, 2, 3) := ⟨by decide, by decide, by decide, ws_of 50 (by decide +kernel) (by decide +kernel)⟩
theorem okF4_73 : okF 4 (73, 2, 2) := ⟨by decide, by decide, by decide, ws_of 47 (by decide +kernel) (by decide +kernel)⟩
theorem okF4_76 : okF 4 (76, 2, 4) := ⟨by decide, by decide, by decide, ws_of 53 (by decide +kernel) (by decide +kernel)⟩
theorem okF4_83 : okF 4 (83, 2, 5) := ⟨by decide, by decide, by decide, ws_of 56 (by decide +kernel) (by decide +kernel)⟩
theorem okF4_86 : okF 4 (86, 2, 6) := ⟨by decide, by decide, by decide, ws_of 59 (by decide +kernel) (by decide +kernel)⟩
theorem okF4_93 : okF 4 (93, 3, 1) := ⟨by decide, by decide, by decide, ws_of 126 (by decide +kernel) (by decide +kernel)⟩
theorem okF4_106 : okF 4 (106, 3, 3) := ⟨by decide, by decide, by decide, ws_of 130 (by decide +kernel) (by decide +kernel)⟩
theorem okF4_112 : okF 4 (112, 3, 2) := ⟨by decide, by decide, by decide, ws_of 128 (by decide +kernel) (by decide +kernel)⟩
theorem okF4_143 : okF 4 (143, 2, 7) := ⟨by decide, by decide, by decide, ws_of 62 (by decide +kernel) (by decide +kernel)⟩
theorem okF4_154 : okF 4 (154, 0, 7) := ⟨by decide, by decide, by decide, ws_of 174 (by decide +kernel) (by decide +kernel)⟩
theorem okF4_160 : okF 4 (160, 0, 0) := ⟨by decide, by decide, by decide, ws_of 163 (by decide +kernel) (by decide +kernel)⟩
theorem okF4_168 : okF 4 (168, 0, 1) := ⟨by decide, by decide, by decide, ws_of 165 (by decide +kernel) (by decide +kernel)⟩
theorem okF4_185 : okF 4 (185, 1, 2) := ⟨by decide, by decide, by decide, ws_of 108 (by decide +kernel) (by decide +kernel)⟩
theorem okF4_197 : okF 4 (197, 3, 4) := ⟨by decide, by decide, by decide, ws_of 132 (by decide +kernel) (by decide +kernel)⟩
theorem okF4_200 : okF 4 (200, 2, 0) := ⟨by decide, by decide, by decide, ws_of 41 (by decide +kernel) (by decide +kernel)⟩
theorem okF4_203 : okF 4 (203, 2, 1) := ⟨by decide, by decide, by decide, ws_of 45 (by decide +kernel) (by decide +kernel)⟩
theorem okF4_226 : okF 4 (226, 0, 8) := ⟨by decide, by decide, by decide, ws_of 176 (by decide +kernel) (by decide +kernel)⟩
theorem okF4_232 : okF 4 (232, 0, 2) := ⟨by decide, by decide, by decide, ws_of 167 (by decide +kernel) (by decide +kernel)⟩
theorem okF4_235 : okF 4 (235, 0, 3) := ⟨by decide, by decide, by decide, ws_of 169 (by decide +kernel) (by decide +kernel)⟩
theorem okFs4 : ∀ q ∈ fL4, okF 4 q := List.forall_mem_cons.mpr ⟨okF4_13, List.forall_mem_cons.mpr ⟨okF4_20, List.forall_mem_cons.mpr ⟨okF4_23, List.forall_mem_cons.mpr ⟨okF4_26, List.forall_mem_cons.mpr ⟨okF4_33, List.forall_mem_cons.mpr ⟨okF4_40, List.forall_mem_cons.mpr ⟨okF4_47, List.forall_mem_cons.mpr ⟨okF4_51, List.forall_mem_cons.mpr ⟨okF4_54, List.forall_mem_cons.mpr ⟨okF4_58, List.forall_mem_cons.mpr ⟨okF4_62, List.forall_mem_cons.mpr ⟨okF4_70, List.forall_mem_cons.mpr ⟨okF4_73, List.forall_mem_cons.mpr ⟨okF4_76, List.forall_mem_cons.mpr ⟨okF4_83, List.forall_mem_cons.mpr ⟨okF4_86, List.forall_mem_cons.mpr ⟨okF4_93, List.forall_mem_cons.mpr ⟨okF4_106, List.forall_mem_cons.mpr ⟨okF4_112, List.forall_mem_cons.mpr ⟨okF4_143, List.forall_mem_cons.mpr ⟨okF4_154, List.forall_mem_cons.mpr ⟨okF4_160, List.forall_mem_cons.mpr ⟨okF4_168, List.forall_mem_cons.mpr ⟨okF4_185, List.forall_mem_cons.mpr ⟨okF4_197, List.forall_mem_cons.mpr ⟨okF4_200, List.forall_mem_cons.mpr ⟨okF4_203, List.forall_mem_cons.mpr ⟨okF4_226, List.forall_mem_cons.mpr ⟨okF4_232, List.forall_mem_cons.mpr ⟨okF4_235, fun _ h => absurd h List.not_mem_nil⟩⟩⟩⟩⟩⟩⟩⟩⟩⟩⟩⟩⟩⟩⟩⟩⟩⟩⟩⟩⟩⟩⟩⟩⟩⟩⟩⟩⟩⟩
theorem okL4_9 : okL 4 (9, sX4_firstNet) := ⟨okX4_firstNet, ws_of 29 (by decide +kernel) (by decide +kernel)⟩
theorem okL4_19 : okL 4 (19, sX2_init) := ⟨okX2_init, ws_of 34 (by decide +kernel) (by decide +kernel)⟩
theorem okL4_32 : okL 4 (32, sX1_init) := ⟨okX1_init, ws_of 98 (by decide +kernel) (by decide +kernel)⟩
theorem okL4_39 : okL 4 (39, sX3_init) := ⟨okX3_init, ws_of 118 (by decide +kernel) (by decide +kernel)⟩
theorem okL4_46 : okL 4 (46, sX0_init) := ⟨okX0_init, ws_of 156 (by decide +kernel) (by decide +kernel)⟩
theorem okL4_66 : okL 4 (66, sX2_clear) := ⟨okX2_clear, ws_of 81 (by decide +kernel) (by decide +kernel)⟩
theorem okL4_79 : okL 4 (79, sX2_arc) := ⟨okX2_arc, ws_of 85 (by decide +kernel) (by decide +kernel)⟩
theorem okL4_89 : okL 4 (89, sX2_fireOnce) := ⟨okX2_fireOnce, ws_of 88 (by decide +kernel) (by decide +kernel)⟩
theorem okL4_96 : okL 4 (96, sX3_addFourBytes) := ⟨okX3_addFourBytes, ws_of 235 (by decide +kernel) (by decide +kernel)⟩
theorem okL4_99 : okL 4 (99, sX4_checkRange) := ⟨okX4_checkRange, ws_of 630 (by decide +kernel) (by decide +kernel)⟩
theorem okL4_103 : okL 4 (103, sX3_execute) := ⟨okX3_execute, ws_of 247 (by decide +kernel) (by decide +kernel)⟩
theorem okL4_109 : okL 4 (109, sX4_beginChange) := ⟨okX4_beginChange, ws_of 389 (by decide +kernel) (by decide +kernel)⟩
theorem okL4_113 : okL 4 (113, sX2_copyFrom) := ⟨okX2_copyFrom, ws_of 407 (by decide +kernel) (by decide +kernel)⟩
theorem okL4_117 : okL 4 (117, sX2_sumOfTokens) := ⟨okX2_sumOfTokens, ws_of 408 (by decide +kernel) (by decide +kernel)⟩
theorem okL4_121 : okL 4 (121, sX4_checkPlace) := ⟨okX4_checkPlace, ws_of 709 (by decide +kernel) (by decide +kernel)⟩
theorem okL4_131 : okL 4 (131, sX4_checkArc) := ⟨okX4_checkArc, ws_of 760 (by decide +kernel) (by decide +kernel)⟩
theorem okL4_134 : okL 4 (134, sX4_checkTransition) := ⟨okX4_checkTransition, ws_of 764 (by decide +kernel) (by decide +kernel)⟩
theorem okL4_137 : okL 4 (137, sX2_allows) := ⟨okX2_allows, ws_of 790 (by decide +kernel) (by decide +kernel)⟩
theorem okL4_146 : okL 4 (146, sX2_advance) := ⟨okX2_advance, ws_of 572 (by decide +kernel) (by decide +kernel)⟩
theorem okL4_150 : okL 4 (150, sX4_explored) := ⟨okX4_explored, ws_of 483 (by decide +kernel) (by decide +kernel)⟩
theorem okL4_157 : okL 4 (157, sX4_checkMarking) := ⟨okX4_checkMarking, ws_of 807 (by decide +kernel) (by decide +kernel)⟩
theorem okL4_164 : okL 4 (164, sX2_unpackMarking) := ⟨okX2_unpackMarking, ws_of 826 (by decide +kernel) (by decide +kernel)⟩
theorem okL4_171 : okL 4 (171, sX2_swapInputsAndOutputs) := ⟨okX2_swapInputsAndOutputs, ws_of 416 (by decide +kernel) (by decide +kernel)⟩
theorem okL4_174 : okL 4 (174, sX2_enabledSet) := ⟨okX2_enabledSet, ws_of 420 (by decide +kernel) (by decide +kernel)⟩
theorem okL4_177 : okL 4 (177, sJ6_bitCount_0f7a4) := ⟨okJ6_bitCount_0f7a4, ws_of 424 (by decide +kernel) (by decide +kernel)⟩
theorem okL4_182 : okL 4 (182, sX1_push) := ⟨okX1_push, ws_of 393 (by decide +kernel) (by decide +kernel)⟩
theorem okL4_186 : okL 4 (186, sX1_popInto) := ⟨okX1_popInto, ws_of 434 (by decide +kernel) (by decide +kernel)⟩
theorem okL4_194 : okL 4 (194, sX1_forgetAll) := ⟨okX1_forgetAll, ws_of 835 (by decide +kernel) (by decide +kernel)⟩
theorem okL4_206 : okL 4 (206, sX2_change) := ⟨okX2_change, ws_of 860 (by decide +kernel) (by decide +kernel)⟩
theorem okL4_209 : okL 4 (209, sX2_placesWithWeight) := ⟨okX2_placesWithWeight, ws_of 868 (by decide +kernel) (by decide +kernel)⟩
theorem okL4_213 : okL 4 (213, sX2_reasonAgainst) := ⟨okX2_reasonAgainst, ws_of 894 (by decide +kernel) (by decide +kernel)⟩
theorem okL4_216 : okL 4 (216, sX2_firstBlocker) := ⟨okX2_firstBlocker, ws_of 905 (by decide +kernel) (by decide +kernel)⟩
theorem okL4_219 : okL 4 (219, sX2_nextToFire) := ⟨okX2_nextToFire, ws_of 478 (by decide +kernel) (by decide +kernel)⟩
theorem okL4_222 : okL 4 (222, sX4_disables) := ⟨okX4_disables, ws_of 931 (by decide +kernel) (by decide +kernel)⟩
theorem okL4_229 : okL 4 (229, sX0_tokensIn) := ⟨okX0_tokensIn, ws_of 942 (by decide +kernel) (by decide +kernel)⟩
theorem okL4_243 : okL 4 (243, sX0_isEnabledIn) := ⟨okX0_isEnabledIn, ws_of 972 (by decide +kernel) (by decide +kernel)⟩
theorem okL4_246 : okL 4 (246, sX0_leadsHome) := ⟨okX0_leadsHome, ws_of 541 (by decide +kernel) (by decide +kernel)⟩
theorem okL4_249 : okL 4 (249, sX0_explore) := ⟨okX0_explore, ws_of 487 (by decide +kernel) (by decide +kernel)⟩
theorem okL4_252 : okL 4 (252, sX4_readVector) := ⟨okX4_readVector, ws_of 987 (by decide +kernel) (by decide +kernel)⟩
theorem okL4_255 : okL 4 (255, sX2_keepsWeightedTokens) := ⟨okX2_keepsWeightedTokens, ws_of 553 (by decide +kernel) (by decide +kernel)⟩
theorem okL4_259 : okL 4 (259, sX2_keepsMarking) := ⟨okX2_keepsMarking, ws_of 1000 (by decide +kernel) (by decide +kernel)⟩
theorem okL4_262 : okL 4 (262, sX4_isSimpleInvariant) := ⟨okX4_isSimpleInvariant, ws_of 549 (by decide +kernel) (by decide +kernel)⟩
theorem okL4_265 : okL 4 (265, sX4_vectorOf) := ⟨okX4_vectorOf, ws_of 561 (by decide +kernel) (by decide +kernel)⟩
theorem okL4_275 : okL 4 (275, sX2_placesOutOfRange) := ⟨okX2_placesOutOfRange, ws_of 585 (by decide +kernel) (by decide +kernel)⟩
theorem okL4_278 : okL 4 (278, sX0_keepsTokensOf) := ⟨okX0_keepsTokensOf, ws_of 589 (by decide +kernel) (by decide +kernel)⟩
theorem okL4_281 : okL 4 (281, sX4_put) := ⟨okX4_put, ws_of 606 (by decide +kernel) (by decide +kernel)⟩
theorem okL4_284 : okL 4 (284, sX4_putNumber) := ⟨okX4_putNumber, ws_of 610 (by decide +kernel) (by decide +kernel)⟩
theorem okL4_287 : okL 4 (287, sX4_putEnabled) := ⟨okX4_putEnabled, ws_of 614 (by decide +kernel) (by decide +kernel)⟩
theorem okLs4 : ∀ q ∈ mL4, okL 4 q := List.forall_mem_cons.mpr ⟨okL4_9, List.forall_mem_cons.mpr ⟨okL4_19, List.forall_mem_cons.mpr ⟨okL4_32, List.forall_mem_cons.mpr ⟨okL4_39, List.forall_mem_cons.mpr ⟨okL4_46, List.forall_mem_cons.mpr ⟨okL4_66, List.forall_mem_cons.mpr ⟨okL4_79, List.forall_mem_cons.mpr ⟨okL4_89, List.forall_mem_cons.mpr ⟨okL4_96, List.forall_mem_cons.mpr ⟨okL4_99, List.forall_mem_cons.mpr ⟨okL4_103, List.forall_mem_cons.mpr ⟨okL4_109, List.forall_mem_cons.mpr ⟨okL4_113, List.forall_mem_cons.mpr ⟨okL4_117, List.forall_mem_cons.mpr ⟨okL4_121, List.forall_mem_cons.mpr ⟨okL4_131, List.forall_mem_cons.mpr ⟨okL4_134, List.forall_mem_cons.mpr ⟨okL4_137, List.forall_mem_cons.mpr ⟨okL4_146, List.forall_mem_cons.mpr ⟨okL4_150, List.forall_mem_cons.mpr ⟨okL4_157, List.forall_mem_cons.mpr ⟨okL4_164, List.forall_mem_cons.mpr ⟨okL4_171, List.forall_mem_cons.mpr ⟨okL4_174, List.forall_mem_cons.mpr ⟨okL4_177, List.forall_mem_cons.mpr ⟨okL4_182, List.forall_mem_cons.mpr ⟨okL4_186, List.forall_mem_cons.mpr ⟨okL4_194, List.forall_mem_cons.mpr ⟨okL4_206, List.forall_mem_cons.mpr ⟨okL4_209, List.forall_mem_cons.mpr ⟨okL4_213, List.forall_mem_cons.mpr ⟨okL4_216, List.forall_mem_cons.mpr ⟨okL4_219, List.forall_mem_cons.mpr ⟨okL4_222, List.forall_mem_cons.mpr ⟨okL4_229, List.forall_mem_cons.mpr ⟨okL4_243, List.forall_mem_cons.mpr ⟨okL4_246, List.forall_mem_cons.mpr ⟨okL4_249, List.forall_mem_cons.mpr ⟨okL4_252, List.forall_mem_cons.mpr ⟨okL4_255, List.forall_mem_cons.mpr ⟨okL4_259, List.forall_mem_cons.mpr ⟨okL4_262, List.forall_mem_cons.mpr ⟨okL4_265, List.forall_mem_cons.mpr ⟨okL4_275, List.forall_mem_cons.mpr ⟨okL4_278, List.forall_mem_cons.mpr ⟨okL4_281, List.forall_mem_cons.mpr ⟨okL4_284, List.forall_mem_cons.mpr ⟨okL4_287, fun _ h => absurd h List.not_mem_nil⟩⟩⟩⟩⟩⟩⟩⟩⟩⟩⟩⟩⟩⟩⟩⟩⟩⟩⟩⟩⟩⟩⟩⟩⟩⟩⟩⟩⟩⟩⟩⟩⟩⟩⟩⟩⟩⟩⟩⟩⟩⟩⟩⟩⟩⟩⟩⟩
theorem okF5_9 : okF 5 (9, 5, 1) := ⟨by decide, by decide, by decide, ws_of 1051 (by decide +kernel) (by decide +kernel)⟩
theorem okF5_15 : okF 5 (15, 5, 2) := ⟨by decide, by decide, by decide, ws_of 1052 (by decide +kernel) (by decide +kernel)⟩
theorem okF5_18 : okF 5 (18, 5, 4) := ⟨by decide, by decide, by decide, ws_of 1054 (by decide +kernel) (by decide +kernel)⟩
theorem okF5_21 : okF 5 (21, 5, 6) := ⟨by decide, by decide, by decide, ws_of 1056 (by decide +kernel) (by decide +kernel)⟩
theorem okF5_24 : okF 5 (24, 5, 7) := ⟨by decide, by decide, by decide, ws_of 1057 (by decide +kernel) (by decide +kernel)⟩
theorem okF5_27 : okF 5 (27, 5, 8) := ⟨by decide, by decide, by decide, ws_of 1058 (by decide +kernel) (by decide +kernel)⟩
theorem okF5_30 : okF 5 (30, 5, 10) := ⟨by decide, by decide, by decide, ws_of 1060 (by decide +kernel) (by decide +kernel)⟩
theorem okF5_34 : okF 5 (34, 5, 12) := ⟨by decide, by decide, by decide, ws_of 1062 (by decide +kernel) (by decide +kernel)⟩
theorem okF5_37 : okF 5 (37, 5, 13) := ⟨by decide, by decide, by decide, ws_of 1063 (by decide +kernel) (by decide +kernel)⟩
theorem okF5_40 : okF 5 (40, 5, 14) := ⟨by decide, by decide, by decide, ws_of 1064 (by decide +kernel) (by decide +kernel)⟩
theorem okF5_43 : okF 5 (43, 5, 24) := ⟨by decide, by decide, by decide, ws_of 1074 (by decide +kernel) (by decide +kernel)⟩
theorem okF5_59 : okF 5 (59, 5, 0) := ⟨by decide, by decide, by decide, ws_of 1050 (by decide +kernel) (by decide +kernel)⟩
theorem okF5_62 : okF 5 (62, 5, 3) := ⟨by decide, by decide, by decide, ws_of 1053 (by decide +kernel) (by decide +kernel)⟩
theorem okF5_109 : okF 5 (109, 5, 15) := ⟨by decide, by decide, by decide, ws_of 1065 (by decide +kernel) (by decide +kernel)⟩
theorem okF5_124 : okF 5 (124, 5, 16) := ⟨by decide, by decide, by decide, ws_of 1066 (by decide +kernel) (by decide +kernel)⟩
theorem okF5_165 : okF 5 (165, 5, 5) := ⟨by decide, by decide, by decide, ws_of 1055 (by decide +kernel) (by decide +kernel)⟩
theorem okF5_171 : okF 5 (171, 5, 9) := ⟨by decide, by decide, by decide, ws_of 1059 (by decide +kernel) (by decide +kernel)⟩
theorem okF5_174 : okF 5 (174, 5, 17) := ⟨by decide, by decide, by decide, ws_of 1067 (by decide +kernel) (by decide +kernel)⟩
theorem okF5_177 : okF 5 (177, 5, 18) := ⟨by decide, by decide, by decide, ws_of 1068 (by decide +kernel) (by decide +kernel)⟩
theorem okF5_180 : okF 5 (180, 5, 19) := ⟨by decide, by decide, by decide, ws_of 1069 (by decide +kernel) (by decide +kernel)⟩
theorem okF5_189 : okF 5 (189, 5, 20) := ⟨by decide, by decide, by decide, ws_of 1070 (by decide +kernel) (by decide +kernel)⟩
theorem okF5_192 : okF 5 (192, 5, 21) := ⟨by decide, by decide, by decide, ws_of 1071 (by decide +kernel) (by decide +kernel)⟩
theorem okF5_204 : okF 5 (204, 5, 22) := ⟨by decide, by decide, by decide, ws_of 1072 (by decide +kernel) (by decide +kernel)⟩
theorem okF5_238 : okF 5 (238, 5, 23) := ⟨by decide, by decide, by decide, ws_of 1073 (by decide +kernel) (by decide +kernel)⟩
theorem okF5_307 : okF 5 (307, 5, 11) := ⟨by decide, by decide, by decide, ws_of 1061 (by decide +kernel) (by decide +kernel)⟩
theorem okFs5 : ∀ q ∈ fL5, okF 5 q := List.forall_mem_cons.mpr ⟨okF5_9, List.forall_mem_cons.mpr ⟨okF5_15, List.forall_mem_cons.mpr ⟨okF5_18, List.forall_mem_cons.mpr ⟨okF5_21, List.forall_mem_cons.mpr ⟨okF5_24, List.forall_mem_cons.mpr ⟨okF5_27, List.forall_mem_cons.mpr ⟨okF5_30, List.forall_mem_cons.mpr ⟨okF5_34, List.forall_mem_cons.mpr ⟨okF5_37, List.forall_mem_cons.mpr ⟨okF5_40, List.forall_mem_cons.mpr ⟨okF5_43, List.forall_mem_cons.mpr ⟨okF5_59, List.forall_mem_cons.mpr ⟨okF5_62, List.forall_mem_cons.mpr ⟨okF5_109, List.forall_mem_cons.mpr ⟨okF5_124, List.forall_mem_cons.mpr ⟨okF5_165, List.forall_mem_cons.mpr ⟨okF5_171, List.forall_mem_cons.mpr ⟨okF5_174, List.forall_mem_cons.mpr ⟨okF5_177, List.forall_mem_cons.mpr ⟨okF5_180, List.forall_mem_cons.mpr ⟨okF5_189, List.forall_mem_cons.mpr ⟨okF5_192, List.forall_mem_cons.mpr ⟨okF5_204, List.forall_mem_cons.mpr ⟨okF5_238, List.forall_mem_cons.mpr ⟨okF5_307, fun _ h => absurd h List.not_mem_nil⟩⟩⟩⟩⟩⟩⟩⟩⟩⟩⟩⟩⟩⟩⟩⟩⟩⟩⟩⟩⟩⟩⟩⟩⟩
theorem okL5_47 : okL 5 (47, sX5_start) := ⟨okX5_start, ws_of 1026 (by decide +kernel) (by decide +kernel)⟩
theorem okL5_51 : okL 5 (51, sX5_put) := ⟨okX5_put, ws_of 1030 (by decide +kernel) (by decide +kernel)⟩
theorem okL5_55 : okL 5 (55, sX5_fireIt) := ⟨okX5_fireIt, ws_of 1034 (by decide +kernel) (by decide +kernel)⟩
theorem okL5_65 : okL 5 (65, sX5_copy) := ⟨okX5_copy, ws_of 1150 (by decide +kernel) (by decide +kernel)⟩
theorem okL5_69 : okL 5 (69, sX5_outside) := ⟨okX5_outside, ws_of 1138 (by decide +kernel) (by decide +kernel)⟩
theorem okL5_73 : okL 5 (73, sX5_arc) := ⟨okX5_arc, ws_of 1046 (by decide +kernel) (by decide +kernel)⟩
theorem okL5_77 : okL 5 (77, sX5_tokensOf) := ⟨okX5_tokensOf, ws_of 1153 (by decide +kernel) (by decide +kernel)⟩
theorem okL5_81 : okL 5 (81, sX5_effectOf) := ⟨okX5_effectOf, ws_of 1042 (by decide +kernel) (by decide +kernel)⟩
theorem okL5_85 : okL 5 (85, sX5_capacityOf) := ⟨okX5_capacityOf, ws_of 1142 (by decide +kernel) (by decide +kernel)⟩
theorem okL5_88 : okL 5 (88, sX5_applies) := ⟨okX5_applies, ws_of 1201 (by decide +kernel) (by decide +kernel)⟩
theorem okL5_92 : okL 5 (92, sX5_firstPlace) := ⟨okX5_firstPlace, ws_of 1197 (by decide +kernel) (by decide +kernel)⟩
theorem okL5_95 : okL 5 (95, sX5_reasonOf) := ⟨okX5_reasonOf, ws_of 1193 (by decide +kernel) (by decide +kernel)⟩
theorem okL5_98 : okL 5 (98, sX5_enabled) := ⟨okX5_enabled, ws_of 1189 (by decide +kernel) (by decide +kernel)⟩
theorem okL5_102 : okL 5 (102, sX5_move) := ⟨okX5_move, ws_of 1038 (by decide +kernel) (by decide +kernel)⟩
theorem okL5_105 : okL 5 (105, sX5_nextFired) := ⟨okX5_nextFired, ws_of 1213 (by decide +kernel) (by decide +kernel)⟩
theorem okL5_112 : okL 5 (112, sX5_isMarking) := ⟨okX5_isMarking, ws_of 1245 (by decide +kernel) (by decide +kernel)⟩
theorem okL5_115 : okL 5 (115, sX5_take) := ⟨okX5_take, ws_of 1237 (by decide +kernel) (by decide +kernel)⟩
theorem okL5_118 : okL 5 (118, sX5_known) := ⟨okX5_known, ws_of 1241 (by decide +kernel) (by decide +kernel)⟩
theorem okL5_121 : okL 5 (121, sX5_note) := ⟨okX5_note, ws_of 1229 (by decide +kernel) (by decide +kernel)⟩
theorem okL5_128 : okL 5 (128, sX5_follow) := ⟨okX5_follow, ws_of 1233 (by decide +kernel) (by decide +kernel)⟩
theorem okL5_131 : okL 5 (131, sX5_noPlace) := ⟨okX5_noPlace, ws_of 1134 (by decide +kernel) (by decide +kernel)⟩
theorem okL5_134 : okL 5 (134, sX5_remember) := ⟨okX5_remember, ws_of 1146 (by decide +kernel) (by decide +kernel)⟩
theorem okL5_138 : okL 5 (138, sX5_raise) := ⟨okX5_raise, ws_of 1161 (by decide +kernel) (by decide +kernel)⟩
theorem okL5_142 : okL 5 (142, sX5_noTransition) := ⟨okX5_noTransition, ws_of 1169 (by decide +kernel) (by decide +kernel)⟩
theorem okL5_145 : okL 5 (145, sX5_setArc) := ⟨okX5_setArc, ws_of 1173 (by decide +kernel) (by decide +kernel)⟩
theorem okL5_149 : okL 5 (149, sX5_runIt) := ⟨okX5_runIt, ws_of 1209 (by decide +kernel) (by decide +kernel)⟩
theorem okL5_152 : okL 5 (152, sX5_explore) := ⟨okX5_explore, ws_of 1225 (by decide +kernel) (by decide +kernel)⟩
theorem okL5_155 : okL 5 (155, sX5_noMarking) := ⟨okX5_noMarking, ws_of 1221 (by decide +kernel) (by decide +kernel)⟩
theorem okL5_159 : okL 5 (159, sX5_enabledSet) := ⟨okX5_enabledSet, ws_of 1253 (by decide +kernel) (by decide +kernel)⟩
theorem okL5_162 : okL 5 (162, sX5_ones) := ⟨okX5_ones, ws_of 1257 (by decide +kernel) (by decide +kernel)⟩
theorem okL5_168 : okL 5 (168, sX5_allTokens) := ⟨okX5_allTokens, ws_of 1272 (by decide +kernel) (by decide +kernel)⟩
theorem okL5_183 : okL 5 (183, sX5_letterAt) := ⟨okX5_letterAt, ws_of 1288 (by decide +kernel) (by decide +kernel)⟩
theorem okL5_186 : okL 5 (186, sX5_digitAt) := ⟨okX5_digitAt, ws_of 1292 (by decide +kernel) (by decide +kernel)⟩
theorem okL5_195 : okL 5 (195, sJ0_length_8abf5) := ⟨okJ0_length_8abf5, ws_of 1301 (by decide +kernel) (by decide +kernel)⟩
theorem okL5_200 : okL 5 (200, sJ0_charAt_5068e) := ⟨okJ0_charAt_5068e, ws_of 1302 (by decide +kernel) (by decide +kernel)⟩
theorem okL5_207 : okL 5 (207, sX5_good) := ⟨okX5_good, ws_of 1311 (by decide +kernel) (by decide +kernel)⟩
theorem okL5_211 : okL 5 (211, sX5_scan) := ⟨okX5_scan, ws_of 1284 (by decide +kernel) (by decide +kernel)⟩
theorem okL5_214 : okL 5 (214, sX5_fail) := ⟨okX5_fail, ws_of 1303 (by decide +kernel) (by decide +kernel)⟩
theorem okL5_217 : okL 5 (217, sX5_numberHere) := ⟨okX5_numberHere, ws_of 1319 (by decide +kernel) (by decide +kernel)⟩
theorem okL5_220 : okL 5 (220, sX5_advance) := ⟨okX5_advance, ws_of 1307 (by decide +kernel) (by decide +kernel)⟩
theorem okL5_223 : okL 5 (223, sX5_number) := ⟨okX5_number, ws_of 1315 (by decide +kernel) (by decide +kernel)⟩
theorem okL5_228 : okL 5 (228, sX5_isWord) := ⟨okX5_isWord, ws_of 1297 (by decide +kernel) (by decide +kernel)⟩
theorem okL5_232 : okL 5 (232, sX5_ends) := ⟨okX5_ends, ws_of 1323 (by decide +kernel) (by decide +kernel)⟩
theorem okL5_235 : okL 5 (235, sX5_command) := ⟨okX5_command, ws_of 1327 (by decide +kernel) (by decide +kernel)⟩
theorem okL5_243 : okL 5 (243, sX5_aPlace) := ⟨okX5_aPlace, ws_of 1332 (by decide +kernel) (by decide +kernel)⟩
theorem okL5_250 : okL 5 (250, sX5_aTransition) := ⟨okX5_aTransition, ws_of 1338 (by decide +kernel) (by decide +kernel)⟩
theorem okL5_253 : okL 5 (253, sX5_arcCommand) := ⟨okX5_arcCommand, ws_of 1342 (by decide +kernel) (by decide +kernel)⟩
theorem okL5_259 : okL 5 (259, sX5_placedArc) := ⟨okX5_placedArc, ws_of 1347 (by decide +kernel) (by decide +kernel)⟩
theorem okL5_264 : okL 5 (264, sX5_firingCommand) := ⟨okX5_firingCommand, ws_of 1352 (by decide +kernel) (by decide +kernel)⟩
theorem okL5_271 : okL 5 (271, sX5_type) := ⟨okX5_type, ws_of 1362 (by decide +kernel) (by decide +kernel)⟩
theorem okL5_274 : okL 5 (274, sX5_placesOf) := ⟨okX5_placesOf, ws_of 1410 (by decide +kernel) (by decide +kernel)⟩
theorem okL5_277 : okL 5 (277, sX5_disables) := ⟨okX5_disables, ws_of 1454 (by decide +kernel) (by decide +kernel)⟩
theorem okL5_280 : okL 5 (280, sX5_deadAt) := ⟨okX5_deadAt, ws_of 1482 (by decide +kernel) (by decide +kernel)⟩
theorem okL5_283 : okL 5 (283, sX5_leadsHome) := ⟨okX5_leadsHome, ws_of 1502 (by decide +kernel) (by decide +kernel)⟩
theorem okL5_286 : okL 5 (286, sX5_digit) := ⟨okX5_digit, ws_of 1522 (by decide +kernel) (by decide +kernel)⟩
theorem okL5_289 : okL 5 (289, sX5_noVector) := ⟨okX5_noVector, ws_of 1514 (by decide +kernel) (by decide +kernel)⟩
theorem okL5_292 : okL 5 (292, sX5_keeps) := ⟨okX5_keeps, ws_of 1518 (by decide +kernel) (by decide +kernel)⟩
theorem okL5_295 : okL 5 (295, sX5_weighted) := ⟨okX5_weighted, ws_of 1533 (by decide +kernel) (by decide +kernel)⟩
theorem okL5_298 : okL 5 (298, sX5_sets) := ⟨okX5_sets, ws_of 1541 (by decide +kernel) (by decide +kernel)⟩
theorem okL5_301 : okL 5 (301, sX5_vectorOf) := ⟨okX5_vectorOf, ws_of 1545 (by decide +kernel) (by decide +kernel)⟩
theorem okL5_304 : okL 5 (304, sX5_staysSame) := ⟨okX5_staysSame, ws_of 1577 (by decide +kernel) (by decide +kernel)⟩
theorem okL5_310 : okL 5 (310, sX5_say) := ⟨okX5_say, ws_of 1585 (by decide +kernel) (by decide +kernel)⟩
theorem okL5_313 : okL 5 (313, sX5_sayNumber) := ⟨okX5_sayNumber, ws_of 1589 (by decide +kernel) (by decide +kernel)⟩
theorem okL5_316 : okL 5 (316, sX5_sayEnabled) := ⟨okX5_sayEnabled, ws_of 1593 (by decide +kernel) (by decide +kernel)⟩
theorem okLs5 : ∀ q ∈ mL5, okL 5 q := List.forall_mem_cons.mpr ⟨okL5_47, List.forall_mem_cons.mpr ⟨okL5_51, List.forall_mem_cons.mpr ⟨okL5_55, List.forall_mem_cons.mpr ⟨okL5_65, List.forall_mem_cons.mpr ⟨okL5_69, List.forall_mem_cons.mpr ⟨okL5_73, List.forall_mem_cons.mpr ⟨okL5_77, List.forall_mem_cons.mpr ⟨okL5_81, List.forall_mem_cons.mpr ⟨okL5_85, List.forall_mem_cons.mpr ⟨okL5_88, List.forall_mem_cons.mpr ⟨okL5_92, List.forall_mem_cons.mpr ⟨okL5_95, List.forall_mem_cons.mpr ⟨okL5_98, List.forall_mem_cons.mpr ⟨okL5_102, List.forall_mem_cons.mpr ⟨okL5_105, List.forall_mem_cons.mpr ⟨okL5_112, List.forall_mem_cons.mpr ⟨okL5_115, List.forall_mem_cons.mpr ⟨okL5_118, List.forall_mem_cons.mpr ⟨okL5_121, List.forall_mem_cons.mpr ⟨okL5_128, List.forall_mem_cons.mpr ⟨okL5_131, List.forall_mem_cons.mpr ⟨okL5_134, List.forall_mem_cons.mpr ⟨okL5_138, List.forall_mem_cons.mpr ⟨okL5_142, List.forall_mem_cons.mpr ⟨okL5_145, List.forall_mem_cons.mpr ⟨okL5_149, List.forall_mem_cons.mpr ⟨okL5_152, List.forall_mem_cons.mpr ⟨okL5_155, List.forall_mem_cons.mpr ⟨okL5_159, List.forall_mem_cons.mpr ⟨okL5_162, List.forall_mem_cons.mpr ⟨okL5_168, List.forall_mem_cons.mpr ⟨okL5_183, List.forall_mem_cons.mpr ⟨okL5_186, List.forall_mem_cons.mpr ⟨okL5_195, List.forall_mem_cons.mpr ⟨okL5_200, List.forall_mem_cons.mpr ⟨okL5_207, List.forall_mem_cons.mpr ⟨okL5_211, List.forall_mem_cons.mpr ⟨okL5_214, List.forall_mem_cons.mpr ⟨okL5_217, List.forall_mem_cons.mpr ⟨okL5_220, List.forall_mem_cons.mpr ⟨okL5_223, List.forall_mem_cons.mpr ⟨okL5_228, List.forall_mem_cons.mpr ⟨okL5_232, List.forall_mem_cons.mpr ⟨okL5_235, List.forall_mem_cons.mpr ⟨okL5_243, List.forall_mem_cons.mpr ⟨okL5_250, List.forall_mem_cons.mpr ⟨okL5_253, List.forall_mem_cons.mpr ⟨okL5_259, List.forall_mem_cons.mpr ⟨okL5_264, List.forall_mem_cons.mpr ⟨okL5_271, List.forall_mem_cons.mpr ⟨okL5_274, List.forall_mem_cons.mpr ⟨okL5_277, List.forall_mem_cons.mpr ⟨okL5_280, List.forall_mem_cons.mpr ⟨okL5_283, List.forall_mem_cons.mpr ⟨okL5_286, List.forall_mem_cons.mpr ⟨okL5_289, List.forall_mem_cons.mpr ⟨okL5_292, List.forall_mem_cons.mpr ⟨okL5_295, List.forall_mem_cons.mpr ⟨okL5_298, List.forall_mem_cons.mpr ⟨okL5_301, List.forall_mem_cons.mpr ⟨okL5_304, List.forall_mem_cons.mpr ⟨okL5_310, List.forall_mem_cons.mpr ⟨okL5_313, List.forall_mem_cons.mpr ⟨okL5_316, fun _ h => absurd h List.not_mem_nil⟩⟩⟩⟩⟩⟩⟩⟩⟩⟩⟩⟩⟩⟩⟩⟩⟩⟩⟩⟩⟩⟩⟩⟩⟩⟩⟩⟩⟩⟩⟩⟩⟩⟩⟩⟩⟩⟩⟩⟩⟩⟩⟩⟩⟩⟩⟩⟩⟩⟩⟩⟩⟩⟩⟩⟩⟩⟩⟩⟩⟩⟩⟩⟩
theorem okFs6 : ∀ q ∈ fL6, okF 6 q := fun _ h => absurd h List.not_mem_nil
theorem okL6_7 : okL 6 (7, sX4_truncateInput) := ⟨okX4_truncateInput, ws_of 626 (by decide +kernel) (by decide +kernel)⟩
theorem okL6_15 : okL 6 (15, sX4_setTokens) := ⟨okX4_setTokens, ws_of 705 (by decide +kernel) (by decide +kernel)⟩
theorem okL6_21 : okL 6 (21, sX4_setCapacity) := ⟨okX4_setCapacity, ws_of 733 (by decide +kernel) (by decide +kernel)⟩
theorem okL6_26 : okL 6 (26, sX4_setInput) := ⟨okX4_setInput, ws_of 756 (by decide +kernel) (by decide +kernel)⟩
theorem okL6_30 : okL 6 (30, sX4_setOutput) := ⟨okX4_setOutput, ws_of 772 (by decide +kernel) (by decide +kernel)⟩
theorem okL6_33 : okL 6 (33, sX4_setInhibitor) := ⟨okX4_setInhibitor, ws_of 779 (by decide +kernel) (by decide +kernel)⟩
theorem okL6_36 : okL 6 (36, sX4_fire) := ⟨okX4_fire, ws_of 786 (by decide +kernel) (by decide +kernel)⟩
theorem okL6_39 : okL 6 (39, sX4_run) := ⟨okX4_run, ws_of 795 (by decide +kernel) (by decide +kernel)⟩
theorem okL6_42 : okL 6 (42, sX4_moveToMarking) := ⟨okX4_moveToMarking, ws_of 803 (by decide +kernel) (by decide +kernel)⟩
theorem okL6_47 : okL 6 (47, sX4_restoreSnapshot) := ⟨okX4_restoreSnapshot, ws_of 830 (by decide +kernel) (by decide +kernel)⟩
theorem okL6_51 : okL 6 (51, sX4_tokens) := ⟨okX4_tokens, ws_of 842 (by decide +kernel) (by decide +kernel)⟩
theorem okL6_54 : okL 6 (54, sX4_capacity) := ⟨okX4_capacity, ws_of 849 (by decide +kernel) (by decide +kernel)⟩
theorem okL6_57 : okL 6 (57, sX4_effect) := ⟨okX4_effect, ws_of 856 (by decide +kernel) (by decide +kernel)⟩
theorem okL6_60 : okL 6 (60, sX4_inputPlaces) := ⟨okX4_inputPlaces, ws_of 864 (by decide +kernel) (by decide +kernel)⟩
theorem okL6_63 : okL 6 (63, sX4_outputPlaces) := ⟨okX4_outputPlaces, ws_of 876 (by decide +kernel) (by decide +kernel)⟩
theorem okL6_66 : okL 6 (66, sX4_consumers) := ⟨okX4_consumers, ws_of 883 (by decide +kernel) (by decide +kernel)⟩
theorem okL6_69 : okL 6 (69, sX4_whyNotEnabled) := ⟨okX4_whyNotEnabled, ws_of 890 (by decide +kernel) (by decide +kernel)⟩
theorem okL6_72 : okL 6 (72, sX4_blockingPlace) := ⟨okX4_blockingPlace, ws_of 901 (by decide +kernel) (by decide +kernel)⟩
theorem okL6_75 : okL 6 (75, sX4_firings) := ⟨okX4_firings, ws_of 913 (by decide +kernel) (by decide +kernel)⟩
theorem okL6_78 : okL 6 (78, sX4_firesInRow) := ⟨okX4_firesInRow, ws_of 920 (by decide +kernel) (by decide +kernel)⟩
theorem okL6_81 : okL 6 (81, sX4_areInConflict) := ⟨okX4_areInConflict, ws_of 927 (by decide +kernel) (by decide +kernel)⟩
theorem okL6_85 : okL 6 (85, sX4_markingTokens) := ⟨okX4_markingTokens, ws_of 938 (by decide +kernel) (by decide +kernel)⟩
theorem okL6_88 : okL 6 (88, sX4_markingDistance) := ⟨okX4_markingDistance, ws_of 946 (by decide +kernel) (by decide +kernel)⟩
theorem okL6_91 : okL 6 (91, sX4_markingTransition) := ⟨okX4_markingTransition, ws_of 953 (by decide +kernel) (by decide +kernel)⟩
theorem okL6_94 : okL 6 (94, sX4_bound) := ⟨okX4_bound, ws_of 960 (by decide +kernel) (by decide +kernel)⟩
theorem okL6_97 : okL 6 (97, sX4_canFire) := ⟨okX4_canFire, ws_of 968 (by decide +kernel) (by decide +kernel)⟩
theorem okL6_101 : okL 6 (101, sX4_distanceToEmpty) := ⟨okX4_distanceToEmpty, ws_of 976 (by decide +kernel) (by decide +kernel)⟩
theorem okL6_104 : okL 6 (104, sX4_isPlaceInvariant) := ⟨okX4_isPlaceInvariant, ws_of 983 (by decide +kernel) (by decide +kernel)⟩
theorem okL6_107 : okL 6 (107, sX4_isTransitionInvariant) := ⟨okX4_isTransitionInvariant, ws_of 996 (by decide +kernel) (by decide +kernel)⟩
theorem okL6_110 : okL 6 (110, sX4_weightedTokens) := ⟨okX4_weightedTokens, ws_of 1007 (by decide +kernel) (by decide +kernel)⟩
theorem okL6_113 : okL 6 (113, sX4_tokensAfterRun) := ⟨okX4_tokensAfterRun, ws_of 1014 (by decide +kernel) (by decide +kernel)⟩
theorem okL6_116 : okL 6 (116, sX4_init) := ⟨okX4_init, ws_of 23 (by decide +kernel) (by decide +kernel)⟩
theorem okL6_119 : okL 6 (119, sX5_init) := ⟨okX5_init, ws_of 1020 (by decide +kernel) (by decide +kernel)⟩
theorem okL6_120 : okL 6 (120, sX4_append) := ⟨okX4_append, ws_of 231 (by decide +kernel) (by decide +kernel)⟩
theorem okL6_124 : okL 6 (124, sX5_append) := ⟨okX5_append, ws_of 1358 (by decide +kernel) (by decide +kernel)⟩
theorem okL6_130 : okL 6 (130, sX5_truncateInput) := ⟨okX5_truncateInput, ws_of 1366 (by decide +kernel) (by decide +kernel)⟩
theorem okL6_131 : okL 6 (131, sX5_thrown) := ⟨okX5_thrown, ws_of 1126 (by decide +kernel) (by decide +kernel)⟩
theorem okL6_134 : okL 6 (134, sX4_inputLength) := ⟨okX4_inputLength, ws_of 239 (by decide +kernel) (by decide +kernel)⟩
theorem okL6_137 : okL 6 (137, sX5_inputLength) := ⟨okX5_inputLength, ws_of 1370 (by decide +kernel) (by decide +kernel)⟩
theorem okL6_138 : okL 6 (138, sX4_runScript) := ⟨okX4_runScript, ws_of 243 (by decide +kernel) (by decide +kernel)⟩
theorem okL6_141 : okL 6 (141, sX5_runScript) := ⟨okX5_runScript, ws_of 1280 (by decide +kernel) (by decide +kernel)⟩
theorem okL6_145 : okL 6 (145, sX5_setTokens) := ⟨okX5_setTokens, ws_of 1130 (by decide +kernel) (by decide +kernel)⟩
theorem okL6_148 : okL 6 (148, sX5_setCapacity) := ⟨okX5_setCapacity, ws_of 1157 (by decide +kernel) (by decide +kernel)⟩
theorem okL6_152 : okL 6 (152, sX5_setInput) := ⟨okX5_setInput, ws_of 1165 (by decide +kernel) (by decide +kernel)⟩
theorem okL6_155 : okL 6 (155, sX5_setOutput) := ⟨okX5_setOutput, ws_of 1177 (by decide +kernel) (by decide +kernel)⟩
theorem okL6_158 : okL 6 (158, sX5_setInhibitor) := ⟨okX5_setInhibitor, ws_of 1181 (by decide +kernel) (by decide +kernel)⟩
theorem okL6_161 : okL 6 (161, sX5_fire) := ⟨okX5_fire, ws_of 1185 (by decide +kernel) (by decide +kernel)⟩
theorem okL6_164 : okL 6 (164, sX5_run) := ⟨okX5_run, ws_of 1205 (by decide +kernel) (by decide +kernel)⟩
theorem okL6_167 : okL 6 (167, sX5_moveToMarking) := ⟨okX5_moveToMarking, ws_of 1217 (by decide +kernel) (by decide +kernel)⟩
theorem okL6_168 : okL 6 (168, sX4_reverseNet) := ⟨okX4_reverseNet, ws_of 412 (by decide +kernel) (by decide +kernel)⟩
theorem okL6_171 : okL 6 (171, sX5_reverseNet) := ⟨okX5_reverseNet, ws_of 1249 (by decide +kernel) (by decide +kernel)⟩
theorem okL6_172 : okL 6 (172, sX4_undo) := ⟨okX4_undo, ws_of 430 (by decide +kernel) (by decide +kernel)⟩
theorem okL6_175 : okL 6 (175, sX5_undo) := ⟨okX5_undo, ws_of 1260 (by decide +kernel) (by decide +kernel)⟩
theorem okL6_176 : okL 6 (176, sX4_undoCount) := ⟨okX4_undoCount, ws_of 438 (by decide +kernel) (by decide +kernel)⟩
theorem okL6_179 : okL 6 (179, sX5_undoCount) := ⟨okX5_undoCount, ws_of 1264 (by decide +kernel) (by decide +kernel)⟩
theorem okL6_180 : okL 6 (180, sX4_saveSnapshot) := ⟨okX4_saveSnapshot, ws_of 442 (by decide +kernel) (by decide +kernel)⟩
theorem okL6_183 : okL 6 (183, sX5_saveSnapshot) := ⟨okX5_saveSnapshot, ws_of 1268 (by decide +kernel) (by decide +kernel)⟩
theorem okL6_187 : okL 6 (187, sX5_restoreSnapshot) := ⟨okX5_restoreSnapshot, ws_of 1276 (by decide +kernel) (by decide +kernel)⟩
theorem okL6_188 : okL 6 (188, sX4_scriptErrorKind) := ⟨okX4_scriptErrorKind, ws_of 446 (by decide +kernel) (by decide +kernel)⟩
theorem okL6_191 : okL 6 (191, sX5_scriptErrorKind) := ⟨okX5_scriptErrorKind, ws_of 1374 (by decide +kernel) (by decide +kernel)⟩
theorem okL6_192 : okL 6 (192, sX4_scriptErrorOffset) := ⟨okX4_scriptErrorOffset, ws_of 450 (by decide +kernel) (by decide +kernel)⟩
theorem okL6_195 : okL 6 (195, sX5_scriptErrorOffset) := ⟨okX5_scriptErrorOffset, ws_of 1378 (by decide +kernel) (by decide +kernel)⟩
theorem okL6_196 : okL 6 (196, sX4_placeCount) := ⟨okX4_placeCount, ws_of 454 (by decide +kernel) (by decide +kernel)⟩
theorem okL6_199 : okL 6 (199, sX5_placeCount) := ⟨okX5_placeCount, ws_of 1382 (by decide +kernel) (by decide +kernel)⟩
theorem okL6_200 : okL 6 (200, sX4_transitionCount) := ⟨okX4_transitionCount, ws_of 458 (by decide +kernel) (by decide +kernel)⟩
theorem okL6_203 : okL 6 (203, sX5_transitionCount) := ⟨okX5_transitionCount, ws_of 1386 (by decide +kernel) (by decide +kernel)⟩
theorem okL6_206 : okL 6 (206, sX5_tokens) := ⟨okX5_tokens, ws_of 1390 (by decide +kernel) (by decide +kernel)⟩
theorem okL6_209 : okL 6 (209, sX5_capacity) := ⟨okX5_capacity, ws_of 1394 (by decide +kernel) (by decide +kernel)⟩
theorem okL6_212 : okL 6 (212, sX5_effect) := ⟨okX5_effect, ws_of 1398 (by decide +kernel) (by decide +kernel)⟩
theorem okL6_213 : okL 6 (213, sX4_totalTokens) := ⟨okX4_totalTokens, ws_of 462 (by decide +kernel) (by decide +kernel)⟩
theorem okL6_216 : okL 6 (216, sX5_totalTokens) := ⟨okX5_totalTokens, ws_of 1402 (by decide +kernel) (by decide +kernel)⟩
theorem okL6_219 : okL 6 (219, sX5_inputPlaces) := ⟨okX5_inputPlaces, ws_of 1406 (by decide +kernel) (by decide +kernel)⟩
theorem okL6_222 : okL 6 (222, sX5_outputPlaces) := ⟨okX5_outputPlaces, ws_of 1414 (by decide +kernel) (by decide +kernel)⟩
theorem okL6_225 : okL 6 (225, sX5_consumers) := ⟨okX5_consumers, ws_of 1418 (by decide +kernel) (by decide +kernel)⟩
theorem okL6_228 : okL 6 (228, sX5_whyNotEnabled) := ⟨okX5_whyNotEnabled, ws_of 1422 (by decide +kernel) (by decide +kernel)⟩
theorem okL6_231 : okL 6 (231, sX5_blockingPlace) := ⟨okX5_blockingPlace, ws_of 1426 (by decide +kernel) (by decide +kernel)⟩
theorem okL6_232 : okL 6 (232, sX4_enabledTransitions) := ⟨okX4_enabledTransitions, ws_of 466 (by decide +kernel) (by decide +kernel)⟩
theorem okL6_235 : okL 6 (235, sX5_enabledTransitions) := ⟨okX5_enabledTransitions, ws_of 1430 (by decide +kernel) (by decide +kernel)⟩
theorem okL6_236 : okL 6 (236, sX4_isDead) := ⟨okX4_isDead, ws_of 470 (by decide +kernel) (by decide +kernel)⟩
theorem okL6_240 : okL 6 (240, sX5_isDead) := ⟨okX5_isDead, ws_of 1434 (by decide +kernel) (by decide +kernel)⟩
theorem okL6_243 : okL 6 (243, sX5_firings) := ⟨okX5_firings, ws_of 1438 (by decide +kernel) (by decide +kernel)⟩
theorem okL6_244 : okL 6 (244, sX4_nextOfRun) := ⟨okX4_nextOfRun, ws_of 474 (by decide +kernel) (by decide +kernel)⟩
theorem okL6_247 : okL 6 (247, sX5_nextOfRun) := ⟨okX5_nextOfRun, ws_of 1442 (by decide +kernel) (by decide +kernel)⟩
theorem okL6_250 : okL 6 (250, sX5_firesInRow) := ⟨okX5_firesInRow, ws_of 1446 (by decide +kernel) (by decide +kernel)⟩
theorem okL6_253 : okL 6 (253, sX5_areInConflict) := ⟨okX5_areInConflict, ws_of 1450 (by decide +kernel) (by decide +kernel)⟩
theorem okL6_254 : okL 6 (254, sX4_markingCount) := ⟨okX4_markingCount, ws_of 479 (by decide +kernel) (by decide +kernel)⟩
theorem okL6_257 : okL 6 (257, sX5_markingCount) := ⟨okX5_markingCount, ws_of 1458 (by decide +kernel) (by decide +kernel)⟩
theorem okL6_258 : okL 6 (258, sX4_isComplete) := ⟨okX4_isComplete, ws_of 525 (by decide +kernel) (by decide +kernel)⟩
theorem okL6_261 : okL 6 (261, sX5_isComplete) := ⟨okX5_isComplete, ws_of 1462 (by decide +kernel) (by decide +kernel)⟩
theorem okL6_264 : okL 6 (264, sX5_markingTokens) := ⟨okX5_markingTokens, ws_of 1466 (by decide +kernel) (by decide +kernel)⟩
theorem okL6_267 : okL 6 (267, sX5_markingDistance) := ⟨okX5_markingDistance, ws_of 1470 (by decide +kernel) (by decide +kernel)⟩
theorem okL6_270 : okL 6 (270, sX5_markingTransition) := ⟨okX5_markingTransition, ws_of 1474 (by decide +kernel) (by decide +kernel)⟩
theorem okL6_271 : okL 6 (271, sX4_firstDeadMarking) := ⟨okX4_firstDeadMarking, ws_of 529 (by decide +kernel) (by decide +kernel)⟩
theorem okL6_274 : okL 6 (274, sX5_firstDeadMarking) := ⟨okX5_firstDeadMarking, ws_of 1478 (by decide +kernel) (by decide +kernel)⟩
theorem okL6_275 : okL 6 (275, sX4_deadMarkings) := ⟨okX4_deadMarkings, ws_of 533 (by decide +kernel) (by decide +kernel)⟩
theorem okL6_278 : okL 6 (278, sX5_deadMarkings) := ⟨okX5_deadMarkings, ws_of 1486 (by decide +kernel) (by decide +kernel)⟩
theorem okL6_281 : okL 6 (281, sX5_bound) := ⟨okX5_bound, ws_of 1490 (by decide +kernel) (by decide +kernel)⟩
theorem okL6_284 : okL 6 (284, sX5_canFire) := ⟨okX5_canFire, ws_of 1494 (by decide +kernel) (by decide +kernel)⟩
theorem okL6_285 : okL 6 (285, sX4_returnsHome) := ⟨okX4_returnsHome, ws_of 537 (by decide +kernel) (by decide +kernel)⟩
theorem okL6_288 : okL 6 (288, sX5_returnsHome) := ⟨okX5_returnsHome, ws_of 1498 (by decide +kernel) (by decide +kernel)⟩
theorem okL6_291 : okL 6 (291, sX5_distanceToEmpty) := ⟨okX5_distanceToEmpty, ws_of 1506 (by decide +kernel) (by decide +kernel)⟩
theorem okL6_294 : okL 6 (294, sX5_isPlaceInvariant) := ⟨okX5_isPlaceInvariant, ws_of 1510 (by decide +kernel) (by decide +kernel)⟩
theorem okL6_297 : okL 6 (297, sX5_isTransitionInvariant) := ⟨okX5_isTransitionInvariant, ws_of 1525 (by decide +kernel) (by decide +kernel)⟩
theorem okL6_300 : okL 6 (300, sX5_weightedTokens) := ⟨okX5_weightedTokens, ws_of 1529 (by decide +kernel) (by decide +kernel)⟩
theorem okL6_301 : okL 6 (301, sX4_simpleInvariants) := ⟨okX4_simpleInvariants, ws_of 545 (by decide +kernel) (by decide +kernel)⟩
theorem okL6_304 : okL 6 (304, sX5_simpleInvariants) := ⟨okX5_simpleInvariants, ws_of 1537 (by decide +kernel) (by decide +kernel)⟩
theorem okL6_305 : okL 6 (305, sX4_smallestInvariant) := ⟨okX4_smallestInvariant, ws_of 557 (by decide +kernel) (by decide +kernel)⟩
theorem okL6_308 : okL 6 (308, sX5_smallestInvariant) := ⟨okX5_smallestInvariant, ws_of 1549 (by decide +kernel) (by decide +kernel)⟩
theorem okL6_309 : okL 6 (309, sX4_coveredPlaces) := ⟨okX4_coveredPlaces, ws_of 564 (by decide +kernel) (by decide +kernel)⟩
theorem okL6_312 : okL 6 (312, sX5_coveredPlaces) := ⟨okX5_coveredPlaces, ws_of 1553 (by decide +kernel) (by decide +kernel)⟩
theorem okL6_315 : okL 6 (315, sX5_tokensAfterRun) := ⟨okX5_tokensAfterRun, ws_of 1557 (by decide +kernel) (by decide +kernel)⟩
theorem okL6_316 : okL 6 (316, sX4_runLength) := ⟨okX4_runLength, ws_of 568 (by decide +kernel) (by decide +kernel)⟩
theorem okL6_319 : okL 6 (319, sX5_runLength) := ⟨okX5_runLength, ws_of 1561 (by decide +kernel) (by decide +kernel)⟩
theorem okL6_320 : okL 6 (320, sX4_load) := ⟨okX4_load, ws_of 573 (by decide +kernel) (by decide +kernel)⟩
theorem okL6_324 : okL 6 (324, sX5_load) := ⟨okX5_load, ws_of 1565 (by decide +kernel) (by decide +kernel)⟩
theorem okL6_325 : okL 6 (325, sX4_enabledShare) := ⟨okX4_enabledShare, ws_of 577 (by decide +kernel) (by decide +kernel)⟩
theorem okL6_329 : okL 6 (329, sX5_enabledShare) := ⟨okX5_enabledShare, ws_of 1569 (by decide +kernel) (by decide +kernel)⟩
theorem okL6_330 : okL 6 (330, sX4_violations) := ⟨okX4_violations, ws_of 581 (by decide +kernel) (by decide +kernel)⟩
theorem okL6_333 : okL 6 (333, sX5_violations) := ⟨okX5_violations, ws_of 1573 (by decide +kernel) (by decide +kernel)⟩
theorem okL6_334 : okL 6 (334, sX4_writeMarking) := ⟨okX4_writeMarking, ws_of 602 (by decide +kernel) (by decide +kernel)⟩
theorem okL6_337 : okL 6 (337, sX5_writeMarking) := ⟨okX5_writeMarking, ws_of 1581 (by decide +kernel) (by decide +kernel)⟩
theorem okL6_338 : okL 6 (338, sX4_reportByte) := ⟨okX4_reportByte, ws_of 618 (by decide +kernel) (by decide +kernel)⟩
theorem okL6_341 : okL 6 (341, sX5_reportByte) := ⟨okX5_reportByte, ws_of 1597 (by decide +kernel) (by decide +kernel)⟩
theorem okLs6 : ∀ q ∈ mL6, okL 6 q := List.forall_mem_cons.mpr ⟨okL6_7, List.forall_mem_cons.mpr ⟨okL6_15, List.forall_mem_cons.mpr ⟨okL6_21, List.forall_mem_cons.mpr ⟨okL6_26, List.forall_mem_cons.mpr ⟨okL6_30, List.forall_mem_cons.mpr ⟨okL6_33, List.forall_mem_cons.mpr ⟨okL6_36, List.forall_mem_cons.mpr ⟨okL6_39, List.forall_mem_cons.mpr ⟨okL6_42, List.forall_mem_cons.mpr ⟨okL6_47, List.forall_mem_cons.mpr ⟨okL6_51, List.forall_mem_cons.mpr ⟨okL6_54, List.forall_mem_cons.mpr ⟨okL6_57, List.forall_mem_cons.mpr ⟨okL6_60, List.forall_mem_cons.mpr ⟨okL6_63, List.forall_mem_cons.mpr ⟨okL6_66, List.forall_mem_cons.mpr ⟨okL6_69, List.forall_mem_cons.mpr ⟨okL6_72, List.forall_mem_cons.mpr ⟨okL6_75, List.forall_mem_cons.mpr ⟨okL6_78, List.forall_mem_cons.mpr ⟨okL6_81, List.forall_mem_cons.mpr ⟨okL6_85, List.forall_mem_cons.mpr ⟨okL6_88, List.forall_mem_cons.mpr ⟨okL6_91, List.forall_mem_cons.mpr ⟨okL6_94, List.forall_mem_cons.mpr ⟨okL6_97, List.forall_mem_cons.mpr ⟨okL6_101, List.forall_mem_cons.mpr ⟨okL6_104, List.forall_mem_cons.mpr ⟨okL6_107, List.forall_mem_cons.mpr ⟨okL6_110, List.forall_mem_cons.mpr ⟨okL6_113, List.forall_mem_cons.mpr ⟨okL6_116, List.forall_mem_cons.mpr ⟨okL6_119, List.forall_mem_cons.mpr ⟨okL6_120, List.forall_mem_cons.mpr ⟨okL6_124, List.forall_mem_cons.mpr ⟨okL6_130, List.forall_mem_cons.mpr ⟨okL6_131, List.forall_mem_cons.mpr ⟨okL6_134, List.forall_mem_cons.mpr ⟨okL6_137, List.forall_mem_cons.mpr ⟨okL6_138, List.forall_mem_cons.mpr ⟨okL6_141, List.forall_mem_cons.mpr ⟨okL6_145, List.forall_mem_cons.mpr ⟨okL6_148, List.forall_mem_cons.mpr ⟨okL6_152, List.forall_mem_cons.mpr ⟨okL6_155, List.forall_mem_cons.mpr ⟨okL6_158, List.forall_mem_cons.mpr ⟨okL6_161, List.forall_mem_cons.mpr ⟨okL6_164, List.forall_mem_cons.mpr ⟨okL6_167, List.forall_mem_cons.mpr ⟨okL6_168, List.forall_mem_cons.mpr ⟨okL6_171, List.forall_mem_cons.mpr ⟨okL6_172, List.forall_mem_cons.mpr ⟨okL6_175, List.forall_mem_cons.mpr ⟨okL6_176, List.forall_mem_cons.mpr ⟨okL6_179, List.forall_mem_cons.mpr ⟨okL6_180, List.forall_mem_cons.mpr ⟨okL6_183, List.forall_mem_cons.mpr ⟨okL6_187, List.forall_mem_cons.mpr ⟨okL6_188, List.forall_mem_cons.mpr ⟨okL6_191, List.forall_mem_cons.mpr ⟨okL6_192, List.forall_mem_cons.mpr ⟨okL6_195, List.forall_mem_cons.mpr ⟨okL6_196, List.forall_mem_cons.mpr ⟨okL6_199, List.forall_mem_cons.mpr ⟨okL6_200, List.forall_mem_cons.mpr ⟨okL6_203, List.forall_mem_cons.mpr ⟨okL6_206, List.forall_mem_cons.mpr ⟨okL6_209, List.forall_mem_cons.mpr ⟨okL6_212, List.forall_mem_cons.mpr ⟨okL6_213, List.forall_mem_cons.mpr ⟨okL6_216, List.forall_mem_cons.mpr ⟨okL6_219, List.forall_mem_cons.mpr ⟨okL6_222, List.forall_mem_cons.mpr ⟨okL6_225, List.forall_mem_cons.mpr ⟨okL6_228, List.forall_mem_cons.mpr ⟨okL6_231, List.forall_mem_cons.mpr ⟨okL6_232, List.forall_mem_cons.mpr ⟨okL6_235, List.forall_mem_cons.mpr ⟨okL6_236, List.forall_mem_cons.mpr ⟨okL6_240, List.forall_mem_cons.mpr ⟨okL6_243, List.forall_mem_cons.mpr ⟨okL6_244, List.forall_mem_cons.mpr ⟨okL6_247, List.forall_mem_cons.mpr ⟨okL6_250, List.forall_mem_cons.mpr ⟨okL6_253, List.forall_mem_cons.mpr ⟨okL6_254, List.forall_mem_cons.mpr ⟨okL6_257, List.forall_mem_cons.mpr ⟨okL6_258, List.forall_mem_cons.mpr ⟨okL6_261, List.forall_mem_cons.mpr ⟨okL6_264, List.forall_mem_cons.mpr ⟨okL6_267, List.forall_mem_cons.mpr ⟨okL6_270, List.forall_mem_cons.mpr ⟨okL6_271, List.forall_mem_cons.mpr ⟨okL6_274, List.forall_mem_cons.mpr ⟨okL6_275, List.forall_mem_cons.mpr ⟨okL6_278, List.forall_mem_cons.mpr ⟨okL6_281, List.forall_mem_cons.mpr ⟨okL6_284, List.forall_mem_cons.mpr ⟨okL6_285, List.forall_mem_cons.mpr ⟨okL6_288, List.forall_mem_cons.mpr ⟨okL6_291, List.forall_mem_cons.mpr ⟨okL6_294, List.forall_mem_cons.mpr ⟨okL6_297, List.forall_mem_cons.mpr ⟨okL6_300, List.forall_mem_cons.mpr ⟨okL6_301, List.forall_mem_cons.mpr ⟨okL6_304, List.forall_mem_cons.mpr ⟨okL6_305, List.forall_mem_cons.mpr ⟨okL6_308, List.forall_mem_cons.mpr ⟨okL6_309, List.forall_mem_cons.mpr ⟨okL6_312, List.forall_mem_cons.mpr ⟨okL6_315, List.forall_mem_cons.mpr ⟨okL6_316, List.forall_mem_cons.mpr ⟨okL6_319, List.forall_mem_cons.mpr ⟨okL6_320, List.forall_mem_cons.mpr ⟨okL6_324, List.forall_mem_cons.mpr ⟨okL6_325, List.forall_mem_cons.mpr ⟨okL6_329, List.forall_mem_cons.mpr ⟨okL6_330, List.forall_mem_cons.mpr ⟨okL6_333, List.forall_mem_cons.mpr ⟨okL6_334, List.forall_mem_cons.mpr ⟨okL6_337, List.forall_mem_cons.mpr ⟨okL6_338, List.forall_mem_cons.mpr ⟨okL6_341, fun _ h => absurd h List.not_mem_nil⟩⟩⟩⟩⟩⟩⟩⟩⟩⟩⟩⟩⟩⟩⟩⟩⟩⟩⟩⟩⟩⟩⟩⟩⟩⟩⟩⟩⟩⟩⟩⟩⟩⟩⟩⟩⟩⟩⟩⟩⟩⟩⟩⟩⟩⟩⟩⟩⟩⟩⟩⟩⟩⟩⟩⟩⟩⟩⟩⟩⟩⟩⟩⟩⟩⟩⟩⟩⟩⟩⟩⟩⟩⟩⟩⟩⟩⟩⟩⟩⟩⟩⟩⟩⟩⟩⟩⟩⟩⟩⟩⟩⟩⟩⟩⟩⟩⟩⟩⟩⟩⟩⟩⟩⟩⟩⟩⟩⟩⟩⟩⟩⟩⟩⟩⟩⟩⟩⟩⟩⟩⟩⟩
theorem okFs7 : ∀ q ∈ fL7, okF 7 q := fun _ h => absurd h List.not_mem_nil
theorem okLs7 : ∀ q ∈ mL7, okL 7 q := fun _ h => absurd h List.not_mem_nil
theorem okFs8 : ∀ q ∈ fL8, okF 8 q := fun _ h => absurd h List.not_mem_nil
theorem okL8_335 : okL 8 (335, sJ0_coder_7d493) := ⟨okJ0_coder_7d493, ws_of 274 (by decide +kernel) (by decide +kernel)⟩
theorem okL8_492 : okL 8 (492, sJ0_isLatin1_aae02) := ⟨okJ0_isLatin1_aae02, ws_of 284 (by decide +kernel) (by decide +kernel)⟩
theorem okL8_495 : okL 8 (495, sJ1_charAt_3b067) := ⟨okJ1_charAt_3b067, ws_of 288 (by decide +kernel) (by decide +kernel)⟩
theorem okL8_1059 : okL 8 (1059, sJ3_checkIndex_8e157) := ⟨okJ3_checkIndex_8e157, ws_of 296 (by decide +kernel) (by decide +kernel)⟩
theorem okLs8 : ∀ q ∈ mL8, okL 8 q := List.forall_mem_cons.mpr ⟨okL8_335, List.forall_mem_cons.mpr ⟨okL8_492, List.forall_mem_cons.mpr ⟨okL8_495, List.forall_mem_cons.mpr ⟨okL8_1059, fun _ h => absurd h List.not_mem_nil⟩⟩⟩⟩
theorem okFs9 : ∀ q ∈ fL9, okF 9 q := fun _ h => absurd h List.not_mem_nil
theorem okL9_9 : okL 9 (9, sJ0_checkIndex_df160) := ⟨okJ0_checkIndex_df160, ws_of 291 (by decide +kernel) (by decide +kernel)⟩
theorem okLs9 : ∀ q ∈ mL9, okL 9 q := List.forall_mem_cons.mpr ⟨okL9_9, fun _ h => absurd h List.not_mem_nil⟩
theorem okFs10 : ∀ q ∈ fL10, okF 10 q := fun _ h => absurd h List.not_mem_nil
theorem okLs10 : ∀ q ∈ mL10, okL 10 q := fun _ h => absurd h List.not_mem_nil
theorem fT_ok {o k : Nat} {v : Nat × Nat} (h : fT o k = some v) : okF o (k, v) := by
  have h2 := tfind_mem h
  match o, h2 with
  | 0, h2 => exact okFs0 _ h2
  | 1, h2 => exact okFs1 _ h2
  | 2, h2 => exact okFs2 _ h2
  | 3, h2 => exact okFs3 _ h2
  | 4, h2 => exact okFs4 _ h2
  | 5, h2 => exact okFs5 _ h2
  | 6, h2 => exact okFs6 _ h2
  | 7, h2 => exact okFs7 _ h2
  | 8, h2 => exact okFs8 _ h2
  | 9, h2 => exact okFs9 _ h2
  | (u + 10), h2 => exact absurd h2 (by simp [fLs, fL10])
theorem mT_ok {o k : Nat} {v : MS} (h : mT o k = some v) : okL (min o 10) (k, v) := by
  have h2 := tfind_mem h
  match o, h2 with
  | 0, h2 => exact okLs0 _ h2
  | 1, h2 => exact okLs1 _ h2
  | 2, h2 => exact okLs2 _ h2
  | 3, h2 => exact okLs3 _ h2
  | 4, h2 => exact okLs4 _ h2
  | 5, h2 => exact okLs5 _ h2
  | 6, h2 => exact okLs6 _ h2
  | 7, h2 => exact okLs7 _ h2
  | 8, h2 => exact okLs8 _ h2
  | 9, h2 => exact okLs9 _ h2
  | (u + 10), h2 => rw [show min (u + 10) 10 = 10 by omega]; exact okLs10 _ h2
theorem fT0_9 : fT 0 9 = some (0, 0) := rfl
theorem fT0_15 : fT 0 15 = some (0, 1) := rfl
theorem fT0_19 : fT 0 19 = some (0, 2) := rfl
theorem fT0_22 : fT 0 22 = some (0, 3) := rfl
theorem fT0_25 : fT 0 25 = some (0, 4) := rfl
theorem fT0_28 : fT 0 28 = some (0, 5) := rfl
theorem fT0_34 : fT 0 34 = some (0, 6) := rfl
theorem fT0_38 : fT 0 38 = some (0, 7) := rfl
theorem fT0_42 : fT 0 42 = some (0, 8) := rfl
theorem fT0_58 : fT 0 58 = some (2, 1) := rfl
theorem fT0_94 : fT 0 94 = some (2, 0) := rfl
theorem mT0_33 : mT 0 33 = some sX2_init := rfl
theorem mT0_46 : mT 0 46 = some sX0_start := rfl
theorem mT0_50 : mT 0 50 = some sX2_packMarking := rfl
theorem mT0_54 : mT 0 54 = some sX0_visit := rfl
theorem mT0_61 : mT 0 61 = some sX0_isEnabledIn := rfl
theorem mT0_65 : mT 0 65 = some sX2_copyFrom := rfl
theorem mT0_68 : mT 0 68 = some sX2_packChange := rfl
theorem mT0_72 : mT 0 72 = some sX0_slotOf := rfl
theorem mT0_76 : mT 0 76 = some sX2_unpackMarking := rfl
theorem mT0_80 : mT 0 80 = some sX2_enabledSet := rfl
theorem mT0_86 : mT 0 86 = some sX2_unpackTokens := rfl
theorem mT0_90 : mT 0 90 = some sX0_tokensOf := rfl
theorem mT0_97 : mT 0 97 = some sX0_tokensIn := rfl
theorem fT1_11 : fT 1 11 = some (1, 0) := rfl
theorem fT1_18 : fT 1 18 = some (1, 1) := rfl
theorem fT1_22 : fT 1 22 = some (1, 2) := rfl
theorem mT1_17 : mT 1 17 = some sX2_init := rfl
theorem mT1_25 : mT 1 25 = some sX2_copyFrom := rfl
theorem fT2_9 : fT 2 9 = some (2, 0) := rfl
theorem fT2_15 : fT 2 15 = some (2, 1) := rfl
theorem fT2_18 : fT 2 18 = some (2, 2) := rfl
theorem fT2_22 : fT 2 22 = some (2, 3) := rfl
theorem fT2_25 : fT 2 25 = some (2, 4) := rfl
theorem fT2_28 : fT 2 28 = some (2, 5) := rfl
theorem fT2_31 : fT 2 31 = some (2, 6) := rfl
theorem fT2_34 : fT 2 34 = some (2, 7) := rfl
theorem mT2_43 : mT 2 43 = some sX2_arc := rfl
theorem mT2_47 : mT 2 47 = some sX2_reasonAt := rfl
theorem mT2_50 : mT 2 50 = some sX2_reasonAgainst := rfl
theorem mT2_54 : mT 2 54 = some sX2_allows := rfl
theorem mT2_58 : mT 2 58 = some sX2_change := rfl
theorem mT2_61 : mT 2 61 = some sX2_nextToFire := rfl
theorem mT2_65 : mT 2 65 = some sX2_fireOnce := rfl
theorem mT2_69 : mT 2 69 = some sX2_unpackTokens := rfl
theorem fT3_9 : fT 3 9 = some (3, 0) := rfl
theorem fT3_15 : fT 3 15 = some (3, 1) := rfl
theorem fT3_22 : fT 3 22 = some (3, 2) := rfl
theorem fT3_26 : fT 3 26 = some (3, 3) := rfl
theorem fT3_29 : fT 3 29 = some (3, 4) := rfl
theorem fT3_32 : fT 3 32 = some (3, 5) := rfl
theorem fT3_35 : fT 3 35 = some (3, 6) := rfl
theorem fT3_38 : fT 3 38 = some (3, 7) := rfl
theorem fT3_81 : fT 3 81 = some (2, 4) := rfl
theorem fT3_89 : fT 3 89 = some (2, 5) := rfl
theorem fT3_95 : fT 3 95 = some (2, 6) := rfl
theorem fT3_119 : fT 3 119 = some (2, 0) := rfl
theorem fT3_122 : fT 3 122 = some (2, 3) := rfl
theorem fT3_125 : fT 3 125 = some (2, 2) := rfl
theorem fT3_133 : fT 3 133 = some (2, 1) := rfl
theorem mT3_21 : mT 3 21 = some sX2_init := rfl
theorem mT3_41 : mT 3 41 = some sX3_readToken := rfl
theorem mT3_44 : mT 3 44 = some sX3_readHeader := rfl
theorem mT3_48 : mT 3 48 = some sX3_readSemicolon := rfl
theorem mT3_51 : mT 3 51 = some sX3_readCommand := rfl
theorem mT3_55 : mT 3 55 = some sX3_isWord := rfl
theorem mT3_59 : mT 3 59 = some sX3_fail := rfl
theorem mT3_63 : mT 3 63 = some sX3_readNumber := rfl
theorem mT3_67 : mT 3 67 = some sX2_clear := rfl
theorem mT3_71 : mT 3 71 = some sX3_commandOfToken := rfl
theorem mT3_75 : mT 3 75 = some sX3_readTokens := rfl
theorem mT3_78 : mT 3 78 = some sX3_readCapacity := rfl
theorem mT3_85 : mT 3 85 = some sX3_readArcFromPlace := rfl
theorem mT3_92 : mT 3 92 = some sX3_readArcFromTransition := rfl
theorem mT3_98 : mT 3 98 = some sX3_readFire := rfl
theorem mT3_101 : mT 3 101 = some sX2_advance := rfl
theorem mT3_136 : mT 3 136 = some sX2_arc := rfl
theorem mT3_139 : mT 3 139 = some sX2_allows := rfl
theorem mT3_142 : mT 3 142 = some sX2_fireOnce := rfl
theorem mT3_146 : mT 3 146 = some sJ0_length_8abf5 := rfl
theorem mT3_150 : mT 3 150 = some sJ0_charAt_5068e := rfl
theorem mT3_154 : mT 3 154 = some sX3_isLetter := rfl
theorem mT3_157 : mT 3 157 = some sX3_isDigit := rfl
theorem fT4_13 : fT 4 13 = some (4, 0) := rfl
theorem fT4_20 : fT 4 20 = some (4, 1) := rfl
theorem fT4_23 : fT 4 23 = some (4, 2) := rfl
theorem fT4_26 : fT 4 26 = some (4, 3) := rfl
theorem fT4_33 : fT 4 33 = some (4, 4) := rfl
theorem fT4_40 : fT 4 40 = some (4, 5) := rfl
theorem fT4_47 : fT 4 47 = some (4, 6) := rfl
theorem fT4_51 : fT 4 51 = some (4, 7) := rfl
theorem fT4_54 : fT 4 54 = some (4, 8) := rfl
theorem fT4_58 : fT 4 58 = some (4, 9) := rfl
theorem fT4_62 : fT 4 62 = some (4, 10) := rfl
theorem fT4_70 : fT 4 70 = some (2, 3) := rfl
theorem fT4_73 : fT 4 73 = some (2, 2) := rfl
theorem fT4_76 : fT 4 76 = some (2, 4) := rfl
theorem fT4_83 : fT 4 83 = some (2, 5) := rfl
theorem fT4_86 : fT 4 86 = some (2, 6) := rfl
theorem fT4_93 : fT 4 93 = some (3, 1) := rfl
theorem fT4_106 : fT 4 106 = some (3, 3) := rfl
theorem fT4_112 : fT 4 112 = some (3, 2) := rfl
theorem fT4_143 : fT 4 143 = some (2, 7) := rfl
theorem fT4_154 : fT 4 154 = some (0, 7) := rfl
theorem fT4_160 : fT 4 160 = some (0, 0) := rfl
theorem fT4_168 : fT 4 168 = some (0, 1) := rfl
theorem fT4_185 : fT 4 185 = some (1, 2) := rfl
theorem fT4_197 : fT 4 197 = some (3, 4) := rfl
theorem fT4_200 : fT 4 200 = some (2, 0) := rfl
theorem fT4_203 : fT 4 203 = some (2, 1) := rfl
theorem fT4_226 : fT 4 226 = some (0, 8) := rfl
theorem fT4_232 : fT 4 232 = some (0, 2) := rfl
theorem fT4_235 : fT 4 235 = some (0, 3) := rfl
theorem mT4_9 : mT 4 9 = some sX4_firstNet := rfl
theorem mT4_19 : mT 4 19 = some sX2_init := rfl
theorem mT4_32 : mT 4 32 = some sX1_init := rfl
theorem mT4_39 : mT 4 39 = some sX3_init := rfl
theorem mT4_46 : mT 4 46 = some sX0_init := rfl
theorem mT4_66 : mT 4 66 = some sX2_clear := rfl
theorem mT4_79 : mT 4 79 = some sX2_arc := rfl
theorem mT4_89 : mT 4 89 = some sX2_fireOnce := rfl
theorem mT4_96 : mT 4 96 = some sX3_addFourBytes := rfl
theorem mT4_99 : mT 4 99 = some sX4_checkRange := rfl
theorem mT4_103 : mT 4 103 = some sX3_execute := rfl
theorem mT4_109 : mT 4 109 = some sX4_beginChange := rfl
theorem mT4_113 : mT 4 113 = some sX2_copyFrom := rfl
theorem mT4_117 : mT 4 117 = some sX2_sumOfTokens := rfl
theorem mT4_121 : mT 4 121 = some sX4_checkPlace := rfl
theorem mT4_131 : mT 4 131 = some sX4_checkArc := rfl
theorem mT4_134 : mT 4 134 = some sX4_checkTransition := rfl
theorem mT4_137 : mT 4 137 = some sX2_allows := rfl
theorem mT4_146 : mT 4 146 = some sX2_advance := rfl
theorem mT4_150 : mT 4 150 = some sX4_explored := rfl
theorem mT4_157 : mT 4 157 = some sX4_checkMarking := rfl
theorem mT4_164 : mT 4 164 = some sX2_unpackMarking := rfl
theorem mT4_171 : mT 4 171 = some sX2_swapInputsAndOutputs := rfl
theorem mT4_174 : mT 4 174 = some sX2_enabledSet := rfl
theorem mT4_177 : mT 4 177 = some sJ6_bitCount_0f7a4 := rfl
theorem mT4_182 : mT 4 182 = some sX1_push := rfl
theorem mT4_186 : mT 4 186 = some sX1_popInto := rfl
theorem mT4_194 : mT 4 194 = some sX1_forgetAll := rfl
theorem mT4_206 : mT 4 206 = some sX2_change := rfl
theorem mT4_209 : mT 4 209 = some sX2_placesWithWeight := rfl
theorem mT4_213 : mT 4 213 = some sX2_reasonAgainst := rfl
theorem mT4_216 : mT 4 216 = some sX2_firstBlocker := rfl
theorem mT4_219 : mT 4 219 = some sX2_nextToFire := rfl
theorem mT4_222 : mT 4 222 = some sX4_disables := rfl
theorem mT4_229 : mT 4 229 = some sX0_tokensIn := rfl
theorem mT4_243 : mT 4 243 = some sX0_isEnabledIn := rfl
theorem mT4_246 : mT 4 246 = some sX0_leadsHome := rfl
theorem mT4_249 : mT 4 249 = some sX0_explore := rfl
theorem mT4_252 : mT 4 252 = some sX4_readVector := rfl
theorem mT4_255 : mT 4 255 = some sX2_keepsWeightedTokens := rfl
theorem mT4_259 : mT 4 259 = some sX2_keepsMarking := rfl
theorem mT4_262 : mT 4 262 = some sX4_isSimpleInvariant := rfl
theorem mT4_265 : mT 4 265 = some sX4_vectorOf := rfl
theorem mT4_275 : mT 4 275 = some sX2_placesOutOfRange := rfl
theorem mT4_278 : mT 4 278 = some sX0_keepsTokensOf := rfl
theorem mT4_281 : mT 4 281 = some sX4_put := rfl
theorem mT4_284 : mT 4 284 = some sX4_putNumber := rfl
theorem mT4_287 : mT 4 287 = some sX4_putEnabled := rfl
theorem fT5_9 : fT 5 9 = some (5, 1) := rfl
theorem fT5_15 : fT 5 15 = some (5, 2) := rfl
theorem fT5_18 : fT 5 18 = some (5, 4) := rfl
theorem fT5_21 : fT 5 21 = some (5, 6) := rfl
theorem fT5_24 : fT 5 24 = some (5, 7) := rfl
theorem fT5_27 : fT 5 27 = some (5, 8) := rfl
theorem fT5_30 : fT 5 30 = some (5, 10) := rfl
theorem fT5_34 : fT 5 34 = some (5, 12) := rfl
theorem fT5_37 : fT 5 37 = some (5, 13) := rfl
theorem fT5_40 : fT 5 40 = some (5, 14) := rfl
theorem fT5_43 : fT 5 43 = some (5, 24) := rfl
theorem fT5_59 : fT 5 59 = some (5, 0) := rfl
theorem fT5_62 : fT 5 62 = some (5, 3) := rfl
theorem fT5_109 : fT 5 109 = some (5, 15) := rfl
theorem fT5_124 : fT 5 124 = some (5, 16) := rfl
theorem fT5_165 : fT 5 165 = some (5, 5) := rfl
theorem fT5_171 : fT 5 171 = some (5, 9) := rfl
theorem fT5_174 : fT 5 174 = some (5, 17) := rfl
theorem fT5_177 : fT 5 177 = some (5, 18) := rfl
theorem fT5_180 : fT 5 180 = some (5, 19) := rfl
theorem fT5_189 : fT 5 189 = some (5, 20) := rfl
theorem fT5_192 : fT 5 192 = some (5, 21) := rfl
theorem fT5_204 : fT 5 204 = some (5, 22) := rfl
theorem fT5_238 : fT 5 238 = some (5, 23) := rfl
theorem fT5_307 : fT 5 307 = some (5, 11) := rfl
theorem mT5_47 : mT 5 47 = some sX5_start := rfl
theorem mT5_51 : mT 5 51 = some sX5_put := rfl
theorem mT5_55 : mT 5 55 = some sX5_fireIt := rfl
theorem mT5_65 : mT 5 65 = some sX5_copy := rfl
theorem mT5_69 : mT 5 69 = some sX5_outside := rfl
theorem mT5_73 : mT 5 73 = some sX5_arc := rfl
theorem mT5_77 : mT 5 77 = some sX5_tokensOf := rfl
theorem mT5_81 : mT 5 81 = some sX5_effectOf := rfl
theorem mT5_85 : mT 5 85 = some sX5_capacityOf := rfl
theorem mT5_88 : mT 5 88 = some sX5_applies := rfl
theorem mT5_92 : mT 5 92 = some sX5_firstPlace := rfl
theorem mT5_95 : mT 5 95 = some sX5_reasonOf := rfl
theorem mT5_98 : mT 5 98 = some sX5_enabled := rfl
theorem mT5_102 : mT 5 102 = some sX5_move := rfl
theorem mT5_105 : mT 5 105 = some sX5_nextFired := rfl
theorem mT5_112 : mT 5 112 = some sX5_isMarking := rfl
theorem mT5_115 : mT 5 115 = some sX5_take := rfl
theorem mT5_118 : mT 5 118 = some sX5_known := rfl
theorem mT5_121 : mT 5 121 = some sX5_note := rfl
theorem mT5_128 : mT 5 128 = some sX5_follow := rfl
theorem mT5_131 : mT 5 131 = some sX5_noPlace := rfl
theorem mT5_134 : mT 5 134 = some sX5_remember := rfl
theorem mT5_138 : mT 5 138 = some sX5_raise := rfl
theorem mT5_142 : mT 5 142 = some sX5_noTransition := rfl
theorem mT5_145 : mT 5 145 = some sX5_setArc := rfl
theorem mT5_149 : mT 5 149 = some sX5_runIt := rfl
theorem mT5_152 : mT 5 152 = some sX5_explore := rfl
theorem mT5_155 : mT 5 155 = some sX5_noMarking := rfl
theorem mT5_159 : mT 5 159 = some sX5_enabledSet := rfl
theorem mT5_162 : mT 5 162 = some sX5_ones := rfl
theorem mT5_168 : mT 5 168 = some sX5_allTokens := rfl
theorem mT5_183 : mT 5 183 = some sX5_letterAt := rfl
theorem mT5_186 : mT 5 186 = some sX5_digitAt := rfl
theorem mT5_195 : mT 5 195 = some sJ0_length_8abf5 := rfl
theorem mT5_200 : mT 5 200 = some sJ0_charAt_5068e := rfl
theorem mT5_207 : mT 5 207 = some sX5_good := rfl
theorem mT5_211 : mT 5 211 = some sX5_scan := rfl
theorem mT5_214 : mT 5 214 = some sX5_fail := rfl
theorem mT5_217 : mT 5 217 = some sX5_numberHere := rfl
theorem mT5_220 : mT 5 220 = some sX5_advance := rfl
theorem mT5_223 : mT 5 223 = some sX5_number := rfl
theorem mT5_228 : mT 5 228 = some sX5_isWord := rfl
theorem mT5_232 : mT 5 232 = some sX5_ends := rfl
theorem mT5_235 : mT 5 235 = some sX5_command := rfl
theorem mT5_243 : mT 5 243 = some sX5_aPlace := rfl
theorem mT5_250 : mT 5 250 = some sX5_aTransition := rfl
theorem mT5_253 : mT 5 253 = some sX5_arcCommand := rfl
theorem mT5_259 : mT 5 259 = some sX5_placedArc := rfl
theorem mT5_264 : mT 5 264 = some sX5_firingCommand := rfl
theorem mT5_271 : mT 5 271 = some sX5_type := rfl
theorem mT5_274 : mT 5 274 = some sX5_placesOf := rfl
theorem mT5_277 : mT 5 277 = some sX5_disables := rfl
theorem mT5_280 : mT 5 280 = some sX5_deadAt := rfl
theorem mT5_283 : mT 5 283 = some sX5_leadsHome := rfl
theorem mT5_286 : mT 5 286 = some sX5_digit := rfl
theorem mT5_289 : mT 5 289 = some sX5_noVector := rfl
theorem mT5_292 : mT 5 292 = some sX5_keeps := rfl
theorem mT5_295 : mT 5 295 = some sX5_weighted := rfl
theorem mT5_298 : mT 5 298 = some sX5_sets := rfl
theorem mT5_301 : mT 5 301 = some sX5_vectorOf := rfl
theorem mT5_304 : mT 5 304 = some sX5_staysSame := rfl
theorem mT5_310 : mT 5 310 = some sX5_say := rfl
theorem mT5_313 : mT 5 313 = some sX5_sayNumber := rfl
theorem mT5_316 : mT 5 316 = some sX5_sayEnabled := rfl
theorem mT6_7 : mT 6 7 = some sX4_truncateInput := rfl
theorem mT6_15 : mT 6 15 = some sX4_setTokens := rfl
theorem mT6_21 : mT 6 21 = some sX4_setCapacity := rfl
theorem mT6_26 : mT 6 26 = some sX4_setInput := rfl
theorem mT6_30 : mT 6 30 = some sX4_setOutput := rfl
theorem mT6_33 : mT 6 33 = some sX4_setInhibitor := rfl
theorem mT6_36 : mT 6 36 = some sX4_fire := rfl
theorem mT6_39 : mT 6 39 = some sX4_run := rfl
theorem mT6_42 : mT 6 42 = some sX4_moveToMarking := rfl
theorem mT6_47 : mT 6 47 = some sX4_restoreSnapshot := rfl
theorem mT6_51 : mT 6 51 = some sX4_tokens := rfl
theorem mT6_54 : mT 6 54 = some sX4_capacity := rfl
theorem mT6_57 : mT 6 57 = some sX4_effect := rfl
theorem mT6_60 : mT 6 60 = some sX4_inputPlaces := rfl
theorem mT6_63 : mT 6 63 = some sX4_outputPlaces := rfl
theorem mT6_66 : mT 6 66 = some sX4_consumers := rfl
theorem mT6_69 : mT 6 69 = some sX4_whyNotEnabled := rfl
theorem mT6_72 : mT 6 72 = some sX4_blockingPlace := rfl
theorem mT6_75 : mT 6 75 = some sX4_firings := rfl
theorem mT6_78 : mT 6 78 = some sX4_firesInRow := rfl
theorem mT6_81 : mT 6 81 = some sX4_areInConflict := rfl
theorem mT6_85 : mT 6 85 = some sX4_markingTokens := rfl
theorem mT6_88 : mT 6 88 = some sX4_markingDistance := rfl
theorem mT6_91 : mT 6 91 = some sX4_markingTransition := rfl
theorem mT6_94 : mT 6 94 = some sX4_bound := rfl
theorem mT6_97 : mT 6 97 = some sX4_canFire := rfl
theorem mT6_101 : mT 6 101 = some sX4_distanceToEmpty := rfl
theorem mT6_104 : mT 6 104 = some sX4_isPlaceInvariant := rfl
theorem mT6_107 : mT 6 107 = some sX4_isTransitionInvariant := rfl
theorem mT6_110 : mT 6 110 = some sX4_weightedTokens := rfl
theorem mT6_113 : mT 6 113 = some sX4_tokensAfterRun := rfl
theorem mT6_116 : mT 6 116 = some sX4_init := rfl
theorem mT6_119 : mT 6 119 = some sX5_init := rfl
theorem mT6_120 : mT 6 120 = some sX4_append := rfl
theorem mT6_124 : mT 6 124 = some sX5_append := rfl
theorem mT6_130 : mT 6 130 = some sX5_truncateInput := rfl
theorem mT6_131 : mT 6 131 = some sX5_thrown := rfl
theorem mT6_134 : mT 6 134 = some sX4_inputLength := rfl
theorem mT6_137 : mT 6 137 = some sX5_inputLength := rfl
theorem mT6_138 : mT 6 138 = some sX4_runScript := rfl
theorem mT6_141 : mT 6 141 = some sX5_runScript := rfl
theorem mT6_145 : mT 6 145 = some sX5_setTokens := rfl
theorem mT6_148 : mT 6 148 = some sX5_setCapacity := rfl
theorem mT6_152 : mT 6 152 = some sX5_setInput := rfl
theorem mT6_155 : mT 6 155 = some sX5_setOutput := rfl
theorem mT6_158 : mT 6 158 = some sX5_setInhibitor := rfl
theorem mT6_161 : mT 6 161 = some sX5_fire := rfl
theorem mT6_164 : mT 6 164 = some sX5_run := rfl
theorem mT6_167 : mT 6 167 = some sX5_moveToMarking := rfl
theorem mT6_168 : mT 6 168 = some sX4_reverseNet := rfl
theorem mT6_171 : mT 6 171 = some sX5_reverseNet := rfl
theorem mT6_172 : mT 6 172 = some sX4_undo := rfl
theorem mT6_175 : mT 6 175 = some sX5_undo := rfl
theorem mT6_176 : mT 6 176 = some sX4_undoCount := rfl
theorem mT6_179 : mT 6 179 = some sX5_undoCount := rfl
theorem mT6_180 : mT 6 180 = some sX4_saveSnapshot := rfl
theorem mT6_183 : mT 6 183 = some sX5_saveSnapshot := rfl
theorem mT6_187 : mT 6 187 = some sX5_restoreSnapshot := rfl
theorem mT6_188 : mT 6 188 = some sX4_scriptErrorKind := rfl
theorem mT6_191 : mT 6 191 = some sX5_scriptErrorKind := rfl
theorem mT6_192 : mT 6 192 = some sX4_scriptErrorOffset := rfl
theorem mT6_195 : mT 6 195 = some sX5_scriptErrorOffset := rfl
theorem mT6_196 : mT 6 196 = some sX4_placeCount := rfl
theorem mT6_199 : mT 6 199 = some sX5_placeCount := rfl
theorem mT6_200 : mT 6 200 = some sX4_transitionCount := rfl
theorem mT6_203 : mT 6 203 = some sX5_transitionCount := rfl
theorem mT6_206 : mT 6 206 = some sX5_tokens := rfl
theorem mT6_209 : mT 6 209 = some sX5_capacity := rfl
theorem mT6_212 : mT 6 212 = some sX5_effect := rfl
theorem mT6_213 : mT 6 213 = some sX4_totalTokens := rfl
theorem mT6_216 : mT 6 216 = some sX5_totalTokens := rfl
theorem mT6_219 : mT 6 219 = some sX5_inputPlaces := rfl
theorem mT6_222 : mT 6 222 = some sX5_outputPlaces := rfl
theorem mT6_225 : mT 6 225 = some sX5_consumers := rfl
theorem mT6_228 : mT 6 228 = some sX5_whyNotEnabled := rfl
theorem mT6_231 : mT 6 231 = some sX5_blockingPlace := rfl
theorem mT6_232 : mT 6 232 = some sX4_enabledTransitions := rfl
theorem mT6_235 : mT 6 235 = some sX5_enabledTransitions := rfl
theorem mT6_236 : mT 6 236 = some sX4_isDead := rfl
theorem mT6_240 : mT 6 240 = some sX5_isDead := rfl
theorem mT6_243 : mT 6 243 = some sX5_firings := rfl
theorem mT6_244 : mT 6 244 = some sX4_nextOfRun := rfl
theorem mT6_247 : mT 6 247 = some sX5_nextOfRun := rfl
theorem mT6_250 : mT 6 250 = some sX5_firesInRow := rfl
theorem mT6_253 : mT 6 253 = some sX5_areInConflict := rfl
theorem mT6_254 : mT 6 254 = some sX4_markingCount := rfl
theorem mT6_257 : mT 6 257 = some sX5_markingCount := rfl
theorem mT6_258 : mT 6 258 = some sX4_isComplete := rfl
theorem mT6_261 : mT 6 261 = some sX5_isComplete := rfl
theorem mT6_264 : mT 6 264 = some sX5_markingTokens := rfl
theorem mT6_267 : mT 6 267 = some sX5_markingDistance := rfl
theorem mT6_270 : mT 6 270 = some sX5_markingTransition := rfl
theorem mT6_271 : mT 6 271 = some sX4_firstDeadMarking := rfl
theorem mT6_274 : mT 6 274 = some sX5_firstDeadMarking := rfl
theorem mT6_275 : mT 6 275 = some sX4_deadMarkings := rfl
theorem mT6_278 : mT 6 278 = some sX5_deadMarkings := rfl
theorem mT6_281 : mT 6 281 = some sX5_bound := rfl
theorem mT6_284 : mT 6 284 = some sX5_canFire := rfl
theorem mT6_285 : mT 6 285 = some sX4_returnsHome := rfl
theorem mT6_288 : mT 6 288 = some sX5_returnsHome := rfl
theorem mT6_291 : mT 6 291 = some sX5_distanceToEmpty := rfl
theorem mT6_294 : mT 6 294 = some sX5_isPlaceInvariant := rfl
theorem mT6_297 : mT 6 297 = some sX5_isTransitionInvariant := rfl
theorem mT6_300 : mT 6 300 = some sX5_weightedTokens := rfl
theorem mT6_301 : mT 6 301 = some sX4_simpleInvariants := rfl
theorem mT6_304 : mT 6 304 = some sX5_simpleInvariants := rfl
theorem mT6_305 : mT 6 305 = some sX4_smallestInvariant := rfl
theorem mT6_308 : mT 6 308 = some sX5_smallestInvariant := rfl
theorem mT6_309 : mT 6 309 = some sX4_coveredPlaces := rfl
theorem mT6_312 : mT 6 312 = some sX5_coveredPlaces := rfl
theorem mT6_315 : mT 6 315 = some sX5_tokensAfterRun := rfl
theorem mT6_316 : mT 6 316 = some sX4_runLength := rfl
theorem mT6_319 : mT 6 319 = some sX5_runLength := rfl
theorem mT6_320 : mT 6 320 = some sX4_load := rfl
theorem mT6_324 : mT 6 324 = some sX5_load := rfl
theorem mT6_325 : mT 6 325 = some sX4_enabledShare := rfl
theorem mT6_329 : mT 6 329 = some sX5_enabledShare := rfl
theorem mT6_330 : mT 6 330 = some sX4_violations := rfl
theorem mT6_333 : mT 6 333 = some sX5_violations := rfl
theorem mT6_334 : mT 6 334 = some sX4_writeMarking := rfl
theorem mT6_337 : mT 6 337 = some sX5_writeMarking := rfl
theorem mT6_338 : mT 6 338 = some sX4_reportByte := rfl
theorem mT6_341 : mT 6 341 = some sX5_reportByte := rfl
theorem mT8_335 : mT 8 335 = some sJ0_coder_7d493 := rfl
theorem mT8_492 : mT 8 492 = some sJ0_isLatin1_aae02 := rfl
theorem mT8_495 : mT 8 495 = some sJ1_charAt_3b067 := rfl
theorem mT8_1059 : mT 8 1059 = some sJ3_checkIndex_8e157 := rfl
theorem mT9_9 : mT 9 9 = some sJ0_checkIndex_df160 := rfl
