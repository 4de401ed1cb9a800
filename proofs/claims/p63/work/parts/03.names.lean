def RX0 : String := "PetriNet$Exploration"
def TX0 : u_T := fun k => match k with
  | 0 => ("PetriNet$Exploration", "keys", "[J", true)
  | 1 => ("PetriNet$Exploration", "distances", "[I", true)
  | 2 => ("PetriNet$Exploration", "foundBy", "[I", true)
  | 3 => ("PetriNet$Exploration", "enabledSets", "[I", true)
  | 4 => ("PetriNet$Exploration", "changes", "[J", true)
  | 5 => ("PetriNet$Exploration", "slots", "[I", true)
  | 6 => ("PetriNet$Exploration", "walker", "LPetriNet$Net;", true)
  | 7 => ("PetriNet$Exploration", "count", "I", false)
  | _ => ("PetriNet$Exploration", "isWhole", "Z", false)
def tyX0 : Nat → FieldType := fun k => match k with
  | 0 => .array .long
  | 1 => .array .int
  | 2 => .array .int
  | 3 => .array .int
  | 4 => .array .long
  | 5 => .array .int
  | 6 => .object "PetriNet$Net"
  | 7 => .int
  | _ => .boolean
theorem nmX0 : ∀ a, a < 9 → ∀ b, b < 9 → a ≠ b → (TX0 a).2.1 ≠ (TX0 b).2.1 := by decide +kernel
theorem tyX0_ok : ∀ k, k < 9 → parseFieldDescriptor (TX0 k).2.2.1 = some (tyX0 k) := by decide +kernel
def RX1 : String := "PetriNet$History"
def TX1 : u_T := fun k => match k with
  | 0 => ("PetriNet$History", "rows", "[LPetriNet$Net;", true)
  | 1 => ("PetriNet$History", "next", "I", false)
  | _ => ("PetriNet$History", "count", "I", false)
def tyX1 : Nat → FieldType := fun k => match k with
  | 0 => .array (.object "PetriNet$Net")
  | 1 => .int
  | _ => .int
theorem nmX1 : ∀ a, a < 3 → ∀ b, b < 3 → a ≠ b → (TX1 a).2.1 ≠ (TX1 b).2.1 := by decide +kernel
theorem tyX1_ok : ∀ k, k < 3 → parseFieldDescriptor (TX1 k).2.2.1 = some (tyX1 k) := by decide +kernel
def RX2 : String := "PetriNet$Net"
def TX2 : u_T := fun k => match k with
  | 0 => ("PetriNet$Net", "places", "I", false)
  | 1 => ("PetriNet$Net", "transitions", "I", false)
  | 2 => ("PetriNet$Net", "marking", "[I", true)
  | 3 => ("PetriNet$Net", "capacities", "[I", true)
  | 4 => ("PetriNet$Net", "inputs", "[I", false)
  | 5 => ("PetriNet$Net", "outputs", "[I", false)
  | 6 => ("PetriNet$Net", "limits", "[I", true)
  | _ => ("PetriNet$Net", "fired", "[I", true)
def tyX2 : Nat → FieldType := fun k => match k with
  | 0 => .int
  | 1 => .int
  | 2 => .array .int
  | 3 => .array .int
  | 4 => .array .int
  | 5 => .array .int
  | 6 => .array .int
  | _ => .array .int
theorem nmX2 : ∀ a, a < 8 → ∀ b, b < 8 → a ≠ b → (TX2 a).2.1 ≠ (TX2 b).2.1 := by decide +kernel
theorem tyX2_ok : ∀ k, k < 8 → parseFieldDescriptor (TX2 k).2.2.1 = some (tyX2 k) := by decide +kernel
def RX3 : String := "PetriNet$Script"
def TX3 : u_T := fun k => match k with
  | 0 => ("PetriNet$Script", "text", "[B", true)
  | 1 => ("PetriNet$Script", "length", "I", false)
  | 2 => ("PetriNet$Script", "net", "LPetriNet$Net;", true)
  | 3 => ("PetriNet$Script", "errorKind", "I", false)
  | 4 => ("PetriNet$Script", "errorOffset", "I", false)
  | 5 => ("PetriNet$Script", "tokenKind", "I", false)
  | 6 => ("PetriNet$Script", "tokenStart", "I", false)
  | _ => ("PetriNet$Script", "tokenEnd", "I", false)
def tyX3 : Nat → FieldType := fun k => match k with
  | 0 => .array .byte
  | 1 => .int
  | 2 => .object "PetriNet$Net"
  | 3 => .int
  | 4 => .int
  | 5 => .int
  | 6 => .int
  | _ => .int
theorem nmX3 : ∀ a, a < 8 → ∀ b, b < 8 → a ≠ b → (TX3 a).2.1 ≠ (TX3 b).2.1 := by decide +kernel
theorem tyX3_ok : ∀ k, k < 8 → parseFieldDescriptor (TX3 k).2.2.1 = some (tyX3 k) := by decide +kernel
def RX4 : String := "PetriNet"
def TX4 : u_T := fun k => match k with
  | 0 => ("PetriNet", "net", "LPetriNet$Net;", true)
  | 1 => ("PetriNet", "trial", "LPetriNet$Net;", true)
  | 2 => ("PetriNet", "snapshot", "LPetriNet$Net;", true)
  | 3 => ("PetriNet", "hasSnapshot", "Z", false)
  | 4 => ("PetriNet", "history", "LPetriNet$History;", true)
  | 5 => ("PetriNet", "script", "LPetriNet$Script;", true)
  | 6 => ("PetriNet", "exploration", "LPetriNet$Exploration;", true)
  | 7 => ("PetriNet", "isExplored", "Z", false)
  | 8 => ("PetriNet", "digits", "[I", true)
  | 9 => ("PetriNet", "report", "[B", true)
  | _ => ("PetriNet", "reportSize", "I", false)
def tyX4 : Nat → FieldType := fun k => match k with
  | 0 => .object "PetriNet$Net"
  | 1 => .object "PetriNet$Net"
  | 2 => .object "PetriNet$Net"
  | 3 => .boolean
  | 4 => .object "PetriNet$History"
  | 5 => .object "PetriNet$Script"
  | 6 => .object "PetriNet$Exploration"
  | 7 => .boolean
  | 8 => .array .int
  | 9 => .array .byte
  | _ => .int
theorem nmX4 : ∀ a, a < 11 → ∀ b, b < 11 → a ≠ b → (TX4 a).2.1 ≠ (TX4 b).2.1 := by decide +kernel
theorem tyX4_ok : ∀ k, k < 11 → parseFieldDescriptor (TX4 k).2.2.1 = some (tyX4 k) := by decide +kernel
def RJ4 : String := "java/lang/StringBuilder"
def TJ4 : u_T := fun k => match k with
  | 0 => ("java/lang/AbstractStringBuilder", "value", "[B", false)
  | 1 => ("java/lang/AbstractStringBuilder", "coder", "B", false)
  | 2 => ("java/lang/AbstractStringBuilder", "maybeLatin1", "Z", false)
  | _ => ("java/lang/AbstractStringBuilder", "count", "I", false)
def tyJ4 : Nat → FieldType := fun k => match k with
  | 0 => .array .byte
  | 1 => .byte
  | 2 => .boolean
  | _ => .int
theorem nmJ4 : ∀ a, a < 4 → ∀ b, b < 4 → a ≠ b → (TJ4 a).2.1 ≠ (TJ4 b).2.1 := by decide +kernel
theorem tyJ4_ok : ∀ k, k < 4 → parseFieldDescriptor (TJ4 k).2.2.1 = some (tyJ4 k) := by decide +kernel
def RJ0 : String := "java/lang/String"
def TJ0 : u_T := fun k => match k with
  | 0 => ("java/lang/String", "value", "[B", true)
  | 1 => ("java/lang/String", "coder", "B", true)
  | 2 => ("java/lang/String", "hash", "I", false)
  | _ => ("java/lang/String", "hashIsZero", "Z", false)
def tyJ0 : Nat → FieldType := fun k => match k with
  | 0 => .array .byte
  | 1 => .byte
  | 2 => .int
  | _ => .boolean
theorem nmJ0 : ∀ a, a < 4 → ∀ b, b < 4 → a ≠ b → (TJ0 a).2.1 ≠ (TJ0 b).2.1 := by decide +kernel
theorem tyJ0_ok : ∀ k, k < 4 → parseFieldDescriptor (TJ0 k).2.2.1 = some (tyJ0 k) := by decide +kernel
/-- a private method is what is found on an object of a class below, too -/
theorem sb_sel {C : String} {n : Nat} {y y0 : MethodName} {s : State} {args : Array Value} (hy : y.cls ≠ "java/lang/invoke/MethodHandle" ∧ y.cls ≠ "java/lang/invoke/VarHandle")
    (hins : (Cond.instantiable C n).before args s = true) (hpriv : (Cond.privateMethod y).before args s = true) (hinst : (Cond.instanceMethod y).before args s = true)
    (e0 : y0.cls = y.cls) (hi0 : (Cond.instanceMethod y0).before args s = true) (h0 : (Cond.selects C y0 y0).before args s = true) :
    (Cond.selects C y y).before args s = true := by
  obtain ⟨c, k, hc, hk, -, -, -, -⟩ := Cond.instantiable_spec hins
  obtain ⟨mk, methM, hnamed, hmethM, -, -⟩ := Cond.instanceMethod_spec hinst
  obtain ⟨mk0, methM0, hnamed0, hmethM0, -, -⟩ := Cond.instanceMethod_spec hi0
  have hfound : s.methodFound? y.cls y.name y.desc = some mk := State.methodFound?_of_named hnamed hy
  have hfound0 : s.methodFound? y0.cls y0.name y0.desc = some mk0 := State.methodFound?_of_named hnamed0 (by rw [e0]; exact hy)
  have hcls : mk0.cls = mk.cls := Option.some.inj ((findClass_of_methodNamed hnamed0).symm.trans (by rw [e0]; exact findClass_of_methodNamed hnamed))
  have hsel : selectMethod {} s.vm c mk = .method mk := selectMethod_private hmethM (Cond.privateMethod_at hpriv mk methM hnamed hmethM)
  simp only [Cond.before, Cond.holds, Cond.value, hc, hfound0, hnamed0] at h0
  simp only [Cond.before, Cond.holds, Cond.value, hc, hfound, hnamed, hsel]
  cases hs0 : selectMethod {} s.vm c mk0 with
  | method m' =>
    rw [hs0] at h0
    simp at h0
    rw [hcls] at h0
    simp
    exact h0.2
  | _ => rw [hs0] at h0; simp at h0
def jbY : List MethodName := [⟨"java/lang/AbstractStringBuilder", "ensureCapacityInternal", "(I)V"⟩, ⟨"java/lang/AbstractStringBuilder", "newCapacity", "(I)I"⟩, ⟨"java/lang/AbstractStringBuilder", "putStringAt", "(ILjava/lang/String;)V"⟩, ⟨"java/lang/AbstractStringBuilder", "inflateIfNeededFor", "(Ljava/lang/String;)V"⟩]
def jbS : List Cond := jbY.map fun y => Cond.selects "java/lang/StringBuilder" y y
theorem jbS_ok {args : Array Value} {s : State} (hts : ∀ w ∈ lw_tbl, w.before args s = true) : ∀ w ∈ jbS, w.before args s = true := by
  have h1 : ∀ (i : Nat) (w : Cond), tables_1[i]? = some w → w.before args s = true := fun i w h => hts _ (List.mem_append_right _ (List.mem_of_getElem? h))
  intro w hw
  simp only [jbS, jbY, List.map_cons, List.map_nil, List.mem_cons, List.not_mem_nil, or_false] at hw
  rcases hw with rfl | rfl | rfl | rfl
  · exact sb_sel (n := 4) ⟨by decide +kernel, by decide +kernel⟩ (h1 245 _ (by decide +kernel)) (h1 292 _ (by decide +kernel)) (h1 293 _ (by decide +kernel)) (y0 := ⟨"java/lang/AbstractStringBuilder", "isLatin1", "()Z"⟩) rfl (h1 326 _ (by decide +kernel)) (h1 328 _ (by decide +kernel))
  · exact sb_sel (n := 4) ⟨by decide +kernel, by decide +kernel⟩ (h1 245 _ (by decide +kernel)) (h1 296 _ (by decide +kernel)) (h1 297 _ (by decide +kernel)) (y0 := ⟨"java/lang/AbstractStringBuilder", "isLatin1", "()Z"⟩) rfl (h1 326 _ (by decide +kernel)) (h1 328 _ (by decide +kernel))
  · exact sb_sel (n := 4) ⟨by decide +kernel, by decide +kernel⟩ (h1 245 _ (by decide +kernel)) (h1 358 _ (by decide +kernel)) (h1 359 _ (by decide +kernel)) (y0 := ⟨"java/lang/AbstractStringBuilder", "isLatin1", "()Z"⟩) rfl (h1 326 _ (by decide +kernel)) (h1 328 _ (by decide +kernel))
  · exact sb_sel (n := 4) ⟨by decide +kernel, by decide +kernel⟩ (h1 245 _ (by decide +kernel)) (h1 362 _ (by decide +kernel)) (h1 363 _ (by decide +kernel)) (y0 := ⟨"java/lang/AbstractStringBuilder", "isLatin1", "()Z"⟩) rfl (h1 326 _ (by decide +kernel)) (h1 328 _ (by decide +kernel))
/-- the good words of the tables -/
def WT : List Cond := jbS ++ lw_tbl
def WS : List Cond := WT.filter goodWord
theorem ws_of {w : Cond} (i : Nat) (h : tables_1[i]? = some w) (hg : goodWord w = true) : w ∈ WS := List.mem_filter.mpr ⟨List.mem_append_right _ (List.mem_append_right _ (List.mem_of_getElem? h)), hg⟩
theorem ws_sel {w : Cond} (i : Nat) (h : (k2_sels lw_privs)[i]? = some w) (hg : goodWord w = true) : w ∈ WS := List.mem_filter.mpr ⟨List.mem_append_right _ (List.mem_append_left _ (List.mem_of_getElem? h)), hg⟩
theorem ws_sb {w : Cond} (i : Nat) (h : jbS[i]? = some w) (hg : goodWord w = true) : w ∈ WS := List.mem_filter.mpr ⟨List.mem_append_left _ (List.mem_of_getElem? h), hg⟩
theorem WS_ok {args : Array Value} {s : State} (hts : ∀ w ∈ lw_tbl, w.before args s = true) : ∀ w ∈ WS, w.before args s = true := fun w hw => (List.mem_append.mp (List.mem_filter.mp hw).1).elim (jbS_ok hts w) (hts w)
/-- y, its bytes, its locals, what it answers, its arguments, the number of its class (99: static), its depth, its cells, its slots -/
abbrev MS : Type := MethodName × ByteArray × Nat × Option FieldType × Nat × Nat × Nat × Nat × Nat
def sX0_init : MS := (⟨"PetriNet$Exploration", "<init>", "()V"⟩, prog_2_method_1_code, 1, (Option.none : Option FieldType), 0, 0, 2, 13, 1396)
def sX0_explore : MS := (⟨"PetriNet$Exploration", "explore", "(LPetriNet$Net;)V"⟩, prog_2_method_2_code, 4, (Option.none : Option FieldType), 1, 0, 4, 0, 0)
def sX0_start : MS := (⟨"PetriNet$Exploration", "start", "(LPetriNet$Net;)V"⟩, prog_2_method_3_code, 3, (Option.none : Option FieldType), 1, 0, 2, 0, 0)
def sX0_visit : MS := (⟨"PetriNet$Exploration", "visit", "(JII)V"⟩, prog_2_method_4_code, 6, (Option.none : Option FieldType), 3, 0, 3, 0, 0)
def sX0_slotOf : MS := (⟨"PetriNet$Exploration", "slotOf", "(J)I"⟩, prog_2_method_5_code, 5, (some FieldType.int), 1, 0, 0, 0, 0)
def sX0_tokensIn : MS := (⟨"PetriNet$Exploration", "tokensIn", "(II)I"⟩, prog_2_method_6_code, 3, (some FieldType.int), 2, 0, 1, 0, 0)
def sX0_isEnabledIn : MS := (⟨"PetriNet$Exploration", "isEnabledIn", "(II)Z"⟩, prog_2_method_7_code, 3, (some FieldType.boolean), 2, 0, 0, 0, 0)
def sX0_keepsTokensOf : MS := (⟨"PetriNet$Exploration", "keepsTokensOf", "(I)Z"⟩, prog_2_method_9_code, 4, (some FieldType.boolean), 1, 0, 3, 0, 0)
def sX0_tokensOf : MS := (⟨"PetriNet$Exploration", "tokensOf", "(II)I"⟩, prog_2_method_10_code, 5, (some FieldType.int), 2, 0, 2, 0, 0)
def sX1_init : MS := (⟨"PetriNet$History", "<init>", "()V"⟩, prog_3_method_1_code, 2, (Option.none : Option FieldType), 0, 1, 2, 71, 2750)
def sX1_push : MS := (⟨"PetriNet$History", "push", "(LPetriNet$Net;)V"⟩, prog_3_method_2_code, 2, (Option.none : Option FieldType), 1, 1, 2, 0, 0)
def sX1_popInto : MS := (⟨"PetriNet$History", "popInto", "(LPetriNet$Net;)V"⟩, prog_3_method_3_code, 2, (Option.none : Option FieldType), 1, 1, 2, 0, 0)
def sX2_init : MS := (⟨"PetriNet$Net", "<init>", "()V"⟩, prog_4_method_1_code, 1, (Option.none : Option FieldType), 0, 2, 1, 6, 266)
def sX2_arc : MS := (⟨"PetriNet$Net", "arc", "(II)I"⟩, prog_4_method_2_code, 2, (some FieldType.int), 2, 99, 0, 0, 0)
def sX2_clear : MS := (⟨"PetriNet$Net", "clear", "(II)V"⟩, prog_4_method_3_code, 4, (Option.none : Option FieldType), 2, 2, 0, 0, 0)
def sX2_copyFrom : MS := (⟨"PetriNet$Net", "copyFrom", "(LPetriNet$Net;)V"⟩, prog_4_method_4_code, 2, (Option.none : Option FieldType), 1, 2, 1, 0, 0)
def sX2_swapInputsAndOutputs : MS := (⟨"PetriNet$Net", "swapInputsAndOutputs", "()V"⟩, prog_4_method_5_code, 2, (Option.none : Option FieldType), 0, 2, 0, 0, 0)
def sX2_change : MS := (⟨"PetriNet$Net", "change", "(II)I"⟩, prog_4_method_6_code, 4, (some FieldType.int), 2, 2, 0, 0, 0)
def sX2_sumOfTokens : MS := (⟨"PetriNet$Net", "sumOfTokens", "()I"⟩, prog_4_method_7_code, 3, (some FieldType.int), 0, 2, 0, 0, 0)
def sX2_placesOutOfRange : MS := (⟨"PetriNet$Net", "placesOutOfRange", "()I"⟩, prog_4_method_9_code, 3, (some FieldType.int), 0, 2, 0, 0, 0)
def sX2_reasonAt : MS := (⟨"PetriNet$Net", "reasonAt", "(II)I"⟩, prog_4_method_10_code, 5, (some FieldType.int), 2, 2, 0, 0, 0)
def sX2_allows : MS := (⟨"PetriNet$Net", "allows", "(I)Z"⟩, prog_4_method_11_code, 3, (some FieldType.boolean), 1, 2, 1, 0, 0)
def sX2_reasonAgainst : MS := (⟨"PetriNet$Net", "reasonAgainst", "(I)I"⟩, prog_4_method_12_code, 5, (some FieldType.int), 1, 2, 1, 0, 0)
def sX2_firstBlocker : MS := (⟨"PetriNet$Net", "firstBlocker", "(I)I"⟩, prog_4_method_13_code, 4, (some FieldType.int), 1, 2, 2, 0, 0)
def sX2_enabledSet : MS := (⟨"PetriNet$Net", "enabledSet", "()I"⟩, prog_4_method_14_code, 3, (some FieldType.int), 0, 2, 2, 0, 0)
def sX2_fireOnce : MS := (⟨"PetriNet$Net", "fireOnce", "(I)V"⟩, prog_4_method_15_code, 3, (Option.none : Option FieldType), 1, 2, 1, 0, 0)
def sX2_nextToFire : MS := (⟨"PetriNet$Net", "nextToFire", "()I"⟩, prog_4_method_16_code, 3, (some FieldType.int), 0, 2, 2, 0, 0)
def sX2_advance : MS := (⟨"PetriNet$Net", "advance", "(I)I"⟩, prog_4_method_17_code, 4, (some FieldType.int), 1, 2, 3, 0, 0)
def sX2_keepsWeightedTokens : MS := (⟨"PetriNet$Net", "keepsWeightedTokens", "([I)Z"⟩, prog_4_method_18_code, 5, (some FieldType.boolean), 1, 2, 1, 0, 0)
def sX2_packMarking : MS := (⟨"PetriNet$Net", "packMarking", "()J"⟩, prog_4_method_20_code, 4, (some FieldType.long), 0, 2, 0, 0, 0)
def sX2_packChange : MS := (⟨"PetriNet$Net", "packChange", "(I)J"⟩, prog_4_method_21_code, 5, (some FieldType.long), 1, 2, 1, 0, 0)
def sX2_unpackTokens : MS := (⟨"PetriNet$Net", "unpackTokens", "(JI)I"⟩, prog_4_method_22_code, 3, (some FieldType.int), 2, 99, 0, 0, 0)
def sX2_unpackMarking : MS := (⟨"PetriNet$Net", "unpackMarking", "(J)V"⟩, prog_4_method_23_code, 4, (Option.none : Option FieldType), 1, 2, 1, 0, 0)
def sX3_init : MS := (⟨"PetriNet$Script", "<init>", "()V"⟩, prog_5_method_1_code, 1, (Option.none : Option FieldType), 0, 3, 2, 8, 774)
def sX3_addFourBytes : MS := (⟨"PetriNet$Script", "addFourBytes", "(I)V"⟩, prog_5_method_2_code, 3, (Option.none : Option FieldType), 1, 3, 0, 0, 0)
def sX3_execute : MS := (⟨"PetriNet$Script", "execute", "()V"⟩, prog_5_method_3_code, 3, (Option.none : Option FieldType), 0, 3, 7, 0, 0)
def sX3_readHeader : MS := (⟨"PetriNet$Script", "readHeader", "()Z"⟩, prog_5_method_4_code, 3, (some FieldType.boolean), 0, 3, 5, 0, 0)
def sX3_readCommand : MS := (⟨"PetriNet$Script", "readCommand", "()Z"⟩, prog_5_method_5_code, 3, (some FieldType.boolean), 0, 3, 6, 0, 0)
def sX3_commandOfToken : MS := (⟨"PetriNet$Script", "commandOfToken", "()I"⟩, prog_5_method_6_code, 1, (some FieldType.int), 0, 3, 5, 0, 0)
def sX3_readTokens : MS := (⟨"PetriNet$Script", "readTokens", "()Z"⟩, prog_5_method_7_code, 3, (some FieldType.boolean), 0, 3, 3, 0, 0)
def sX3_readCapacity : MS := (⟨"PetriNet$Script", "readCapacity", "()Z"⟩, prog_5_method_8_code, 3, (some FieldType.boolean), 0, 3, 3, 0, 0)
def sX3_readArcFromPlace : MS := (⟨"PetriNet$Script", "readArcFromPlace", "([I)Z"⟩, prog_5_method_9_code, 5, (some FieldType.boolean), 1, 3, 3, 0, 0)
def sX3_readArcFromTransition : MS := (⟨"PetriNet$Script", "readArcFromTransition", "([I)Z"⟩, prog_5_method_10_code, 5, (some FieldType.boolean), 1, 3, 3, 0, 0)
def sX3_readFire : MS := (⟨"PetriNet$Script", "readFire", "()Z"⟩, prog_5_method_11_code, 3, (some FieldType.boolean), 0, 3, 3, 0, 0)
def sX3_readSemicolon : MS := (⟨"PetriNet$Script", "readSemicolon", "()Z"⟩, prog_5_method_12_code, 1, (some FieldType.boolean), 0, 3, 2, 0, 0)
def sX3_readNumber : MS := (⟨"PetriNet$Script", "readNumber", "(II)I"⟩, prog_5_method_13_code, 5, (some FieldType.int), 2, 3, 2, 0, 0)
def sX3_fail : MS := (⟨"PetriNet$Script", "fail", "(I)Z"⟩, prog_5_method_14_code, 2, (some FieldType.boolean), 1, 3, 0, 0, 0)
def sX3_isWord : MS := (⟨"PetriNet$Script", "isWord", "(Ljava/lang/String;)Z"⟩, prog_5_method_15_code, 3, (some FieldType.boolean), 1, 3, 4, 0, 0)
def sX3_readToken : MS := (⟨"PetriNet$Script", "readToken", "()V"⟩, prog_5_method_16_code, 1, (Option.none : Option FieldType), 0, 3, 1, 0, 0)
def sX3_isLetter : MS := (⟨"PetriNet$Script", "isLetter", "(I)Z"⟩, prog_5_method_17_code, 1, (some FieldType.boolean), 1, 99, 0, 0, 0)
def sX3_isDigit : MS := (⟨"PetriNet$Script", "isDigit", "(I)Z"⟩, prog_5_method_18_code, 1, (some FieldType.boolean), 1, 99, 0, 0, 0)
def sX4_init : MS := (⟨"PetriNet", "<init>", "()V"⟩, prog_1_method_1_code, 1, (Option.none : Option FieldType), 0, 4, 3, 118, 5836)
def sX4_firstNet : MS := (⟨"PetriNet", "firstNet", "()LPetriNet$Net;"⟩, prog_1_method_2_code, 1, (some (FieldType.object "PetriNet$Net")), 0, 99, 2, 7, 274)
def sX4_append : MS := (⟨"PetriNet", "append", "(IIIII)I"⟩, prog_1_method_3_code, 6, (some FieldType.int), 5, 4, 1, 0, 0)
def sX4_runScript : MS := (⟨"PetriNet", "runScript", "()I"⟩, prog_1_method_6_code, 1, (some FieldType.int), 0, 4, 8, 0, 0)
def sX4_setTokens : MS := (⟨"PetriNet", "setTokens", "(II)I"⟩, prog_1_method_7_code, 4, (some FieldType.int), 2, 4, 6, 2, 12)
def sX4_setCapacity : MS := (⟨"PetriNet", "setCapacity", "(II)I"⟩, prog_1_method_8_code, 4, (some FieldType.int), 2, 4, 6, 3, 18)
def sX4_setInput : MS := (⟨"PetriNet", "setInput", "(III)I"⟩, prog_1_method_9_code, 5, (some FieldType.int), 3, 4, 7, 3, 18)
def sX4_setOutput : MS := (⟨"PetriNet", "setOutput", "(III)I"⟩, prog_1_method_10_code, 5, (some FieldType.int), 3, 4, 7, 3, 18)
def sX4_setInhibitor : MS := (⟨"PetriNet", "setInhibitor", "(III)I"⟩, prog_1_method_11_code, 5, (some FieldType.int), 3, 4, 7, 3, 18)
def sX4_fire : MS := (⟨"PetriNet", "fire", "(I)I"⟩, prog_1_method_12_code, 2, (some FieldType.int), 1, 4, 6, 2, 12)
def sX4_run : MS := (⟨"PetriNet", "run", "(I)I"⟩, prog_1_method_13_code, 2, (some FieldType.int), 1, 4, 6, 1, 6)
def sX4_moveToMarking : MS := (⟨"PetriNet", "moveToMarking", "(I)I"⟩, prog_1_method_14_code, 2, (some FieldType.int), 1, 4, 6, 1, 6)
def sX4_reverseNet : MS := (⟨"PetriNet", "reverseNet", "()I"⟩, prog_1_method_15_code, 1, (some FieldType.int), 0, 4, 4, 0, 0)
def sX4_beginChange : MS := (⟨"PetriNet", "beginChange", "()V"⟩, prog_1_method_16_code, 1, (Option.none : Option FieldType), 0, 4, 3, 0, 0)
def sX4_undo : MS := (⟨"PetriNet", "undo", "()I"⟩, prog_1_method_17_code, 1, (some FieldType.int), 0, 4, 3, 0, 0)
def sX4_undoCount : MS := (⟨"PetriNet", "undoCount", "()I"⟩, prog_1_method_18_code, 1, (some FieldType.int), 0, 4, 0, 0, 0)
def sX4_placeCount : MS := (⟨"PetriNet", "placeCount", "()I"⟩, prog_1_method_23_code, 1, (some FieldType.int), 0, 4, 0, 0, 0)
def sX4_transitionCount : MS := (⟨"PetriNet", "transitionCount", "()I"⟩, prog_1_method_24_code, 1, (some FieldType.int), 0, 4, 0, 0, 0)
def sX4_tokens : MS := (⟨"PetriNet", "tokens", "(I)I"⟩, prog_1_method_25_code, 2, (some FieldType.int), 1, 4, 6, 1, 6)
def sX4_capacity : MS := (⟨"PetriNet", "capacity", "(I)I"⟩, prog_1_method_26_code, 2, (some FieldType.int), 1, 4, 6, 1, 6)
def sX4_effect : MS := (⟨"PetriNet", "effect", "(II)I"⟩, prog_1_method_27_code, 3, (some FieldType.int), 2, 4, 6, 2, 12)
def sX4_totalTokens : MS := (⟨"PetriNet", "totalTokens", "()I"⟩, prog_1_method_28_code, 1, (some FieldType.int), 0, 4, 1, 0, 0)
def sX4_whyNotEnabled : MS := (⟨"PetriNet", "whyNotEnabled", "(I)I"⟩, prog_1_method_32_code, 2, (some FieldType.int), 1, 4, 6, 1, 6)
def sX4_blockingPlace : MS := (⟨"PetriNet", "blockingPlace", "(I)I"⟩, prog_1_method_33_code, 2, (some FieldType.int), 1, 4, 6, 1, 6)
def sX4_enabledTransitions : MS := (⟨"PetriNet", "enabledTransitions", "()I"⟩, prog_1_method_34_code, 1, (some FieldType.int), 0, 4, 3, 0, 0)
def sX4_isDead : MS := (⟨"PetriNet", "isDead", "()Z"⟩, prog_1_method_35_code, 1, (some FieldType.boolean), 0, 4, 3, 0, 0)
def sX4_firings : MS := (⟨"PetriNet", "firings", "(I)I"⟩, prog_1_method_36_code, 2, (some FieldType.int), 1, 4, 6, 1, 6)
def sX4_nextOfRun : MS := (⟨"PetriNet", "nextOfRun", "()I"⟩, prog_1_method_37_code, 1, (some FieldType.int), 0, 4, 3, 0, 0)
def sX4_firesInRow : MS := (⟨"PetriNet", "firesInRow", "(I)I"⟩, prog_1_method_38_code, 3, (some FieldType.int), 1, 4, 6, 1, 6)
def sX4_markingCount : MS := (⟨"PetriNet", "markingCount", "()I"⟩, prog_1_method_41_code, 1, (some FieldType.int), 0, 4, 6, 0, 0)
def sX4_markingTokens : MS := (⟨"PetriNet", "markingTokens", "(II)I"⟩, prog_1_method_43_code, 3, (some FieldType.int), 2, 4, 6, 2, 12)
def sX4_markingDistance : MS := (⟨"PetriNet", "markingDistance", "(I)I"⟩, prog_1_method_44_code, 2, (some FieldType.int), 1, 4, 6, 1, 6)
def sX4_markingTransition : MS := (⟨"PetriNet", "markingTransition", "(I)I"⟩, prog_1_method_45_code, 2, (some FieldType.int), 1, 4, 6, 1, 6)
def sX4_explored : MS := (⟨"PetriNet", "explored", "()LPetriNet$Exploration;"⟩, prog_1_method_52_code, 1, (some (FieldType.object "PetriNet$Exploration")), 0, 4, 5, 0, 0)
def sX4_isSimpleInvariant : MS := (⟨"PetriNet", "isSimpleInvariant", "(I)Z"⟩, prog_1_method_60_code, 3, (some FieldType.boolean), 1, 4, 2, 0, 0)
def sX4_violations : MS := (⟨"PetriNet", "violations", "()I"⟩, prog_1_method_66_code, 4, (some FieldType.int), 0, 4, 6, 0, 0)
def sX4_checkPlace : MS := (⟨"PetriNet", "checkPlace", "(I)V"⟩, prog_1_method_72_code, 2, (Option.none : Option FieldType), 1, 4, 5, 1, 6)
def sX4_checkTransition : MS := (⟨"PetriNet", "checkTransition", "(I)V"⟩, prog_1_method_73_code, 2, (Option.none : Option FieldType), 1, 4, 5, 1, 6)
def sX4_checkArc : MS := (⟨"PetriNet", "checkArc", "(III)V"⟩, prog_1_method_74_code, 4, (Option.none : Option FieldType), 3, 4, 6, 3, 18)
def sX4_checkMarking : MS := (⟨"PetriNet", "checkMarking", "(II)V"⟩, prog_1_method_75_code, 2, (Option.none : Option FieldType), 2, 99, 5, 1, 6)
def sX4_checkRange : MS := (⟨"PetriNet", "checkRange", "(III)V"⟩, prog_1_method_76_code, 3, (Option.none : Option FieldType), 3, 99, 5, 1, 6)
def sJ5_init_d00df : MS := (⟨"java/lang/AbstractStringBuilder", "<init>", "(I)V"⟩, prog_9_method_2_code, 2, (Option.none : Option FieldType), 1, 5, 1, 1, 16)
def sJ5_init_a7421 : MS := (⟨"java/lang/AbstractStringBuilder", "<init>", "(Ljava/lang/String;)V"⟩, prog_9_method_3_code, 5, (Option.none : Option FieldType), 1, 5, 7, 2, 1200)
def sJ5_length_8abf5 : MS := (⟨"java/lang/AbstractStringBuilder", "length", "()I"⟩, prog_9_method_6_code, 1, (some FieldType.int), 0, 5, 0, 0, 0)
def sJ5_ensureCapacityInternal_d00df : MS := (⟨"java/lang/AbstractStringBuilder", "ensureCapacityInternal", "(I)V"⟩, prog_9_method_9_code, 3, (Option.none : Option FieldType), 1, 5, 3, 1, 1000)
def sJ5_newCapacity_0f7a4 : MS := (⟨"java/lang/AbstractStringBuilder", "newCapacity", "(I)I"⟩, prog_9_method_10_code, 6, (some FieldType.int), 1, 5, 2, 0, 0)
def sJ5_charAt_5068e : MS := (⟨"java/lang/AbstractStringBuilder", "charAt", "(I)C"⟩, prog_9_method_14_code, 5, (some FieldType.char), 1, 5, 2, 0, 0)
def sJ5_append_cf1ce : MS := (⟨"java/lang/AbstractStringBuilder", "append", "(Ljava/lang/String;)Ljava/lang/AbstractStringBuilder;"⟩, prog_9_method_22_code, 3, (some (FieldType.object "java/lang/AbstractStringBuilder")), 1, 5, 4, 1, 1000)
def sJ5_append_3fe6f : MS := (⟨"java/lang/AbstractStringBuilder", "append", "(C)Ljava/lang/AbstractStringBuilder;"⟩, prog_9_method_31_code, 2, (some (FieldType.object "java/lang/AbstractStringBuilder")), 1, 5, 4, 1, 1000)
def sJ5_append_c97b9 : MS := (⟨"java/lang/AbstractStringBuilder", "append", "(I)Ljava/lang/AbstractStringBuilder;"⟩, prog_9_method_32_code, 4, (some (FieldType.object "java/lang/AbstractStringBuilder")), 1, 5, 4, 1, 1000)
def sJ5_getValue_6d5f1 : MS := (⟨"java/lang/AbstractStringBuilder", "getValue", "()[B"⟩, prog_9_method_64_code, 1, (some (FieldType.array FieldType.byte)), 0, 5, 0, 0, 0)
def sJ5_isLatin1_aae02 : MS := (⟨"java/lang/AbstractStringBuilder", "isLatin1", "()Z"⟩, prog_9_method_68_code, 1, (some FieldType.boolean), 0, 5, 0, 0, 0)
def sJ5_inflateIfNeededFor_a7421 : MS := (⟨"java/lang/AbstractStringBuilder", "inflateIfNeededFor", "(Ljava/lang/String;)V"⟩, prog_9_method_71_code, 2, (Option.none : Option FieldType), 1, 5, 1, 0, 0)
def sJ5_putStringAt_47b60 : MS := (⟨"java/lang/AbstractStringBuilder", "putStringAt", "(ILjava/lang/String;)V"⟩, prog_9_method_73_code, 3, (Option.none : Option FieldType), 2, 5, 2, 0, 0)
def sJ6_getChars_ba4f3 : MS := (⟨"java/lang/Integer", "getChars", "(II[B)I"⟩, prog_18_method_12_code, 7, (some FieldType.int), 3, 99, 0, 0, 0)
def sJ6_stringSize_0f7a4 : MS := (⟨"java/lang/Integer", "stringSize", "(I)I"⟩, prog_18_method_13_code, 4, (some FieldType.int), 1, 99, 0, 0, 0)
def sJ6_bitCount_0f7a4 : MS := (⟨"java/lang/Integer", "bitCount", "(I)I"⟩, prog_18_method_49_code, 1, (some FieldType.int), 1, 99, 0, 0, 0)
def sJ9_floorMod_7cf53 : MS := (⟨"java/lang/Math", "floorMod", "(II)I"⟩, prog_19_method_50_code, 3, (some FieldType.int), 2, 99, 0, 0, 0)
def sJ0_init_81219 : MS := (⟨"java/lang/String", "<init>", "(Ljava/lang/StringBuilder;)V"⟩, prog_22_method_53_code, 2, (Option.none : Option FieldType), 1, 8, 4, 1, 1000)
def sJ0_length_8abf5 : MS := (⟨"java/lang/String", "length", "()I"⟩, prog_22_method_54_code, 1, (some FieldType.int), 0, 8, 1, 0, 0)
def sJ0_charAt_5068e : MS := (⟨"java/lang/String", "charAt", "(I)C"⟩, prog_22_method_56_code, 2, (some FieldType.char), 1, 8, 3, 0, 0)
def sJ0_getBytes_840e7 : MS := (⟨"java/lang/String", "getBytes", "([BIB)V"⟩, prog_22_method_147_code, 4, (Option.none : Option FieldType), 3, 8, 1, 0, 0)
def sJ0_init_db425 : MS := (⟨"java/lang/String", "<init>", "(Ljava/lang/AbstractStringBuilder;Ljava/lang/Void;)V"⟩, prog_22_method_150_code, 5, (Option.none : Option FieldType), 2, 8, 3, 1, 1000)
def sJ0_coder_7d493 : MS := (⟨"java/lang/String", "coder", "()B"⟩, prog_22_method_152_code, 1, (some FieldType.byte), 0, 8, 0, 0, 0)
def sJ0_isLatin1_aae02 : MS := (⟨"java/lang/String", "isLatin1", "()Z"⟩, prog_22_method_154_code, 1, (some FieldType.boolean), 0, 8, 0, 0, 0)
def sJ0_checkIndex_df160 : MS := (⟨"java/lang/String", "checkIndex", "(II)V"⟩, prog_22_method_155_code, 2, (Option.none : Option FieldType), 2, 99, 1, 0, 0)
def sJ4_init_da8c8 : MS := (⟨"java/lang/StringBuilder", "<init>", "()V"⟩, prog_23_method_1_code, 1, (Option.none : Option FieldType), 0, 5, 2, 1, 16)
def sJ4_init_a7421 : MS := (⟨"java/lang/StringBuilder", "<init>", "(Ljava/lang/String;)V"⟩, prog_23_method_3_code, 2, (Option.none : Option FieldType), 1, 5, 8, 2, 1200)
def sJ4_append_15ec4 : MS := (⟨"java/lang/StringBuilder", "append", "(Ljava/lang/String;)Ljava/lang/StringBuilder;"⟩, prog_23_method_7_code, 2, (some (FieldType.object "java/lang/StringBuilder")), 1, 5, 5, 1, 1000)
def sJ4_append_cf468 : MS := (⟨"java/lang/StringBuilder", "append", "(C)Ljava/lang/StringBuilder;"⟩, prog_23_method_14_code, 2, (some (FieldType.object "java/lang/StringBuilder")), 1, 5, 5, 1, 1000)
def sJ4_append_bf812 : MS := (⟨"java/lang/StringBuilder", "append", "(I)Ljava/lang/StringBuilder;"⟩, prog_23_method_15_code, 2, (some (FieldType.object "java/lang/StringBuilder")), 1, 5, 5, 1, 1000)
def sJ4_toString_0e30d : MS := (⟨"java/lang/StringBuilder", "toString", "()Ljava/lang/String;"⟩, prog_23_method_42_code, 1, (some (FieldType.object "java/lang/String")), 0, 5, 5, 2, 1100)
def sJ4_append_cf1ce : MS := (⟨"java/lang/StringBuilder", "append", "(Ljava/lang/String;)Ljava/lang/AbstractStringBuilder;"⟩, prog_23_method_80_code, 2, (some (FieldType.object "java/lang/AbstractStringBuilder")), 1, 5, 6, 1, 1000)
def sJ4_charAt_5068e : MS := (⟨"java/lang/StringBuilder", "charAt", "(I)C"⟩, prog_23_method_88_code, 2, (some FieldType.char), 1, 5, 3, 0, 0)
def sJ4_length_8abf5 : MS := (⟨"java/lang/StringBuilder", "length", "()I"⟩, prog_23_method_93_code, 1, (some FieldType.int), 0, 5, 1, 0, 0)
def sJ1_charAt_3b067 : MS := (⟨"java/lang/StringLatin1", "charAt", "([BI)C"⟩, prog_24_method_2_code, 2, (some FieldType.char), 2, 99, 2, 0, 0)
def sJ1_canEncode_fc78d : MS := (⟨"java/lang/StringLatin1", "canEncode", "(C)Z"⟩, prog_24_method_3_code, 1, (some FieldType.boolean), 1, 99, 0, 0, 0)
def sJ7_copyOf_9075b : MS := (⟨"java/util/Arrays", "copyOf", "([BI)[B"⟩, prog_30_method_121_code, 3, (some (FieldType.array FieldType.byte)), 2, 99, 1, 1, 1000)
def sJ7_checkLength_df160 : MS := (⟨"java/util/Arrays", "checkLength", "(II)V"⟩, prog_30_method_131_code, 2, (Option.none : Option FieldType), 2, 99, 0, 0, 0)
def sJ7_copyOfRange_39247 : MS := (⟨"java/util/Arrays", "copyOfRange", "([BII)[B"⟩, prog_30_method_132_code, 3, (some (FieldType.array FieldType.byte)), 3, 99, 2, 1, 1000)
def sJ7_copyOfRangeByte_39247 : MS := (⟨"java/util/Arrays", "copyOfRangeByte", "([BII)[B"⟩, prog_30_method_133_code, 5, (some (FieldType.array FieldType.byte)), 3, 99, 1, 1, 1000)
def sJ8_newLength_cabcc : MS := (⟨"jdk/internal/util/ArraysSupport", "newLength", "(III)I"⟩, prog_32_method_27_code, 4, (some FieldType.int), 3, 99, 1, 0, 0)
def sJ3_checkIndex_8e157 : MS := (⟨"jdk/internal/util/Preconditions", "checkIndex", "(IILjava/util/function/BiFunction;)I"⟩, prog_33_method_11_code, 3, (some FieldType.int), 3, 99, 0, 0, 0)
def sL_cell : MS := (⟨"PetriNetLaw", "cell", "([II)I"⟩, method_2_code, 2, (some FieldType.int), 2, 99, 0, 0, 0)
def sL_of : MS := (⟨"PetriNetLaw", "of", "([IIII)I"⟩, method_3_code, 4, (some FieldType.int), 4, 99, 1, 0, 0)
def sL_setTokens : MS := (⟨"PetriNetLaw", "setTokens", "(LPetriNet;II)I"⟩, method_4_code, 4, (some FieldType.int), 3, 99, 7, 2, 12)
def sL_setCapacity : MS := (⟨"PetriNetLaw", "setCapacity", "(LPetriNet;II)I"⟩, method_5_code, 4, (some FieldType.int), 3, 99, 7, 3, 18)
def sL_setInput : MS := (⟨"PetriNetLaw", "setInput", "(LPetriNet;III)I"⟩, method_6_code, 5, (some FieldType.int), 4, 99, 8, 3, 18)
def sL_setOutput : MS := (⟨"PetriNetLaw", "setOutput", "(LPetriNet;III)I"⟩, method_7_code, 5, (some FieldType.int), 4, 99, 8, 3, 18)
def sL_setInhibitor : MS := (⟨"PetriNetLaw", "setInhibitor", "(LPetriNet;III)I"⟩, method_8_code, 5, (some FieldType.int), 4, 99, 8, 3, 18)
def sL_fire : MS := (⟨"PetriNetLaw", "fire", "(LPetriNet;I)I"⟩, method_9_code, 3, (some FieldType.int), 2, 99, 7, 2, 12)
def sL_run : MS := (⟨"PetriNetLaw", "run", "(LPetriNet;I)I"⟩, method_10_code, 3, (some FieldType.int), 2, 99, 7, 1, 6)
def sL_moveToMarking : MS := (⟨"PetriNetLaw", "moveToMarking", "(LPetriNet;I)I"⟩, method_11_code, 3, (some FieldType.int), 2, 99, 7, 1, 6)
def sL_tokens : MS := (⟨"PetriNetLaw", "tokens", "(LPetriNet;I)I"⟩, method_12_code, 3, (some FieldType.int), 2, 99, 7, 1, 6)
def sL_capacity : MS := (⟨"PetriNetLaw", "capacity", "(LPetriNet;I)I"⟩, method_13_code, 3, (some FieldType.int), 2, 99, 7, 1, 6)
def sL_effect : MS := (⟨"PetriNetLaw", "effect", "(LPetriNet;II)I"⟩, method_17_code, 4, (some FieldType.int), 3, 99, 7, 2, 12)
def sL_whyNotEnabled : MS := (⟨"PetriNetLaw", "whyNotEnabled", "(LPetriNet;I)I"⟩, method_20_code, 3, (some FieldType.int), 2, 99, 7, 1, 6)
def sL_blockingPlace : MS := (⟨"PetriNetLaw", "blockingPlace", "(LPetriNet;I)I"⟩, method_21_code, 3, (some FieldType.int), 2, 99, 7, 1, 6)
def sL_firings : MS := (⟨"PetriNetLaw", "firings", "(LPetriNet;I)I"⟩, method_22_code, 3, (some FieldType.int), 2, 99, 7, 1, 6)
def sL_firesInRow : MS := (⟨"PetriNetLaw", "firesInRow", "(LPetriNet;I)I"⟩, method_23_code, 3, (some FieldType.int), 2, 99, 7, 1, 6)
def sL_markingTokens : MS := (⟨"PetriNetLaw", "markingTokens", "(LPetriNet;II)I"⟩, method_26_code, 4, (some FieldType.int), 3, 99, 7, 2, 12)
def sL_markingDistance : MS := (⟨"PetriNetLaw", "markingDistance", "(LPetriNet;I)I"⟩, method_27_code, 3, (some FieldType.int), 2, 99, 7, 1, 6)
def sL_markingTransition : MS := (⟨"PetriNetLaw", "markingTransition", "(LPetriNet;I)I"⟩, method_28_code, 3, (some FieldType.int), 2, 99, 7, 1, 6)
def sL_began : MS := (⟨"PetriNetLaw", "began", "(LPetriNet;[I)I"⟩, method_33_code, 9, (some FieldType.int), 2, 99, 9, 400, 300000)
def sL_act : MS := (⟨"PetriNetLaw", "act", "(LPetriNet;[II)V"⟩, method_34_code, 8, (Option.none : Option FieldType), 3, 99, 9, 20, 200)
def sL_isSound : MS := (⟨"PetriNetLaw", "isSound", "(LPetriNet;)Z"⟩, method_35_code, 5, (some FieldType.boolean), 1, 99, 8, 200, 2000)
def sL_areEffects : MS := (⟨"PetriNetLaw", "areEffects", "(LPetriNet;)Z"⟩, method_36_code, 8, (some FieldType.boolean), 1, 99, 8, 500, 5000)
def sL_areMarkings : MS := (⟨"PetriNetLaw", "areMarkings", "(LPetriNet;)Z"⟩, method_37_code, 13, (some FieldType.boolean), 1, 99, 8, 9000, 90000)
def sL_law : MS := (⟨"PetriNetLaw", "law", "([I)Z"⟩, code, 3, (some FieldType.boolean), 1, 99, 10, 600086, 7301442)
/-- the class that the constant pool of own class o is of -/
def oR : Nat → String := fun o => match o with
  | 0 => "PetriNet$Exploration"
  | 1 => "PetriNet$History"
  | 2 => "PetriNet$Net"
  | 3 => "PetriNet$Script"
  | 4 => "PetriNet"
  | 5 => "java/lang/StringBuilder"
  | 6 => "PetriNetLaw"
  | 7 => "java/lang/Integer"
  | 8 => "java/lang/String"
  | 9 => "java/lang/StringLatin1"
  | 10 => "jdk/internal/util/Preconditions"
  | 11 => "java/lang/AbstractStringBuilder"
  | 12 => "java/util/Arrays"
  | 13 => "jdk/internal/util/ArraysSupport"
  | _ => "java/lang/Math"
/-- methods that are called by super alone -/
def supL : List MethodName := [⟨"java/lang/AbstractStringBuilder", "length", "()I"⟩, ⟨"java/lang/AbstractStringBuilder", "charAt", "(I)C"⟩, ⟨"java/lang/AbstractStringBuilder", "append", "(Ljava/lang/String;)Ljava/lang/AbstractStringBuilder;"⟩, ⟨"java/lang/AbstractStringBuilder", "append", "(C)Ljava/lang/AbstractStringBuilder;"⟩, ⟨"java/lang/AbstractStringBuilder", "append", "(I)Ljava/lang/AbstractStringBuilder;"⟩, ⟨"java/lang/StringBuilder", "append", "(Ljava/lang/String;)Ljava/lang/AbstractStringBuilder;"⟩]
def isSup (y : MethodName) : Bool := decide (y ∈ supL)
/-- a method's own words are among WS -/
def okM (q : MS) : Prop := Cond.code q.1 q.2.1 q.2.2.1 q.2.2.2.1 ∈ WS ∧ Cond.initialized q.1.cls ∈ WS ∧ plainFor q.1 = true ∧ (q.1.cls ≠ "java/lang/invoke/MethodHandle" ∧ q.1.cls ≠ "java/lang/invoke/VarHandle") ∧ (parseMethodDescriptor q.1.desc).map (fun d => d.parameters.length) = some q.2.2.2.2.1 ∧ (if q.2.2.2.2.2.1 = 99 then Cond.static q.1 ∈ WS else Cond.instanceMethod q.1 ∈ WS ∧ (q.1.name = "<init>" ∨ isSup q.1 = true ∨ Cond.selects (oR q.2.2.2.2.2.1) q.1 q.1 ∈ WS))
set_option maxRecDepth 100000 in
theorem okX0_init : okM sX0_init := ⟨ws_of 161 rfl rfl, ws_of 5 (by decide +kernel) (by decide +kernel), by decide +kernel, ⟨by decide +kernel, by decide +kernel⟩, by decide +kernel, ⟨ws_of 160 (by decide +kernel) (by decide +kernel), Or.inl rfl⟩⟩
set_option maxRecDepth 100000 in
theorem okX0_explore : okM sX0_explore := ⟨ws_of 872 rfl rfl, ws_of 5 (by decide +kernel) (by decide +kernel), by decide +kernel, ⟨by decide +kernel, by decide +kernel⟩, by decide +kernel, ⟨ws_of 870 (by decide +kernel) (by decide +kernel), Or.inr (Or.inr (ws_of 871 (by decide +kernel) (by decide +kernel)))⟩⟩
set_option maxRecDepth 100000 in
theorem okX0_start : okM sX0_start := ⟨ws_of 876 rfl rfl, ws_of 5 (by decide +kernel) (by decide +kernel), by decide +kernel, ⟨by decide +kernel, by decide +kernel⟩, by decide +kernel, ⟨ws_of 875 (by decide +kernel) (by decide +kernel), Or.inr (Or.inr (ws_sel 19 (by decide +kernel) (by decide +kernel)))⟩⟩
set_option maxRecDepth 100000 in
theorem okX0_visit : okM sX0_visit := ⟨ws_of 889 rfl rfl, ws_of 5 (by decide +kernel) (by decide +kernel), by decide +kernel, ⟨by decide +kernel, by decide +kernel⟩, by decide +kernel, ⟨ws_of 888 (by decide +kernel) (by decide +kernel), Or.inr (Or.inr (ws_sel 20 (by decide +kernel) (by decide +kernel)))⟩⟩
set_option maxRecDepth 100000 in
theorem okX0_slotOf : okM sX0_slotOf := ⟨ws_of 893 rfl rfl, ws_of 5 (by decide +kernel) (by decide +kernel), by decide +kernel, ⟨by decide +kernel, by decide +kernel⟩, by decide +kernel, ⟨ws_of 892 (by decide +kernel) (by decide +kernel), Or.inr (Or.inr (ws_sel 21 (by decide +kernel) (by decide +kernel)))⟩⟩
set_option maxRecDepth 100000 in
theorem okX0_tokensIn : okM sX0_tokensIn := ⟨ws_of 984 rfl rfl, ws_of 5 (by decide +kernel) (by decide +kernel), by decide +kernel, ⟨by decide +kernel, by decide +kernel⟩, by decide +kernel, ⟨ws_of 982 (by decide +kernel) (by decide +kernel), Or.inr (Or.inr (ws_of 983 (by decide +kernel) (by decide +kernel)))⟩⟩
set_option maxRecDepth 100000 in
theorem okX0_isEnabledIn : okM sX0_isEnabledIn := ⟨ws_of 909 rfl rfl, ws_of 5 (by decide +kernel) (by decide +kernel), by decide +kernel, ⟨by decide +kernel, by decide +kernel⟩, by decide +kernel, ⟨ws_of 907 (by decide +kernel) (by decide +kernel), Or.inr (Or.inr (ws_of 908 (by decide +kernel) (by decide +kernel)))⟩⟩
set_option maxRecDepth 100000 in
theorem okX0_keepsTokensOf : okM sX0_keepsTokensOf := ⟨ws_of 976 rfl rfl, ws_of 5 (by decide +kernel) (by decide +kernel), by decide +kernel, ⟨by decide +kernel, by decide +kernel⟩, by decide +kernel, ⟨ws_of 974 (by decide +kernel) (by decide +kernel), Or.inr (Or.inr (ws_of 975 (by decide +kernel) (by decide +kernel)))⟩⟩
set_option maxRecDepth 100000 in
theorem okX0_tokensOf : okM sX0_tokensOf := ⟨ws_of 980 rfl rfl, ws_of 5 (by decide +kernel) (by decide +kernel), by decide +kernel, ⟨by decide +kernel, by decide +kernel⟩, by decide +kernel, ⟨ws_of 979 (by decide +kernel) (by decide +kernel), Or.inr (Or.inr (ws_sel 23 (by decide +kernel) (by decide +kernel)))⟩⟩
set_option maxRecDepth 100000 in
theorem okX1_init : okM sX1_init := ⟨ws_of 104 rfl rfl, ws_of 3 (by decide +kernel) (by decide +kernel), by decide +kernel, ⟨by decide +kernel, by decide +kernel⟩, by decide +kernel, ⟨ws_of 103 (by decide +kernel) (by decide +kernel), Or.inl rfl⟩⟩
set_option maxRecDepth 100000 in
theorem okX1_push : okM sX1_push := ⟨ws_of 732 rfl rfl, ws_of 3 (by decide +kernel) (by decide +kernel), by decide +kernel, ⟨by decide +kernel, by decide +kernel⟩, by decide +kernel, ⟨ws_of 730 (by decide +kernel) (by decide +kernel), Or.inr (Or.inr (ws_of 731 (by decide +kernel) (by decide +kernel)))⟩⟩
set_option maxRecDepth 100000 in
theorem okX1_popInto : okM sX1_popInto := ⟨ws_of 1076 rfl rfl, ws_of 3 (by decide +kernel) (by decide +kernel), by decide +kernel, ⟨by decide +kernel, by decide +kernel⟩, by decide +kernel, ⟨ws_of 1074 (by decide +kernel) (by decide +kernel), Or.inr (Or.inr (ws_of 1075 (by decide +kernel) (by decide +kernel)))⟩⟩
set_option maxRecDepth 100000 in
theorem okX2_init : okM sX2_init := ⟨ws_of 40 rfl rfl, ws_of 2 (by decide +kernel) (by decide +kernel), by decide +kernel, ⟨by decide +kernel, by decide +kernel⟩, by decide +kernel, ⟨ws_of 39 (by decide +kernel) (by decide +kernel), Or.inl rfl⟩⟩
set_option maxRecDepth 100000 in
theorem okX2_arc : okM sX2_arc := ⟨ws_of 91 rfl rfl, ws_of 2 (by decide +kernel) (by decide +kernel), by decide +kernel, ⟨by decide +kernel, by decide +kernel⟩, by decide +kernel, ws_of 90 (by decide +kernel) (by decide +kernel)⟩
set_option maxRecDepth 100000 in
theorem okX2_clear : okM sX2_clear := ⟨ws_of 88 rfl rfl, ws_of 2 (by decide +kernel) (by decide +kernel), by decide +kernel, ⟨by decide +kernel, by decide +kernel⟩, by decide +kernel, ⟨ws_of 86 (by decide +kernel) (by decide +kernel), Or.inr (Or.inr (ws_of 87 (by decide +kernel) (by decide +kernel)))⟩⟩
set_option maxRecDepth 100000 in
theorem okX2_copyFrom : okM sX2_copyFrom := ⟨ws_of 736 rfl rfl, ws_of 2 (by decide +kernel) (by decide +kernel), by decide +kernel, ⟨by decide +kernel, by decide +kernel⟩, by decide +kernel, ⟨ws_of 734 (by decide +kernel) (by decide +kernel), Or.inr (Or.inr (ws_of 735 (by decide +kernel) (by decide +kernel)))⟩⟩
set_option maxRecDepth 100000 in
theorem okX2_swapInputsAndOutputs : okM sX2_swapInputsAndOutputs := ⟨ws_of 946 rfl rfl, ws_of 2 (by decide +kernel) (by decide +kernel), by decide +kernel, ⟨by decide +kernel, by decide +kernel⟩, by decide +kernel, ⟨ws_of 944 (by decide +kernel) (by decide +kernel), Or.inr (Or.inr (ws_of 945 (by decide +kernel) (by decide +kernel)))⟩⟩
set_option maxRecDepth 100000 in
theorem okX2_change : okM sX2_change := ⟨ws_of 99 rfl rfl, ws_of 2 (by decide +kernel) (by decide +kernel), by decide +kernel, ⟨by decide +kernel, by decide +kernel⟩, by decide +kernel, ⟨ws_of 97 (by decide +kernel) (by decide +kernel), Or.inr (Or.inr (ws_of 98 (by decide +kernel) (by decide +kernel)))⟩⟩
set_option maxRecDepth 100000 in
theorem okX2_sumOfTokens : okM sX2_sumOfTokens := ⟨ws_of 743 rfl rfl, ws_of 2 (by decide +kernel) (by decide +kernel), by decide +kernel, ⟨by decide +kernel, by decide +kernel⟩, by decide +kernel, ⟨ws_of 741 (by decide +kernel) (by decide +kernel), Or.inr (Or.inr (ws_of 742 (by decide +kernel) (by decide +kernel)))⟩⟩
set_option maxRecDepth 100000 in
theorem okX2_placesOutOfRange : okM sX2_placesOutOfRange := ⟨ws_of 964 rfl rfl, ws_of 2 (by decide +kernel) (by decide +kernel), by decide +kernel, ⟨by decide +kernel, by decide +kernel⟩, by decide +kernel, ⟨ws_of 962 (by decide +kernel) (by decide +kernel), Or.inr (Or.inr (ws_of 963 (by decide +kernel) (by decide +kernel)))⟩⟩
set_option maxRecDepth 100000 in
theorem okX2_reasonAt : okM sX2_reasonAt := ⟨ws_of 713 rfl rfl, ws_of 2 (by decide +kernel) (by decide +kernel), by decide +kernel, ⟨by decide +kernel, by decide +kernel⟩, by decide +kernel, ⟨ws_of 711 (by decide +kernel) (by decide +kernel), Or.inr (Or.inr (ws_of 712 (by decide +kernel) (by decide +kernel)))⟩⟩
set_option maxRecDepth 100000 in
theorem okX2_allows : okM sX2_allows := ⟨ws_of 709 rfl rfl, ws_of 2 (by decide +kernel) (by decide +kernel), by decide +kernel, ⟨by decide +kernel, by decide +kernel⟩, by decide +kernel, ⟨ws_of 707 (by decide +kernel) (by decide +kernel), Or.inr (Or.inr (ws_of 708 (by decide +kernel) (by decide +kernel)))⟩⟩
set_option maxRecDepth 100000 in
theorem okX2_reasonAgainst : okM sX2_reasonAgainst := ⟨ws_of 1010 rfl rfl, ws_of 2 (by decide +kernel) (by decide +kernel), by decide +kernel, ⟨by decide +kernel, by decide +kernel⟩, by decide +kernel, ⟨ws_of 1008 (by decide +kernel) (by decide +kernel), Or.inr (Or.inr (ws_of 1009 (by decide +kernel) (by decide +kernel)))⟩⟩
set_option maxRecDepth 100000 in
theorem okX2_firstBlocker : okM sX2_firstBlocker := ⟨ws_of 1021 rfl rfl, ws_of 2 (by decide +kernel) (by decide +kernel), by decide +kernel, ⟨by decide +kernel, by decide +kernel⟩, by decide +kernel, ⟨ws_of 1019 (by decide +kernel) (by decide +kernel), Or.inr (Or.inr (ws_of 1020 (by decide +kernel) (by decide +kernel)))⟩⟩
set_option maxRecDepth 100000 in
theorem okX2_enabledSet : okM sX2_enabledSet := ⟨ws_of 905 rfl rfl, ws_of 2 (by decide +kernel) (by decide +kernel), by decide +kernel, ⟨by decide +kernel, by decide +kernel⟩, by decide +kernel, ⟨ws_of 903 (by decide +kernel) (by decide +kernel), Or.inr (Or.inr (ws_of 904 (by decide +kernel) (by decide +kernel)))⟩⟩
set_option maxRecDepth 100000 in
theorem okX2_fireOnce : okM sX2_fireOnce := ⟨ws_of 95 rfl rfl, ws_of 2 (by decide +kernel) (by decide +kernel), by decide +kernel, ⟨by decide +kernel, by decide +kernel⟩, by decide +kernel, ⟨ws_of 93 (by decide +kernel) (by decide +kernel), Or.inr (Or.inr (ws_of 94 (by decide +kernel) (by decide +kernel)))⟩⟩
set_option maxRecDepth 100000 in
theorem okX2_nextToFire : okM sX2_nextToFire := ⟨ws_of 722 rfl rfl, ws_of 2 (by decide +kernel) (by decide +kernel), by decide +kernel, ⟨by decide +kernel, by decide +kernel⟩, by decide +kernel, ⟨ws_of 720 (by decide +kernel) (by decide +kernel), Or.inr (Or.inr (ws_of 721 (by decide +kernel) (by decide +kernel)))⟩⟩
set_option maxRecDepth 100000 in
theorem okX2_advance : okM sX2_advance := ⟨ws_of 718 rfl rfl, ws_of 2 (by decide +kernel) (by decide +kernel), by decide +kernel, ⟨by decide +kernel, by decide +kernel⟩, by decide +kernel, ⟨ws_of 716 (by decide +kernel) (by decide +kernel), Or.inr (Or.inr (ws_of 717 (by decide +kernel) (by decide +kernel)))⟩⟩
set_option maxRecDepth 100000 in
theorem okX2_keepsWeightedTokens : okM sX2_keepsWeightedTokens := ⟨ws_of 972 rfl rfl, ws_of 2 (by decide +kernel) (by decide +kernel), by decide +kernel, ⟨by decide +kernel, by decide +kernel⟩, by decide +kernel, ⟨ws_of 970 (by decide +kernel) (by decide +kernel), Or.inr (Or.inr (ws_of 971 (by decide +kernel) (by decide +kernel)))⟩⟩
set_option maxRecDepth 100000 in
theorem okX2_packMarking : okM sX2_packMarking := ⟨ws_of 885 rfl rfl, ws_of 2 (by decide +kernel) (by decide +kernel), by decide +kernel, ⟨by decide +kernel, by decide +kernel⟩, by decide +kernel, ⟨ws_of 883 (by decide +kernel) (by decide +kernel), Or.inr (Or.inr (ws_of 884 (by decide +kernel) (by decide +kernel)))⟩⟩
set_option maxRecDepth 100000 in
theorem okX2_packChange : okM sX2_packChange := ⟨ws_of 881 rfl rfl, ws_of 2 (by decide +kernel) (by decide +kernel), by decide +kernel, ⟨by decide +kernel, by decide +kernel⟩, by decide +kernel, ⟨ws_of 879 (by decide +kernel) (by decide +kernel), Or.inr (Or.inr (ws_of 880 (by decide +kernel) (by decide +kernel)))⟩⟩
set_option maxRecDepth 100000 in
theorem okX2_unpackTokens : okM sX2_unpackTokens := ⟨ws_of 901 rfl rfl, ws_of 2 (by decide +kernel) (by decide +kernel), by decide +kernel, ⟨by decide +kernel, by decide +kernel⟩, by decide +kernel, ws_of 900 (by decide +kernel) (by decide +kernel)⟩
set_option maxRecDepth 100000 in
theorem okX2_unpackMarking : okM sX2_unpackMarking := ⟨ws_of 898 rfl rfl, ws_of 2 (by decide +kernel) (by decide +kernel), by decide +kernel, ⟨by decide +kernel, by decide +kernel⟩, by decide +kernel, ⟨ws_of 896 (by decide +kernel) (by decide +kernel), Or.inr (Or.inr (ws_of 897 (by decide +kernel) (by decide +kernel)))⟩⟩
set_option maxRecDepth 100000 in
theorem okX3_init : okM sX3_init := ⟨ws_of 124 rfl rfl, ws_of 4 (by decide +kernel) (by decide +kernel), by decide +kernel, ⟨by decide +kernel, by decide +kernel⟩, by decide +kernel, ⟨ws_of 123 (by decide +kernel) (by decide +kernel), Or.inl rfl⟩⟩
set_option maxRecDepth 100000 in
theorem okX3_addFourBytes : okM sX3_addFourBytes := ⟨ws_of 612 rfl rfl, ws_of 4 (by decide +kernel) (by decide +kernel), by decide +kernel, ⟨by decide +kernel, by decide +kernel⟩, by decide +kernel, ⟨ws_of 610 (by decide +kernel) (by decide +kernel), Or.inr (Or.inr (ws_of 611 (by decide +kernel) (by decide +kernel)))⟩⟩
set_option maxRecDepth 100000 in
theorem okX3_execute : okM sX3_execute := ⟨ws_of 620 rfl rfl, ws_of 4 (by decide +kernel) (by decide +kernel), by decide +kernel, ⟨by decide +kernel, by decide +kernel⟩, by decide +kernel, ⟨ws_of 618 (by decide +kernel) (by decide +kernel), Or.inr (Or.inr (ws_of 619 (by decide +kernel) (by decide +kernel)))⟩⟩
set_option maxRecDepth 100000 in
theorem okX3_readHeader : okM sX3_readHeader := ⟨ws_of 634 rfl rfl, ws_of 4 (by decide +kernel) (by decide +kernel), by decide +kernel, ⟨by decide +kernel, by decide +kernel⟩, by decide +kernel, ⟨ws_of 633 (by decide +kernel) (by decide +kernel), Or.inr (Or.inr (ws_sel 2 (by decide +kernel) (by decide +kernel)))⟩⟩
set_option maxRecDepth 100000 in
theorem okX3_readCommand : okM sX3_readCommand := ⟨ws_of 672 rfl rfl, ws_of 4 (by decide +kernel) (by decide +kernel), by decide +kernel, ⟨by decide +kernel, by decide +kernel⟩, by decide +kernel, ⟨ws_of 671 (by decide +kernel) (by decide +kernel), Or.inr (Or.inr (ws_sel 7 (by decide +kernel) (by decide +kernel)))⟩⟩
set_option maxRecDepth 100000 in
theorem okX3_commandOfToken : okM sX3_commandOfToken := ⟨ws_of 676 rfl rfl, ws_of 4 (by decide +kernel) (by decide +kernel), by decide +kernel, ⟨by decide +kernel, by decide +kernel⟩, by decide +kernel, ⟨ws_of 675 (by decide +kernel) (by decide +kernel), Or.inr (Or.inr (ws_sel 8 (by decide +kernel) (by decide +kernel)))⟩⟩
set_option maxRecDepth 100000 in
theorem okX3_readTokens : okM sX3_readTokens := ⟨ws_of 687 rfl rfl, ws_of 4 (by decide +kernel) (by decide +kernel), by decide +kernel, ⟨by decide +kernel, by decide +kernel⟩, by decide +kernel, ⟨ws_of 686 (by decide +kernel) (by decide +kernel), Or.inr (Or.inr (ws_sel 9 (by decide +kernel) (by decide +kernel)))⟩⟩
set_option maxRecDepth 100000 in
theorem okX3_readCapacity : okM sX3_readCapacity := ⟨ws_of 691 rfl rfl, ws_of 4 (by decide +kernel) (by decide +kernel), by decide +kernel, ⟨by decide +kernel, by decide +kernel⟩, by decide +kernel, ⟨ws_of 690 (by decide +kernel) (by decide +kernel), Or.inr (Or.inr (ws_sel 10 (by decide +kernel) (by decide +kernel)))⟩⟩
set_option maxRecDepth 100000 in
theorem okX3_readArcFromPlace : okM sX3_readArcFromPlace := ⟨ws_of 696 rfl rfl, ws_of 4 (by decide +kernel) (by decide +kernel), by decide +kernel, ⟨by decide +kernel, by decide +kernel⟩, by decide +kernel, ⟨ws_of 695 (by decide +kernel) (by decide +kernel), Or.inr (Or.inr (ws_sel 11 (by decide +kernel) (by decide +kernel)))⟩⟩
set_option maxRecDepth 100000 in
theorem okX3_readArcFromTransition : okM sX3_readArcFromTransition := ⟨ws_of 701 rfl rfl, ws_of 4 (by decide +kernel) (by decide +kernel), by decide +kernel, ⟨by decide +kernel, by decide +kernel⟩, by decide +kernel, ⟨ws_of 700 (by decide +kernel) (by decide +kernel), Or.inr (Or.inr (ws_sel 12 (by decide +kernel) (by decide +kernel)))⟩⟩
set_option maxRecDepth 100000 in
theorem okX3_readFire : okM sX3_readFire := ⟨ws_of 705 rfl rfl, ws_of 4 (by decide +kernel) (by decide +kernel), by decide +kernel, ⟨by decide +kernel, by decide +kernel⟩, by decide +kernel, ⟨ws_of 704 (by decide +kernel) (by decide +kernel), Or.inr (Or.inr (ws_sel 13 (by decide +kernel) (by decide +kernel)))⟩⟩
set_option maxRecDepth 100000 in
theorem okX3_readSemicolon : okM sX3_readSemicolon := ⟨ws_of 668 rfl rfl, ws_of 4 (by decide +kernel) (by decide +kernel), by decide +kernel, ⟨by decide +kernel, by decide +kernel⟩, by decide +kernel, ⟨ws_of 667 (by decide +kernel) (by decide +kernel), Or.inr (Or.inr (ws_sel 6 (by decide +kernel) (by decide +kernel)))⟩⟩
set_option maxRecDepth 100000 in
theorem okX3_readNumber : okM sX3_readNumber := ⟨ws_of 663 rfl rfl, ws_of 4 (by decide +kernel) (by decide +kernel), by decide +kernel, ⟨by decide +kernel, by decide +kernel⟩, by decide +kernel, ⟨ws_of 662 (by decide +kernel) (by decide +kernel), Or.inr (Or.inr (ws_sel 5 (by decide +kernel) (by decide +kernel)))⟩⟩
set_option maxRecDepth 100000 in
theorem okX3_fail : okM sX3_fail := ⟨ws_of 659 rfl rfl, ws_of 4 (by decide +kernel) (by decide +kernel), by decide +kernel, ⟨by decide +kernel, by decide +kernel⟩, by decide +kernel, ⟨ws_of 658 (by decide +kernel) (by decide +kernel), Or.inr (Or.inr (ws_sel 4 (by decide +kernel) (by decide +kernel)))⟩⟩
set_option maxRecDepth 100000 in
theorem okX3_isWord : okM sX3_isWord := ⟨ws_of 639 rfl rfl, ws_of 4 (by decide +kernel) (by decide +kernel), by decide +kernel, ⟨by decide +kernel, by decide +kernel⟩, by decide +kernel, ⟨ws_of 638 (by decide +kernel) (by decide +kernel), Or.inr (Or.inr (ws_sel 3 (by decide +kernel) (by decide +kernel)))⟩⟩
set_option maxRecDepth 100000 in
theorem okX3_readToken : okM sX3_readToken := ⟨ws_of 624 rfl rfl, ws_of 4 (by decide +kernel) (by decide +kernel), by decide +kernel, ⟨by decide +kernel, by decide +kernel⟩, by decide +kernel, ⟨ws_of 623 (by decide +kernel) (by decide +kernel), Or.inr (Or.inr (ws_sel 1 (by decide +kernel) (by decide +kernel)))⟩⟩
set_option maxRecDepth 100000 in
theorem okX3_isLetter : okM sX3_isLetter := ⟨ws_of 627 rfl rfl, ws_of 4 (by decide +kernel) (by decide +kernel), by decide +kernel, ⟨by decide +kernel, by decide +kernel⟩, by decide +kernel, ws_of 626 (by decide +kernel) (by decide +kernel)⟩
set_option maxRecDepth 100000 in
theorem okX3_isDigit : okM sX3_isDigit := ⟨ws_of 630 rfl rfl, ws_of 4 (by decide +kernel) (by decide +kernel), by decide +kernel, ⟨by decide +kernel, by decide +kernel⟩, by decide +kernel, ws_of 629 (by decide +kernel) (by decide +kernel)⟩
set_option maxRecDepth 100000 in
theorem okX4_init : okM sX4_init := ⟨ws_of 29 rfl rfl, ws_of 1 (by decide +kernel) (by decide +kernel), by decide +kernel, ⟨by decide +kernel, by decide +kernel⟩, by decide +kernel, ⟨ws_of 28 (by decide +kernel) (by decide +kernel), Or.inl rfl⟩⟩
set_option maxRecDepth 100000 in
theorem okX4_firstNet : okM sX4_firstNet := ⟨ws_of 35 rfl rfl, ws_of 1 (by decide +kernel) (by decide +kernel), by decide +kernel, ⟨by decide +kernel, by decide +kernel⟩, by decide +kernel, ws_of 34 (by decide +kernel) (by decide +kernel)⟩
set_option maxRecDepth 100000 in
theorem okX4_append : okM sX4_append := ⟨ws_of 608 rfl rfl, ws_of 1 (by decide +kernel) (by decide +kernel), by decide +kernel, ⟨by decide +kernel, by decide +kernel⟩, by decide +kernel, ⟨ws_of 606 (by decide +kernel) (by decide +kernel), Or.inr (Or.inr (ws_of 607 (by decide +kernel) (by decide +kernel)))⟩⟩
set_option maxRecDepth 100000 in
theorem okX4_runScript : okM sX4_runScript := ⟨ws_of 616 rfl rfl, ws_of 1 (by decide +kernel) (by decide +kernel), by decide +kernel, ⟨by decide +kernel, by decide +kernel⟩, by decide +kernel, ⟨ws_of 614 (by decide +kernel) (by decide +kernel), Or.inr (Or.inr (ws_of 615 (by decide +kernel) (by decide +kernel)))⟩⟩
set_option maxRecDepth 100000 in
theorem okX4_setTokens : okM sX4_setTokens := ⟨ws_of 763 rfl rfl, ws_of 1 (by decide +kernel) (by decide +kernel), by decide +kernel, ⟨by decide +kernel, by decide +kernel⟩, by decide +kernel, ⟨ws_of 761 (by decide +kernel) (by decide +kernel), Or.inr (Or.inr (ws_of 762 (by decide +kernel) (by decide +kernel)))⟩⟩
set_option maxRecDepth 100000 in
theorem okX4_setCapacity : okM sX4_setCapacity := ⟨ws_of 797 rfl rfl, ws_of 1 (by decide +kernel) (by decide +kernel), by decide +kernel, ⟨by decide +kernel, by decide +kernel⟩, by decide +kernel, ⟨ws_of 795 (by decide +kernel) (by decide +kernel), Or.inr (Or.inr (ws_of 796 (by decide +kernel) (by decide +kernel)))⟩⟩
set_option maxRecDepth 100000 in
theorem okX4_setInput : okM sX4_setInput := ⟨ws_of 820 rfl rfl, ws_of 1 (by decide +kernel) (by decide +kernel), by decide +kernel, ⟨by decide +kernel, by decide +kernel⟩, by decide +kernel, ⟨ws_of 818 (by decide +kernel) (by decide +kernel), Or.inr (Or.inr (ws_of 819 (by decide +kernel) (by decide +kernel)))⟩⟩
set_option maxRecDepth 100000 in
theorem okX4_setOutput : okM sX4_setOutput := ⟨ws_of 836 rfl rfl, ws_of 1 (by decide +kernel) (by decide +kernel), by decide +kernel, ⟨by decide +kernel, by decide +kernel⟩, by decide +kernel, ⟨ws_of 834 (by decide +kernel) (by decide +kernel), Or.inr (Or.inr (ws_of 835 (by decide +kernel) (by decide +kernel)))⟩⟩
set_option maxRecDepth 100000 in
theorem okX4_setInhibitor : okM sX4_setInhibitor := ⟨ws_of 843 rfl rfl, ws_of 1 (by decide +kernel) (by decide +kernel), by decide +kernel, ⟨by decide +kernel, by decide +kernel⟩, by decide +kernel, ⟨ws_of 841 (by decide +kernel) (by decide +kernel), Or.inr (Or.inr (ws_of 842 (by decide +kernel) (by decide +kernel)))⟩⟩
set_option maxRecDepth 100000 in
theorem okX4_fire : okM sX4_fire := ⟨ws_of 850 rfl rfl, ws_of 1 (by decide +kernel) (by decide +kernel), by decide +kernel, ⟨by decide +kernel, by decide +kernel⟩, by decide +kernel, ⟨ws_of 848 (by decide +kernel) (by decide +kernel), Or.inr (Or.inr (ws_of 849 (by decide +kernel) (by decide +kernel)))⟩⟩
set_option maxRecDepth 100000 in
theorem okX4_run : okM sX4_run := ⟨ws_of 859 rfl rfl, ws_of 1 (by decide +kernel) (by decide +kernel), by decide +kernel, ⟨by decide +kernel, by decide +kernel⟩, by decide +kernel, ⟨ws_of 857 (by decide +kernel) (by decide +kernel), Or.inr (Or.inr (ws_of 858 (by decide +kernel) (by decide +kernel)))⟩⟩
set_option maxRecDepth 100000 in
theorem okX4_moveToMarking : okM sX4_moveToMarking := ⟨ws_of 918 rfl rfl, ws_of 1 (by decide +kernel) (by decide +kernel), by decide +kernel, ⟨by decide +kernel, by decide +kernel⟩, by decide +kernel, ⟨ws_of 916 (by decide +kernel) (by decide +kernel), Or.inr (Or.inr (ws_of 917 (by decide +kernel) (by decide +kernel)))⟩⟩
set_option maxRecDepth 100000 in
theorem okX4_reverseNet : okM sX4_reverseNet := ⟨ws_of 942 rfl rfl, ws_of 1 (by decide +kernel) (by decide +kernel), by decide +kernel, ⟨by decide +kernel, by decide +kernel⟩, by decide +kernel, ⟨ws_of 940 (by decide +kernel) (by decide +kernel), Or.inr (Or.inr (ws_of 941 (by decide +kernel) (by decide +kernel)))⟩⟩
set_option maxRecDepth 100000 in
theorem okX4_beginChange : okM sX4_beginChange := ⟨ws_of 728 rfl rfl, ws_of 1 (by decide +kernel) (by decide +kernel), by decide +kernel, ⟨by decide +kernel, by decide +kernel⟩, by decide +kernel, ⟨ws_of 727 (by decide +kernel) (by decide +kernel), Or.inr (Or.inr (ws_sel 14 (by decide +kernel) (by decide +kernel)))⟩⟩
set_option maxRecDepth 100000 in
theorem okX4_undo : okM sX4_undo := ⟨ws_of 1072 rfl rfl, ws_of 1 (by decide +kernel) (by decide +kernel), by decide +kernel, ⟨by decide +kernel, by decide +kernel⟩, by decide +kernel, ⟨ws_of 1070 (by decide +kernel) (by decide +kernel), Or.inr (Or.inr (ws_of 1071 (by decide +kernel) (by decide +kernel)))⟩⟩
set_option maxRecDepth 100000 in
theorem okX4_undoCount : okM sX4_undoCount := ⟨ws_of 1060 rfl rfl, ws_of 1 (by decide +kernel) (by decide +kernel), by decide +kernel, ⟨by decide +kernel, by decide +kernel⟩, by decide +kernel, ⟨ws_of 1058 (by decide +kernel) (by decide +kernel), Or.inr (Or.inr (ws_of 1059 (by decide +kernel) (by decide +kernel)))⟩⟩
set_option maxRecDepth 100000 in
theorem okX4_placeCount : okM sX4_placeCount := ⟨ws_of 750 rfl rfl, ws_of 1 (by decide +kernel) (by decide +kernel), by decide +kernel, ⟨by decide +kernel, by decide +kernel⟩, by decide +kernel, ⟨ws_of 748 (by decide +kernel) (by decide +kernel), Or.inr (Or.inr (ws_of 749 (by decide +kernel) (by decide +kernel)))⟩⟩
set_option maxRecDepth 100000 in
theorem okX4_transitionCount : okM sX4_transitionCount := ⟨ws_of 754 rfl rfl, ws_of 1 (by decide +kernel) (by decide +kernel), by decide +kernel, ⟨by decide +kernel, by decide +kernel⟩, by decide +kernel, ⟨ws_of 752 (by decide +kernel) (by decide +kernel), Or.inr (Or.inr (ws_of 753 (by decide +kernel) (by decide +kernel)))⟩⟩
set_option maxRecDepth 100000 in
theorem okX4_tokens : okM sX4_tokens := ⟨ws_of 992 rfl rfl, ws_of 1 (by decide +kernel) (by decide +kernel), by decide +kernel, ⟨by decide +kernel, by decide +kernel⟩, by decide +kernel, ⟨ws_of 990 (by decide +kernel) (by decide +kernel), Or.inr (Or.inr (ws_of 991 (by decide +kernel) (by decide +kernel)))⟩⟩
set_option maxRecDepth 100000 in
theorem okX4_capacity : okM sX4_capacity := ⟨ws_of 999 rfl rfl, ws_of 1 (by decide +kernel) (by decide +kernel), by decide +kernel, ⟨by decide +kernel, by decide +kernel⟩, by decide +kernel, ⟨ws_of 997 (by decide +kernel) (by decide +kernel), Or.inr (Or.inr (ws_of 998 (by decide +kernel) (by decide +kernel)))⟩⟩
set_option maxRecDepth 100000 in
theorem okX4_effect : okM sX4_effect := ⟨ws_of 1067 rfl rfl, ws_of 1 (by decide +kernel) (by decide +kernel), by decide +kernel, ⟨by decide +kernel, by decide +kernel⟩, by decide +kernel, ⟨ws_of 1065 (by decide +kernel) (by decide +kernel), Or.inr (Or.inr (ws_of 1066 (by decide +kernel) (by decide +kernel)))⟩⟩
set_option maxRecDepth 100000 in
theorem okX4_totalTokens : okM sX4_totalTokens := ⟨ws_of 1033 rfl rfl, ws_of 1 (by decide +kernel) (by decide +kernel), by decide +kernel, ⟨by decide +kernel, by decide +kernel⟩, by decide +kernel, ⟨ws_of 1031 (by decide +kernel) (by decide +kernel), Or.inr (Or.inr (ws_of 1032 (by decide +kernel) (by decide +kernel)))⟩⟩
set_option maxRecDepth 100000 in
theorem okX4_whyNotEnabled : okM sX4_whyNotEnabled := ⟨ws_of 1006 rfl rfl, ws_of 1 (by decide +kernel) (by decide +kernel), by decide +kernel, ⟨by decide +kernel, by decide +kernel⟩, by decide +kernel, ⟨ws_of 1004 (by decide +kernel) (by decide +kernel), Or.inr (Or.inr (ws_of 1005 (by decide +kernel) (by decide +kernel)))⟩⟩
set_option maxRecDepth 100000 in
theorem okX4_blockingPlace : okM sX4_blockingPlace := ⟨ws_of 1017 rfl rfl, ws_of 1 (by decide +kernel) (by decide +kernel), by decide +kernel, ⟨by decide +kernel, by decide +kernel⟩, by decide +kernel, ⟨ws_of 1015 (by decide +kernel) (by decide +kernel), Or.inr (Or.inr (ws_of 1016 (by decide +kernel) (by decide +kernel)))⟩⟩
set_option maxRecDepth 100000 in
theorem okX4_enabledTransitions : okM sX4_enabledTransitions := ⟨ws_of 1037 rfl rfl, ws_of 1 (by decide +kernel) (by decide +kernel), by decide +kernel, ⟨by decide +kernel, by decide +kernel⟩, by decide +kernel, ⟨ws_of 1035 (by decide +kernel) (by decide +kernel), Or.inr (Or.inr (ws_of 1036 (by decide +kernel) (by decide +kernel)))⟩⟩
set_option maxRecDepth 100000 in
theorem okX4_isDead : okM sX4_isDead := ⟨ws_of 1041 rfl rfl, ws_of 1 (by decide +kernel) (by decide +kernel), by decide +kernel, ⟨by decide +kernel, by decide +kernel⟩, by decide +kernel, ⟨ws_of 1039 (by decide +kernel) (by decide +kernel), Or.inr (Or.inr (ws_of 1040 (by decide +kernel) (by decide +kernel)))⟩⟩
set_option maxRecDepth 100000 in
theorem okX4_firings : okM sX4_firings := ⟨ws_of 1056 rfl rfl, ws_of 1 (by decide +kernel) (by decide +kernel), by decide +kernel, ⟨by decide +kernel, by decide +kernel⟩, by decide +kernel, ⟨ws_of 1054 (by decide +kernel) (by decide +kernel), Or.inr (Or.inr (ws_of 1055 (by decide +kernel) (by decide +kernel)))⟩⟩
set_option maxRecDepth 100000 in
theorem okX4_nextOfRun : okM sX4_nextOfRun := ⟨ws_of 1045 rfl rfl, ws_of 1 (by decide +kernel) (by decide +kernel), by decide +kernel, ⟨by decide +kernel, by decide +kernel⟩, by decide +kernel, ⟨ws_of 1043 (by decide +kernel) (by decide +kernel), Or.inr (Or.inr (ws_of 1044 (by decide +kernel) (by decide +kernel)))⟩⟩
set_option maxRecDepth 100000 in
theorem okX4_firesInRow : okM sX4_firesInRow := ⟨ws_of 1029 rfl rfl, ws_of 1 (by decide +kernel) (by decide +kernel), by decide +kernel, ⟨by decide +kernel, by decide +kernel⟩, by decide +kernel, ⟨ws_of 1027 (by decide +kernel) (by decide +kernel), Or.inr (Or.inr (ws_of 1028 (by decide +kernel) (by decide +kernel)))⟩⟩
set_option maxRecDepth 100000 in
theorem okX4_markingCount : okM sX4_markingCount := ⟨ws_of 864 rfl rfl, ws_of 1 (by decide +kernel) (by decide +kernel), by decide +kernel, ⟨by decide +kernel, by decide +kernel⟩, by decide +kernel, ⟨ws_of 862 (by decide +kernel) (by decide +kernel), Or.inr (Or.inr (ws_of 863 (by decide +kernel) (by decide +kernel)))⟩⟩
set_option maxRecDepth 100000 in
theorem okX4_markingTokens : okM sX4_markingTokens := ⟨ws_of 1089 rfl rfl, ws_of 1 (by decide +kernel) (by decide +kernel), by decide +kernel, ⟨by decide +kernel, by decide +kernel⟩, by decide +kernel, ⟨ws_of 1087 (by decide +kernel) (by decide +kernel), Or.inr (Or.inr (ws_of 1088 (by decide +kernel) (by decide +kernel)))⟩⟩
set_option maxRecDepth 100000 in
theorem okX4_markingDistance : okM sX4_markingDistance := ⟨ws_of 1097 rfl rfl, ws_of 1 (by decide +kernel) (by decide +kernel), by decide +kernel, ⟨by decide +kernel, by decide +kernel⟩, by decide +kernel, ⟨ws_of 1095 (by decide +kernel) (by decide +kernel), Or.inr (Or.inr (ws_of 1096 (by decide +kernel) (by decide +kernel)))⟩⟩
set_option maxRecDepth 100000 in
theorem okX4_markingTransition : okM sX4_markingTransition := ⟨ws_of 1104 rfl rfl, ws_of 1 (by decide +kernel) (by decide +kernel), by decide +kernel, ⟨by decide +kernel, by decide +kernel⟩, by decide +kernel, ⟨ws_of 1102 (by decide +kernel) (by decide +kernel), Or.inr (Or.inr (ws_of 1103 (by decide +kernel) (by decide +kernel)))⟩⟩
set_option maxRecDepth 100000 in
theorem okX4_explored : okM sX4_explored := ⟨ws_of 868 rfl rfl, ws_of 1 (by decide +kernel) (by decide +kernel), by decide +kernel, ⟨by decide +kernel, by decide +kernel⟩, by decide +kernel, ⟨ws_of 867 (by decide +kernel) (by decide +kernel), Or.inr (Or.inr (ws_sel 18 (by decide +kernel) (by decide +kernel)))⟩⟩
set_option maxRecDepth 100000 in
theorem okX4_isSimpleInvariant : okM sX4_isSimpleInvariant := ⟨ws_of 968 rfl rfl, ws_of 1 (by decide +kernel) (by decide +kernel), by decide +kernel, ⟨by decide +kernel, by decide +kernel⟩, by decide +kernel, ⟨ws_of 967 (by decide +kernel) (by decide +kernel), Or.inr (Or.inr (ws_sel 22 (by decide +kernel) (by decide +kernel)))⟩⟩
set_option maxRecDepth 100000 in
theorem okX4_violations : okM sX4_violations := ⟨ws_of 960 rfl rfl, ws_of 1 (by decide +kernel) (by decide +kernel), by decide +kernel, ⟨by decide +kernel, by decide +kernel⟩, by decide +kernel, ⟨ws_of 958 (by decide +kernel) (by decide +kernel), Or.inr (Or.inr (ws_of 959 (by decide +kernel) (by decide +kernel)))⟩⟩
set_option maxRecDepth 100000 in
theorem okX4_checkPlace : okM sX4_checkPlace := ⟨ws_of 767 rfl rfl, ws_of 1 (by decide +kernel) (by decide +kernel), by decide +kernel, ⟨by decide +kernel, by decide +kernel⟩, by decide +kernel, ⟨ws_of 766 (by decide +kernel) (by decide +kernel), Or.inr (Or.inr (ws_sel 15 (by decide +kernel) (by decide +kernel)))⟩⟩
set_option maxRecDepth 100000 in
theorem okX4_checkTransition : okM sX4_checkTransition := ⟨ws_of 828 rfl rfl, ws_of 1 (by decide +kernel) (by decide +kernel), by decide +kernel, ⟨by decide +kernel, by decide +kernel⟩, by decide +kernel, ⟨ws_of 827 (by decide +kernel) (by decide +kernel), Or.inr (Or.inr (ws_sel 17 (by decide +kernel) (by decide +kernel)))⟩⟩
set_option maxRecDepth 100000 in
theorem okX4_checkArc : okM sX4_checkArc := ⟨ws_of 824 rfl rfl, ws_of 1 (by decide +kernel) (by decide +kernel), by decide +kernel, ⟨by decide +kernel, by decide +kernel⟩, by decide +kernel, ⟨ws_of 823 (by decide +kernel) (by decide +kernel), Or.inr (Or.inr (ws_sel 16 (by decide +kernel) (by decide +kernel)))⟩⟩
set_option maxRecDepth 100000 in
theorem okX4_checkMarking : okM sX4_checkMarking := ⟨ws_of 921 rfl rfl, ws_of 1 (by decide +kernel) (by decide +kernel), by decide +kernel, ⟨by decide +kernel, by decide +kernel⟩, by decide +kernel, ws_of 920 (by decide +kernel) (by decide +kernel)⟩
set_option maxRecDepth 100000 in
theorem okX4_checkRange : okM sX4_checkRange := ⟨ws_of 786 rfl rfl, ws_of 1 (by decide +kernel) (by decide +kernel), by decide +kernel, ⟨by decide +kernel, by decide +kernel⟩, by decide +kernel, ws_of 785 (by decide +kernel) (by decide +kernel)⟩
set_option maxRecDepth 100000 in
theorem okJ5_init_d00df : okM sJ5_init_d00df := ⟨ws_of 455 rfl rfl, ws_of 14 (by decide +kernel) (by decide +kernel), by decide +kernel, ⟨by decide +kernel, by decide +kernel⟩, by decide +kernel, ⟨ws_of 454 (by decide +kernel) (by decide +kernel), Or.inl rfl⟩⟩
set_option maxRecDepth 100000 in
theorem okJ5_init_a7421 : okM sJ5_init_a7421 := ⟨ws_of 252 rfl rfl, ws_of 14 (by decide +kernel) (by decide +kernel), by decide +kernel, ⟨by decide +kernel, by decide +kernel⟩, by decide +kernel, ⟨ws_of 251 (by decide +kernel) (by decide +kernel), Or.inl rfl⟩⟩
set_option maxRecDepth 100000 in
theorem okJ5_length_8abf5 : okM sJ5_length_8abf5 := ⟨ws_of 484 rfl rfl, ws_of 14 (by decide +kernel) (by decide +kernel), by decide +kernel, ⟨by decide +kernel, by decide +kernel⟩, by decide +kernel, ⟨ws_of 478 (by decide +kernel) (by decide +kernel), Or.inr (Or.inl (by decide +kernel))⟩⟩
set_option maxRecDepth 100000 in
theorem okJ5_ensureCapacityInternal_d00df : okM sJ5_ensureCapacityInternal_d00df := ⟨ws_of 294 rfl rfl, ws_of 14 (by decide +kernel) (by decide +kernel), by decide +kernel, ⟨by decide +kernel, by decide +kernel⟩, by decide +kernel, ⟨ws_of 293 (by decide +kernel) (by decide +kernel), Or.inr (Or.inr (ws_sb 0 (by decide +kernel) (by decide +kernel)))⟩⟩
set_option maxRecDepth 100000 in
theorem okJ5_newCapacity_0f7a4 : okM sJ5_newCapacity_0f7a4 := ⟨ws_of 298 rfl rfl, ws_of 14 (by decide +kernel) (by decide +kernel), by decide +kernel, ⟨by decide +kernel, by decide +kernel⟩, by decide +kernel, ⟨ws_of 297 (by decide +kernel) (by decide +kernel), Or.inr (Or.inr (ws_sb 1 (by decide +kernel) (by decide +kernel)))⟩⟩
set_option maxRecDepth 100000 in
theorem okJ5_charAt_5068e : okM sJ5_charAt_5068e := ⟨ws_of 601 rfl rfl, ws_of 14 (by decide +kernel) (by decide +kernel), by decide +kernel, ⟨by decide +kernel, by decide +kernel⟩, by decide +kernel, ⟨ws_of 600 (by decide +kernel) (by decide +kernel), Or.inr (Or.inl (by decide +kernel))⟩⟩
set_option maxRecDepth 100000 in
theorem okJ5_append_cf1ce : okM sJ5_append_cf1ce := ⟨ws_of 286 rfl rfl, ws_of 14 (by decide +kernel) (by decide +kernel), by decide +kernel, ⟨by decide +kernel, by decide +kernel⟩, by decide +kernel, ⟨ws_of 275 (by decide +kernel) (by decide +kernel), Or.inr (Or.inl (by decide +kernel))⟩⟩
set_option maxRecDepth 100000 in
theorem okJ5_append_3fe6f : okM sJ5_append_3fe6f := ⟨ws_of 433 rfl rfl, ws_of 14 (by decide +kernel) (by decide +kernel), by decide +kernel, ⟨by decide +kernel, by decide +kernel⟩, by decide +kernel, ⟨ws_of 432 (by decide +kernel) (by decide +kernel), Or.inr (Or.inl (by decide +kernel))⟩⟩
set_option maxRecDepth 100000 in
theorem okJ5_append_c97b9 : okM sJ5_append_c97b9 := ⟨ws_of 408 rfl rfl, ws_of 14 (by decide +kernel) (by decide +kernel), by decide +kernel, ⟨by decide +kernel, by decide +kernel⟩, by decide +kernel, ⟨ws_of 407 (by decide +kernel) (by decide +kernel), Or.inr (Or.inl (by decide +kernel))⟩⟩
set_option maxRecDepth 100000 in
theorem okJ5_getValue_6d5f1 : okM sJ5_getValue_6d5f1 := ⟨ws_of 476 rfl rfl, ws_of 14 (by decide +kernel) (by decide +kernel), by decide +kernel, ⟨by decide +kernel, by decide +kernel⟩, by decide +kernel, ⟨ws_of 473 (by decide +kernel) (by decide +kernel), Or.inr (Or.inr (ws_of 475 (by decide +kernel) (by decide +kernel)))⟩⟩
set_option maxRecDepth 100000 in
theorem okJ5_isLatin1_aae02 : okM sJ5_isLatin1_aae02 := ⟨ws_of 329 rfl rfl, ws_of 14 (by decide +kernel) (by decide +kernel), by decide +kernel, ⟨by decide +kernel, by decide +kernel⟩, by decide +kernel, ⟨ws_of 326 (by decide +kernel) (by decide +kernel), Or.inr (Or.inr (ws_of 328 (by decide +kernel) (by decide +kernel)))⟩⟩
set_option maxRecDepth 100000 in
theorem okJ5_inflateIfNeededFor_a7421 : okM sJ5_inflateIfNeededFor_a7421 := ⟨ws_of 364 rfl rfl, ws_of 14 (by decide +kernel) (by decide +kernel), by decide +kernel, ⟨by decide +kernel, by decide +kernel⟩, by decide +kernel, ⟨ws_of 363 (by decide +kernel) (by decide +kernel), Or.inr (Or.inr (ws_sb 3 (by decide +kernel) (by decide +kernel)))⟩⟩
set_option maxRecDepth 100000 in
theorem okJ5_putStringAt_47b60 : okM sJ5_putStringAt_47b60 := ⟨ws_of 360 rfl rfl, ws_of 14 (by decide +kernel) (by decide +kernel), by decide +kernel, ⟨by decide +kernel, by decide +kernel⟩, by decide +kernel, ⟨ws_of 359 (by decide +kernel) (by decide +kernel), Or.inr (Or.inr (ws_sb 2 (by decide +kernel) (by decide +kernel)))⟩⟩
set_option maxRecDepth 100000 in
theorem okJ6_getChars_ba4f3 : okM sJ6_getChars_ba4f3 := ⟨ws_of 414 rfl rfl, ws_of 23 (by decide +kernel) (by decide +kernel), by decide +kernel, ⟨by decide +kernel, by decide +kernel⟩, by decide +kernel, ws_of 413 (by decide +kernel) (by decide +kernel)⟩
set_option maxRecDepth 100000 in
theorem okJ6_stringSize_0f7a4 : okM sJ6_stringSize_0f7a4 := ⟨ws_of 411 rfl rfl, ws_of 23 (by decide +kernel) (by decide +kernel), by decide +kernel, ⟨by decide +kernel, by decide +kernel⟩, by decide +kernel, ws_of 410 (by decide +kernel) (by decide +kernel)⟩
set_option maxRecDepth 100000 in
theorem okJ6_bitCount_0f7a4 : okM sJ6_bitCount_0f7a4 := ⟨ws_of 950 rfl rfl, ws_of 23 (by decide +kernel) (by decide +kernel), by decide +kernel, ⟨by decide +kernel, by decide +kernel⟩, by decide +kernel, ws_of 949 (by decide +kernel) (by decide +kernel)⟩
set_option maxRecDepth 100000 in
theorem okJ9_floorMod_7cf53 : okM sJ9_floorMod_7cf53 := ⟨ws_of 243 rfl rfl, ws_of 12 (by decide +kernel) (by decide +kernel), by decide +kernel, ⟨by decide +kernel, by decide +kernel⟩, by decide +kernel, ws_of 242 (by decide +kernel) (by decide +kernel)⟩
set_option maxRecDepth 100000 in
theorem okJ0_init_81219 : okM sJ0_init_81219 := ⟨ws_of 467 rfl rfl, ws_of 16 (by decide +kernel) (by decide +kernel), by decide +kernel, ⟨by decide +kernel, by decide +kernel⟩, by decide +kernel, ⟨ws_of 466 (by decide +kernel) (by decide +kernel), Or.inl rfl⟩⟩
set_option maxRecDepth 100000 in
theorem okJ0_length_8abf5 : okM sJ0_length_8abf5 := ⟨ws_of 257 rfl rfl, ws_of 16 (by decide +kernel) (by decide +kernel), by decide +kernel, ⟨by decide +kernel, by decide +kernel⟩, by decide +kernel, ⟨ws_of 255 (by decide +kernel) (by decide +kernel), Or.inr (Or.inr (ws_of 256 (by decide +kernel) (by decide +kernel)))⟩⟩
set_option maxRecDepth 100000 in
theorem okJ0_charAt_5068e : okM sJ0_charAt_5068e := ⟨ws_of 644 rfl rfl, ws_of 16 (by decide +kernel) (by decide +kernel), by decide +kernel, ⟨by decide +kernel, by decide +kernel⟩, by decide +kernel, ⟨ws_of 642 (by decide +kernel) (by decide +kernel), Or.inr (Or.inr (ws_of 643 (by decide +kernel) (by decide +kernel)))⟩⟩
set_option maxRecDepth 100000 in
theorem okJ0_getBytes_840e7 : okM sJ0_getBytes_840e7 := ⟨ws_of 387 rfl rfl, ws_of 16 (by decide +kernel) (by decide +kernel), by decide +kernel, ⟨by decide +kernel, by decide +kernel⟩, by decide +kernel, ⟨ws_of 385 (by decide +kernel) (by decide +kernel), Or.inr (Or.inr (ws_of 386 (by decide +kernel) (by decide +kernel)))⟩⟩
set_option maxRecDepth 100000 in
theorem okJ0_init_db425 : okM sJ0_init_db425 := ⟨ws_of 470 rfl rfl, ws_of 16 (by decide +kernel) (by decide +kernel), by decide +kernel, ⟨by decide +kernel, by decide +kernel⟩, by decide +kernel, ⟨ws_of 469 (by decide +kernel) (by decide +kernel), Or.inl rfl⟩⟩
set_option maxRecDepth 100000 in
theorem okJ0_coder_7d493 : okM sJ0_coder_7d493 := ⟨ws_of 261 rfl rfl, ws_of 16 (by decide +kernel) (by decide +kernel), by decide +kernel, ⟨by decide +kernel, by decide +kernel⟩, by decide +kernel, ⟨ws_of 259 (by decide +kernel) (by decide +kernel), Or.inr (Or.inr (ws_of 260 (by decide +kernel) (by decide +kernel)))⟩⟩
set_option maxRecDepth 100000 in
theorem okJ0_isLatin1_aae02 : okM sJ0_isLatin1_aae02 := ⟨ws_of 648 rfl rfl, ws_of 16 (by decide +kernel) (by decide +kernel), by decide +kernel, ⟨by decide +kernel, by decide +kernel⟩, by decide +kernel, ⟨ws_of 646 (by decide +kernel) (by decide +kernel), Or.inr (Or.inr (ws_of 647 (by decide +kernel) (by decide +kernel)))⟩⟩
set_option maxRecDepth 100000 in
theorem okJ0_checkIndex_df160 : okM sJ0_checkIndex_df160 := ⟨ws_of 445 rfl rfl, ws_of 16 (by decide +kernel) (by decide +kernel), by decide +kernel, ⟨by decide +kernel, by decide +kernel⟩, by decide +kernel, ws_of 444 (by decide +kernel) (by decide +kernel)⟩
set_option maxRecDepth 100000 in
theorem okJ4_init_da8c8 : okM sJ4_init_da8c8 := ⟨ws_of 452 rfl rfl, ws_of 15 (by decide +kernel) (by decide +kernel), by decide +kernel, ⟨by decide +kernel, by decide +kernel⟩, by decide +kernel, ⟨ws_of 451 (by decide +kernel) (by decide +kernel), Or.inl rfl⟩⟩
set_option maxRecDepth 100000 in
theorem okJ4_init_a7421 : okM sJ4_init_a7421 := ⟨ws_of 249 rfl rfl, ws_of 15 (by decide +kernel) (by decide +kernel), by decide +kernel, ⟨by decide +kernel, by decide +kernel⟩, by decide +kernel, ⟨ws_of 248 (by decide +kernel) (by decide +kernel), Or.inl rfl⟩⟩
set_option maxRecDepth 100000 in
theorem okJ4_append_15ec4 : okM sJ4_append_15ec4 := ⟨ws_of 283 rfl rfl, ws_of 15 (by decide +kernel) (by decide +kernel), by decide +kernel, ⟨by decide +kernel, by decide +kernel⟩, by decide +kernel, ⟨ws_of 281 (by decide +kernel) (by decide +kernel), Or.inr (Or.inr (ws_of 282 (by decide +kernel) (by decide +kernel)))⟩⟩
set_option maxRecDepth 100000 in
theorem okJ4_append_cf468 : okM sJ4_append_cf468 := ⟨ws_of 430 rfl rfl, ws_of 15 (by decide +kernel) (by decide +kernel), by decide +kernel, ⟨by decide +kernel, by decide +kernel⟩, by decide +kernel, ⟨ws_of 428 (by decide +kernel) (by decide +kernel), Or.inr (Or.inr (ws_of 429 (by decide +kernel) (by decide +kernel)))⟩⟩
set_option maxRecDepth 100000 in
theorem okJ4_append_bf812 : okM sJ4_append_bf812 := ⟨ws_of 405 rfl rfl, ws_of 15 (by decide +kernel) (by decide +kernel), by decide +kernel, ⟨by decide +kernel, by decide +kernel⟩, by decide +kernel, ⟨ws_of 403 (by decide +kernel) (by decide +kernel), Or.inr (Or.inr (ws_of 404 (by decide +kernel) (by decide +kernel)))⟩⟩
set_option maxRecDepth 100000 in
theorem okJ4_toString_0e30d : okM sJ4_toString_0e30d := ⟨ws_of 462 rfl rfl, ws_of 15 (by decide +kernel) (by decide +kernel), by decide +kernel, ⟨by decide +kernel, by decide +kernel⟩, by decide +kernel, ⟨ws_of 460 (by decide +kernel) (by decide +kernel), Or.inr (Or.inr (ws_of 461 (by decide +kernel) (by decide +kernel)))⟩⟩
set_option maxRecDepth 100000 in
theorem okJ4_append_cf1ce : okM sJ4_append_cf1ce := ⟨ws_of 279 rfl rfl, ws_of 15 (by decide +kernel) (by decide +kernel), by decide +kernel, ⟨by decide +kernel, by decide +kernel⟩, by decide +kernel, ⟨ws_of 278 (by decide +kernel) (by decide +kernel), Or.inr (Or.inl (by decide +kernel))⟩⟩
set_option maxRecDepth 100000 in
theorem okJ4_charAt_5068e : okM sJ4_charAt_5068e := ⟨ws_of 598 rfl rfl, ws_of 15 (by decide +kernel) (by decide +kernel), by decide +kernel, ⟨by decide +kernel, by decide +kernel⟩, by decide +kernel, ⟨ws_of 596 (by decide +kernel) (by decide +kernel), Or.inr (Or.inr (ws_of 597 (by decide +kernel) (by decide +kernel)))⟩⟩
set_option maxRecDepth 100000 in
theorem okJ4_length_8abf5 : okM sJ4_length_8abf5 := ⟨ws_of 482 rfl rfl, ws_of 15 (by decide +kernel) (by decide +kernel), by decide +kernel, ⟨by decide +kernel, by decide +kernel⟩, by decide +kernel, ⟨ws_of 481 (by decide +kernel) (by decide +kernel), Or.inr (Or.inr (ws_of 1114 (by decide +kernel) (by decide +kernel)))⟩⟩
set_option maxRecDepth 100000 in
theorem okJ1_charAt_3b067 : okM sJ1_charAt_3b067 := ⟨ws_of 651 rfl rfl, ws_of 21 (by decide +kernel) (by decide +kernel), by decide +kernel, ⟨by decide +kernel, by decide +kernel⟩, by decide +kernel, ws_of 650 (by decide +kernel) (by decide +kernel)⟩
set_option maxRecDepth 100000 in
theorem okJ1_canEncode_fc78d : okM sJ1_canEncode_fc78d := ⟨ws_of 436 rfl rfl, ws_of 21 (by decide +kernel) (by decide +kernel), by decide +kernel, ⟨by decide +kernel, by decide +kernel⟩, by decide +kernel, ws_of 435 (by decide +kernel) (by decide +kernel)⟩
set_option maxRecDepth 100000 in
theorem okJ7_copyOf_9075b : okM sJ7_copyOf_9075b := ⟨ws_of 311 rfl rfl, ws_of 19 (by decide +kernel) (by decide +kernel), by decide +kernel, ⟨by decide +kernel, by decide +kernel⟩, by decide +kernel, ws_of 310 (by decide +kernel) (by decide +kernel)⟩
set_option maxRecDepth 100000 in
theorem okJ7_checkLength_df160 : okM sJ7_checkLength_df160 := ⟨ws_of 494 rfl rfl, ws_of 19 (by decide +kernel) (by decide +kernel), by decide +kernel, ⟨by decide +kernel, by decide +kernel⟩, by decide +kernel, ws_of 493 (by decide +kernel) (by decide +kernel)⟩
set_option maxRecDepth 100000 in
theorem okJ7_copyOfRange_39247 : okM sJ7_copyOfRange_39247 := ⟨ws_of 488 rfl rfl, ws_of 19 (by decide +kernel) (by decide +kernel), by decide +kernel, ⟨by decide +kernel, by decide +kernel⟩, by decide +kernel, ws_of 487 (by decide +kernel) (by decide +kernel)⟩
set_option maxRecDepth 100000 in
theorem okJ7_copyOfRangeByte_39247 : okM sJ7_copyOfRangeByte_39247 := ⟨ws_of 491 rfl rfl, ws_of 19 (by decide +kernel) (by decide +kernel), by decide +kernel, ⟨by decide +kernel, by decide +kernel⟩, by decide +kernel, ws_of 490 (by decide +kernel) (by decide +kernel)⟩
set_option maxRecDepth 100000 in
theorem okJ8_newLength_cabcc : okM sJ8_newLength_cabcc := ⟨ws_of 301 rfl rfl, ws_of 18 (by decide +kernel) (by decide +kernel), by decide +kernel, ⟨by decide +kernel, by decide +kernel⟩, by decide +kernel, ws_of 300 (by decide +kernel) (by decide +kernel)⟩
set_option maxRecDepth 100000 in
theorem okJ3_checkIndex_8e157 : okM sJ3_checkIndex_8e157 := ⟨ws_of 448 rfl rfl, ws_of 20 (by decide +kernel) (by decide +kernel), by decide +kernel, ⟨by decide +kernel, by decide +kernel⟩, by decide +kernel, ws_of 447 (by decide +kernel) (by decide +kernel)⟩
set_option maxRecDepth 100000 in
theorem okL_cell : okM sL_cell := ⟨ws_of 240 rfl rfl, ws_of 0 (by decide +kernel) (by decide +kernel), by decide +kernel, ⟨by decide +kernel, by decide +kernel⟩, by decide +kernel, ws_of 239 (by decide +kernel) (by decide +kernel)⟩
set_option maxRecDepth 100000 in
theorem okL_of : okM sL_of := ⟨ws_of 237 rfl rfl, ws_of 0 (by decide +kernel) (by decide +kernel), by decide +kernel, ⟨by decide +kernel, by decide +kernel⟩, by decide +kernel, ws_of 236 (by decide +kernel) (by decide +kernel)⟩
set_option maxRecDepth 100000 in
theorem okL_began : okM sL_began := ⟨ws_of 234 rfl rfl, ws_of 0 (by decide +kernel) (by decide +kernel), by decide +kernel, ⟨by decide +kernel, by decide +kernel⟩, by decide +kernel, ws_of 233 (by decide +kernel) (by decide +kernel)⟩
set_option maxRecDepth 100000 in
theorem okL_act : okM sL_act := ⟨ws_of 746 rfl rfl, ws_of 0 (by decide +kernel) (by decide +kernel), by decide +kernel, ⟨by decide +kernel, by decide +kernel⟩, by decide +kernel, ws_of 745 (by decide +kernel) (by decide +kernel)⟩
set_option maxRecDepth 100000 in
theorem okL_isSound : okM sL_isSound := ⟨ws_of 956 rfl rfl, ws_of 0 (by decide +kernel) (by decide +kernel), by decide +kernel, ⟨by decide +kernel, by decide +kernel⟩, by decide +kernel, ws_of 955 (by decide +kernel) (by decide +kernel)⟩
set_option maxRecDepth 100000 in
theorem okL_areEffects : okM sL_areEffects := ⟨ws_of 1049 rfl rfl, ws_of 0 (by decide +kernel) (by decide +kernel), by decide +kernel, ⟨by decide +kernel, by decide +kernel⟩, by decide +kernel, ws_of 1048 (by decide +kernel) (by decide +kernel)⟩
set_option maxRecDepth 100000 in
theorem okL_areMarkings : okM sL_areMarkings := ⟨ws_of 1079 rfl rfl, ws_of 0 (by decide +kernel) (by decide +kernel), by decide +kernel, ⟨by decide +kernel, by decide +kernel⟩, by decide +kernel, ws_of 1078 (by decide +kernel) (by decide +kernel)⟩
def eR : Nat → String := fun c => match c with
  | 0 => RX0
  | 1 => RX1
  | 2 => RX2
  | 3 => RX3
  | 4 => RX4
  | 5 => RJ4
  | _ => RJ0
def eT : Nat → u_T := fun c => match c with
  | 0 => TX0
  | 1 => TX1
  | 2 => TX2
  | 3 => TX3
  | 4 => TX4
  | 5 => TJ4
  | _ => TJ0
def eN : Nat → Nat := fun c => match c with
  | 0 => 9
  | 1 => 3
  | 2 => 8
  | 3 => 8
  | 4 => 11
  | 5 => 4
  | _ => 4
def eTy : Nat → Nat → FieldType := fun c => match c with
  | 0 => tyX0
  | 1 => tyX1
  | 2 => tyX2
  | 3 => tyX3
  | 4 => tyX4
  | 5 => tyJ4
  | _ => tyJ0
def fL0 : List (Nat × Nat × Nat) := [(9, 0, 0), (15, 0, 1), (19, 0, 2), (22, 0, 3), (25, 0, 4), (28, 0, 5), (34, 0, 6), (38, 0, 7), (42, 0, 8), (58, 2, 1), (94, 2, 0)]
def fL1 : List (Nat × Nat × Nat) := [(11, 1, 0), (18, 1, 1), (22, 1, 2)]
def fL2 : List (Nat × Nat × Nat) := [(9, 2, 0), (15, 2, 1), (18, 2, 2), (22, 2, 3), (25, 2, 4), (28, 2, 5), (31, 2, 6), (34, 2, 7)]
def fL3 : List (Nat × Nat × Nat) := [(9, 3, 0), (15, 3, 1), (22, 3, 2), (26, 3, 3), (29, 3, 4), (32, 3, 5), (35, 3, 6), (38, 3, 7), (81, 2, 4), (89, 2, 5), (95, 2, 6), (119, 2, 0), (122, 2, 3), (125, 2, 2), (133, 2, 1)]
def fL4 : List (Nat × Nat × Nat) := [(13, 4, 0), (20, 4, 1), (23, 4, 2), (26, 4, 3), (33, 4, 4), (40, 4, 5), (47, 4, 6), (51, 4, 7), (54, 4, 8), (58, 4, 9), (62, 4, 10), (70, 2, 3), (73, 2, 2), (76, 2, 4), (83, 2, 5), (86, 2, 6), (93, 3, 1), (106, 3, 3), (112, 3, 2), (143, 2, 7), (154, 0, 7), (160, 0, 0), (168, 0, 1), (185, 1, 2), (200, 2, 0), (203, 2, 1), (232, 0, 2)]
def fL5 : List (Nat × Nat × Nat) := []
def fL6 : List (Nat × Nat × Nat) := []
def fL7 : List (Nat × Nat × Nat) := []
def fL8 : List (Nat × Nat × Nat) := [(9, 6, 0), (15, 6, 1), (1048, 5, 2)]
def fL9 : List (Nat × Nat × Nat) := []
def fL10 : List (Nat × Nat × Nat) := []
def fL11 : List (Nat × Nat × Nat) := [(15, 5, 0), (22, 5, 1), (79, 5, 3)]
def fL12 : List (Nat × Nat × Nat) := []
def fL13 : List (Nat × Nat × Nat) := []
def fL14 : List (Nat × Nat × Nat) := []
def mL0 : List (Nat × MS) := [(33, sX2_init), (46, sX0_start), (50, sX2_packMarking), (54, sX0_visit), (61, sX0_isEnabledIn), (65, sX2_copyFrom), (68, sX2_packChange), (72, sX0_slotOf), (76, sX2_unpackMarking), (80, sX2_enabledSet), (86, sX2_unpackTokens), (90, sX0_tokensOf), (97, sX0_tokensIn)]
def mL1 : List (Nat × MS) := [(17, sX2_init), (25, sX2_copyFrom)]
def mL2 : List (Nat × MS) := [(47, sX2_reasonAt), (50, sX2_reasonAgainst), (54, sX2_allows), (58, sX2_change), (61, sX2_nextToFire), (65, sX2_fireOnce), (69, sX2_unpackTokens)]
def mL3 : List (Nat × MS) := [(21, sX2_init), (41, sX3_readToken), (44, sX3_readHeader), (48, sX3_readSemicolon), (51, sX3_readCommand), (55, sX3_isWord), (59, sX3_fail), (63, sX3_readNumber), (67, sX2_clear), (71, sX3_commandOfToken), (75, sX3_readTokens), (78, sX3_readCapacity), (85, sX3_readArcFromPlace), (92, sX3_readArcFromTransition), (98, sX3_readFire), (101, sX2_advance), (136, sX2_arc), (139, sX2_allows), (142, sX2_fireOnce), (146, sJ0_length_8abf5), (150, sJ0_charAt_5068e), (154, sX3_isLetter), (157, sX3_isDigit)]
def mL4 : List (Nat × MS) := [(9, sX4_firstNet), (19, sX2_init), (32, sX1_init), (39, sX3_init), (46, sX0_init), (66, sX2_clear), (79, sX2_arc), (89, sX2_fireOnce), (96, sX3_addFourBytes), (99, sX4_checkRange), (103, sX3_execute), (109, sX4_beginChange), (113, sX2_copyFrom), (117, sX2_sumOfTokens), (121, sX4_checkPlace), (131, sX4_checkArc), (134, sX4_checkTransition), (137, sX2_allows), (146, sX2_advance), (150, sX4_explored), (157, sX4_checkMarking), (164, sX2_unpackMarking), (171, sX2_swapInputsAndOutputs), (174, sX2_enabledSet), (177, sJ6_bitCount_0f7a4), (182, sX1_push), (186, sX1_popInto), (206, sX2_change), (213, sX2_reasonAgainst), (216, sX2_firstBlocker), (219, sX2_nextToFire), (229, sX0_tokensIn), (249, sX0_explore), (255, sX2_keepsWeightedTokens), (262, sX4_isSimpleInvariant), (275, sX2_placesOutOfRange), (278, sX0_keepsTokensOf)]
def mL5 : List (Nat × MS) := [(1, sJ5_init_d00df), (7, sJ5_init_a7421), (23, sJ4_append_15ec4), (137, sJ0_init_81219)]
def mL6 : List (Nat × MS) := [(7, sL_cell), (13, sJ9_floorMod_7cf53), (19, sX4_setTokens), (28, sX4_setCapacity), (33, sX4_setInput), (37, sX4_setOutput), (40, sX4_setInhibitor), (43, sX4_fire), (47, sX4_run), (50, sX4_moveToMarking), (55, sX4_tokens), (58, sX4_capacity), (70, sX4_effect), (79, sX4_whyNotEnabled), (82, sX4_blockingPlace), (85, sX4_firings), (88, sX4_firesInRow), (99, sX4_markingTokens), (102, sX4_markingDistance), (105, sX4_markingTransition), (120, sL_of), (128, sJ4_init_a7421), (131, sJ4_append_bf812), (135, sJ4_append_cf468), (139, sJ4_init_da8c8), (142, sJ4_append_15ec4), (147, sJ4_toString_0e30d), (155, sJ4_length_8abf5), (159, sJ4_charAt_5068e), (163, sX4_append), (166, sX4_runScript), (169, sX4_placeCount), (172, sX4_transitionCount), (192, sX4_markingCount), (200, sX4_reverseNet), (203, sX4_violations), (216, sX4_totalTokens), (219, sX4_enabledTransitions), (222, sX4_isDead), (226, sX4_nextOfRun), (231, sX4_undoCount), (236, sX4_undo), (250, sX4_init), (251, sL_isSound), (255, sL_areEffects), (258, sL_areMarkings), (261, sL_began), (265, sL_act)]
def mL7 : List (Nat × MS) := []
def mL8 : List (Nat × MS) := [(54, sJ7_copyOfRange_39247), (335, sJ0_coder_7d493), (489, sJ0_init_db425), (492, sJ0_isLatin1_aae02), (495, sJ1_charAt_3b067), (552, sJ5_getValue_6d5f1), (1047, sJ5_isLatin1_aae02), (1059, sJ3_checkIndex_8e157)]
def mL9 : List (Nat × MS) := [(9, sJ0_checkIndex_df160)]
def mL10 : List (Nat × MS) := []
def mL11 : List (Nat × MS) := [(32, sJ0_length_8abf5), (40, sJ0_coder_7d493), (83, sJ5_isLatin1_aae02), (100, sJ5_ensureCapacityInternal_d00df), (104, sJ5_newCapacity_0f7a4), (108, sJ7_copyOf_9075b), (114, sJ8_newLength_cabcc), (144, sJ0_checkIndex_df160), (191, sJ1_canEncode_fc78d), (208, sJ5_putStringAt_47b60), (245, sJ6_stringSize_0f7a4), (248, sJ6_getChars_ba4f3), (397, sJ5_inflateIfNeededFor_a7421), (399, sJ0_getBytes_840e7)]
def mL12 : List (Nat × MS) := [(47, sJ4_init_da8c8), (50, sJ4_append_15ec4), (54, sJ4_append_bf812), (61, sJ4_toString_0e30d), (339, sJ7_copyOfRangeByte_39247), (343, sJ7_checkLength_df160)]
def mL13 : List (Nat × MS) := []
def mL14 : List (Nat × MS) := []
def tfind {α : Type} : List (Nat × α) → Nat → Option α
  | [], _ => none
  | (i, v) :: r, k => if i = k then some v else tfind r k
theorem tfind_mem {α : Type} {l : List (Nat × α)} {k : Nat} {v : α} (h : tfind l k = some v) : (k, v) ∈ l := by
  induction l with
  | nil => cases h
  | cons x r ih =>
    obtain ⟨i, u⟩ := x
    unfold tfind at h
    by_cases e : i = k
    · rw [if_pos e] at h; cases h; rw [e]; exact List.mem_cons_self
    · rw [if_neg e] at h; exact List.mem_cons_of_mem _ (ih h)
def fLs : Nat → List (Nat × Nat × Nat) := fun o => match o with
  | 0 => fL0
  | 1 => fL1
  | 2 => fL2
  | 3 => fL3
  | 4 => fL4
  | 5 => fL5
  | 6 => fL6
  | 7 => fL7
  | 8 => fL8
  | 9 => fL9
  | 10 => fL10
  | 11 => fL11
  | 12 => fL12
  | 13 => fL13
  | _ => fL14
def mLs : Nat → List (Nat × MS) := fun o => match o with
  | 0 => mL0
  | 1 => mL1
  | 2 => mL2
  | 3 => mL3
  | 4 => mL4
  | 5 => mL5
  | 6 => mL6
  | 7 => mL7
  | 8 => mL8
  | 9 => mL9
  | 10 => mL10
  | 11 => mL11
  | 12 => mL12
  | 13 => mL13
  | _ => mL14
def fT (o k : Nat) : Option (Nat × Nat) := tfind (fLs o) k
def mT (o k : Nat) : Option MS := tfind (mLs o) k
def okF (o : Nat) (q : Nat × Nat × Nat) : Prop := q.2.1 < 7 ∧ q.2.2 < eN q.2.1 ∧ Cond.fieldLink (oR o) q.1 (eT q.2.1 q.2.2).1 (eT q.2.1 q.2.2).2.1 (eT q.2.1 q.2.2).2.2.1 ∈ WS
def okL (o : Nat) (q : Nat × MS) : Prop := okM q.2 ∧ Cond.methodLink (oR o) q.1 q.2.1 ∈ WS
theorem okF0_9 : okF 0 (9, 0, 0) := ⟨by decide, by decide, ws_of 165 (by decide +kernel) (by decide +kernel)⟩
theorem okF0_15 : okF 0 (15, 0, 1) := ⟨by decide, by decide, ws_of 167 (by decide +kernel) (by decide +kernel)⟩
theorem okF0_19 : okF 0 (19, 0, 2) := ⟨by decide, by decide, ws_of 169 (by decide +kernel) (by decide +kernel)⟩
theorem okF0_22 : okF 0 (22, 0, 3) := ⟨by decide, by decide, ws_of 171 (by decide +kernel) (by decide +kernel)⟩
theorem okF0_25 : okF 0 (25, 0, 4) := ⟨by decide, by decide, ws_of 172 (by decide +kernel) (by decide +kernel)⟩
theorem okF0_28 : okF 0 (28, 0, 5) := ⟨by decide, by decide, ws_of 173 (by decide +kernel) (by decide +kernel)⟩
theorem okF0_34 : okF 0 (34, 0, 6) := ⟨by decide, by decide, ws_of 174 (by decide +kernel) (by decide +kernel)⟩
theorem okF0_38 : okF 0 (38, 0, 7) := ⟨by decide, by decide, ws_of 175 (by decide +kernel) (by decide +kernel)⟩
theorem okF0_42 : okF 0 (42, 0, 8) := ⟨by decide, by decide, ws_of 177 (by decide +kernel) (by decide +kernel)⟩
theorem okF0_58 : okF 0 (58, 2, 1) := ⟨by decide, by decide, ws_of 47 (by decide +kernel) (by decide +kernel)⟩
theorem okF0_94 : okF 0 (94, 2, 0) := ⟨by decide, by decide, ws_of 44 (by decide +kernel) (by decide +kernel)⟩
theorem okFs0 : ∀ q ∈ fL0, okF 0 q := List.forall_mem_cons.mpr ⟨okF0_9, List.forall_mem_cons.mpr ⟨okF0_15, List.forall_mem_cons.mpr ⟨okF0_19, List.forall_mem_cons.mpr ⟨okF0_22, List.forall_mem_cons.mpr ⟨okF0_25, List.forall_mem_cons.mpr ⟨okF0_28, List.forall_mem_cons.mpr ⟨okF0_34, List.forall_mem_cons.mpr ⟨okF0_38, List.forall_mem_cons.mpr ⟨okF0_42, List.forall_mem_cons.mpr ⟨okF0_58, List.forall_mem_cons.mpr ⟨okF0_94, fun _ h => absurd h List.not_mem_nil⟩⟩⟩⟩⟩⟩⟩⟩⟩⟩⟩
theorem okL0_33 : okL 0 (33, sX2_init) := ⟨okX2_init, ws_of 164 (by decide +kernel) (by decide +kernel)⟩
theorem okL0_46 : okL 0 (46, sX0_start) := ⟨okX0_start, ws_of 873 (by decide +kernel) (by decide +kernel)⟩
theorem okL0_50 : okL 0 (50, sX2_packMarking) := ⟨okX2_packMarking, ws_of 882 (by decide +kernel) (by decide +kernel)⟩
theorem okL0_54 : okL 0 (54, sX0_visit) := ⟨okX0_visit, ws_of 886 (by decide +kernel) (by decide +kernel)⟩
theorem okL0_61 : okL 0 (61, sX0_isEnabledIn) := ⟨okX0_isEnabledIn, ws_of 906 (by decide +kernel) (by decide +kernel)⟩
theorem okL0_65 : okL 0 (65, sX2_copyFrom) := ⟨okX2_copyFrom, ws_of 877 (by decide +kernel) (by decide +kernel)⟩
theorem okL0_68 : okL 0 (68, sX2_packChange) := ⟨okX2_packChange, ws_of 878 (by decide +kernel) (by decide +kernel)⟩
theorem okL0_72 : okL 0 (72, sX0_slotOf) := ⟨okX0_slotOf, ws_of 890 (by decide +kernel) (by decide +kernel)⟩
theorem okL0_76 : okL 0 (76, sX2_unpackMarking) := ⟨okX2_unpackMarking, ws_of 895 (by decide +kernel) (by decide +kernel)⟩
theorem okL0_80 : okL 0 (80, sX2_enabledSet) := ⟨okX2_enabledSet, ws_of 902 (by decide +kernel) (by decide +kernel)⟩
theorem okL0_86 : okL 0 (86, sX2_unpackTokens) := ⟨okX2_unpackTokens, ws_of 985 (by decide +kernel) (by decide +kernel)⟩
theorem okL0_90 : okL 0 (90, sX0_tokensOf) := ⟨okX0_tokensOf, ws_of 977 (by decide +kernel) (by decide +kernel)⟩
theorem okL0_97 : okL 0 (97, sX0_tokensIn) := ⟨okX0_tokensIn, ws_of 981 (by decide +kernel) (by decide +kernel)⟩
theorem okLs0 : ∀ q ∈ mL0, okL 0 q := List.forall_mem_cons.mpr ⟨okL0_33, List.forall_mem_cons.mpr ⟨okL0_46, List.forall_mem_cons.mpr ⟨okL0_50, List.forall_mem_cons.mpr ⟨okL0_54, List.forall_mem_cons.mpr ⟨okL0_61, List.forall_mem_cons.mpr ⟨okL0_65, List.forall_mem_cons.mpr ⟨okL0_68, List.forall_mem_cons.mpr ⟨okL0_72, List.forall_mem_cons.mpr ⟨okL0_76, List.forall_mem_cons.mpr ⟨okL0_80, List.forall_mem_cons.mpr ⟨okL0_86, List.forall_mem_cons.mpr ⟨okL0_90, List.forall_mem_cons.mpr ⟨okL0_97, fun _ h => absurd h List.not_mem_nil⟩⟩⟩⟩⟩⟩⟩⟩⟩⟩⟩⟩⟩
theorem okF1_11 : okF 1 (11, 1, 0) := ⟨by decide, by decide, ws_of 109 (by decide +kernel) (by decide +kernel)⟩
theorem okF1_18 : okF 1 (18, 1, 1) := ⟨by decide, by decide, ws_of 110 (by decide +kernel) (by decide +kernel)⟩
theorem okF1_22 : okF 1 (22, 1, 2) := ⟨by decide, by decide, ws_of 111 (by decide +kernel) (by decide +kernel)⟩
theorem okFs1 : ∀ q ∈ fL1, okF 1 q := List.forall_mem_cons.mpr ⟨okF1_11, List.forall_mem_cons.mpr ⟨okF1_18, List.forall_mem_cons.mpr ⟨okF1_22, fun _ h => absurd h List.not_mem_nil⟩⟩⟩
theorem okL1_17 : okL 1 (17, sX2_init) := ⟨okX2_init, ws_of 108 (by decide +kernel) (by decide +kernel)⟩
theorem okL1_25 : okL 1 (25, sX2_copyFrom) := ⟨okX2_copyFrom, ws_of 733 (by decide +kernel) (by decide +kernel)⟩
theorem okLs1 : ∀ q ∈ mL1, okL 1 q := List.forall_mem_cons.mpr ⟨okL1_17, List.forall_mem_cons.mpr ⟨okL1_25, fun _ h => absurd h List.not_mem_nil⟩⟩
theorem okF2_9 : okF 2 (9, 2, 0) := ⟨by decide, by decide, ws_of 42 (by decide +kernel) (by decide +kernel)⟩
theorem okF2_15 : okF 2 (15, 2, 1) := ⟨by decide, by decide, ws_of 46 (by decide +kernel) (by decide +kernel)⟩
theorem okF2_18 : okF 2 (18, 2, 2) := ⟨by decide, by decide, ws_of 50 (by decide +kernel) (by decide +kernel)⟩
theorem okF2_22 : okF 2 (22, 2, 3) := ⟨by decide, by decide, ws_of 53 (by decide +kernel) (by decide +kernel)⟩
theorem okF2_25 : okF 2 (25, 2, 4) := ⟨by decide, by decide, ws_of 56 (by decide +kernel) (by decide +kernel)⟩
theorem okF2_28 : okF 2 (28, 2, 5) := ⟨by decide, by decide, ws_of 59 (by decide +kernel) (by decide +kernel)⟩
theorem okF2_31 : okF 2 (31, 2, 6) := ⟨by decide, by decide, ws_of 62 (by decide +kernel) (by decide +kernel)⟩
theorem okF2_34 : okF 2 (34, 2, 7) := ⟨by decide, by decide, ws_of 65 (by decide +kernel) (by decide +kernel)⟩
theorem okFs2 : ∀ q ∈ fL2, okF 2 q := List.forall_mem_cons.mpr ⟨okF2_9, List.forall_mem_cons.mpr ⟨okF2_15, List.forall_mem_cons.mpr ⟨okF2_18, List.forall_mem_cons.mpr ⟨okF2_22, List.forall_mem_cons.mpr ⟨okF2_25, List.forall_mem_cons.mpr ⟨okF2_28, List.forall_mem_cons.mpr ⟨okF2_31, List.forall_mem_cons.mpr ⟨okF2_34, fun _ h => absurd h List.not_mem_nil⟩⟩⟩⟩⟩⟩⟩⟩
theorem okL2_47 : okL 2 (47, sX2_reasonAt) := ⟨okX2_reasonAt, ws_of 710 (by decide +kernel) (by decide +kernel)⟩
theorem okL2_50 : okL 2 (50, sX2_reasonAgainst) := ⟨okX2_reasonAgainst, ws_of 1022 (by decide +kernel) (by decide +kernel)⟩
theorem okL2_54 : okL 2 (54, sX2_allows) := ⟨okX2_allows, ws_of 723 (by decide +kernel) (by decide +kernel)⟩
theorem okL2_58 : okL 2 (58, sX2_change) := ⟨okX2_change, ws_of 96 (by decide +kernel) (by decide +kernel)⟩
theorem okL2_61 : okL 2 (61, sX2_nextToFire) := ⟨okX2_nextToFire, ws_of 719 (by decide +kernel) (by decide +kernel)⟩
theorem okL2_65 : okL 2 (65, sX2_fireOnce) := ⟨okX2_fireOnce, ws_of 724 (by decide +kernel) (by decide +kernel)⟩
theorem okL2_69 : okL 2 (69, sX2_unpackTokens) := ⟨okX2_unpackTokens, ws_of 899 (by decide +kernel) (by decide +kernel)⟩
theorem okLs2 : ∀ q ∈ mL2, okL 2 q := List.forall_mem_cons.mpr ⟨okL2_47, List.forall_mem_cons.mpr ⟨okL2_50, List.forall_mem_cons.mpr ⟨okL2_54, List.forall_mem_cons.mpr ⟨okL2_58, List.forall_mem_cons.mpr ⟨okL2_61, List.forall_mem_cons.mpr ⟨okL2_65, List.forall_mem_cons.mpr ⟨okL2_69, fun _ h => absurd h List.not_mem_nil⟩⟩⟩⟩⟩⟩⟩
theorem okF3_9 : okF 3 (9, 3, 0) := ⟨by decide, by decide, ws_of 128 (by decide +kernel) (by decide +kernel)⟩
theorem okF3_15 : okF 3 (15, 3, 1) := ⟨by decide, by decide, ws_of 129 (by decide +kernel) (by decide +kernel)⟩
theorem okF3_22 : okF 3 (22, 3, 2) := ⟨by decide, by decide, ws_of 131 (by decide +kernel) (by decide +kernel)⟩
theorem okF3_26 : okF 3 (26, 3, 3) := ⟨by decide, by decide, ws_of 133 (by decide +kernel) (by decide +kernel)⟩
theorem okF3_29 : okF 3 (29, 3, 4) := ⟨by decide, by decide, ws_of 135 (by decide +kernel) (by decide +kernel)⟩
theorem okF3_32 : okF 3 (32, 3, 5) := ⟨by decide, by decide, ws_of 136 (by decide +kernel) (by decide +kernel)⟩
theorem okF3_35 : okF 3 (35, 3, 6) := ⟨by decide, by decide, ws_of 137 (by decide +kernel) (by decide +kernel)⟩
theorem okF3_38 : okF 3 (38, 3, 7) := ⟨by decide, by decide, ws_of 138 (by decide +kernel) (by decide +kernel)⟩
theorem okF3_81 : okF 3 (81, 2, 4) := ⟨by decide, by decide, ws_of 58 (by decide +kernel) (by decide +kernel)⟩
theorem okF3_89 : okF 3 (89, 2, 5) := ⟨by decide, by decide, ws_of 61 (by decide +kernel) (by decide +kernel)⟩
theorem okF3_95 : okF 3 (95, 2, 6) := ⟨by decide, by decide, ws_of 64 (by decide +kernel) (by decide +kernel)⟩
theorem okF3_119 : okF 3 (119, 2, 0) := ⟨by decide, by decide, ws_of 43 (by decide +kernel) (by decide +kernel)⟩
theorem okF3_122 : okF 3 (122, 2, 3) := ⟨by decide, by decide, ws_of 55 (by decide +kernel) (by decide +kernel)⟩
theorem okF3_125 : okF 3 (125, 2, 2) := ⟨by decide, by decide, ws_of 52 (by decide +kernel) (by decide +kernel)⟩
theorem okF3_133 : okF 3 (133, 2, 1) := ⟨by decide, by decide, ws_of 48 (by decide +kernel) (by decide +kernel)⟩
theorem okFs3 : ∀ q ∈ fL3, okF 3 q := List.forall_mem_cons.mpr ⟨okF3_9, List.forall_mem_cons.mpr ⟨okF3_15, List.forall_mem_cons.mpr ⟨okF3_22, List.forall_mem_cons.mpr ⟨okF3_26, List.forall_mem_cons.mpr ⟨okF3_29, List.forall_mem_cons.mpr ⟨okF3_32, List.forall_mem_cons.mpr ⟨okF3_35, List.forall_mem_cons.mpr ⟨okF3_38, List.forall_mem_cons.mpr ⟨okF3_81, List.forall_mem_cons.mpr ⟨okF3_89, List.forall_mem_cons.mpr ⟨okF3_95, List.forall_mem_cons.mpr ⟨okF3_119, List.forall_mem_cons.mpr ⟨okF3_122, List.forall_mem_cons.mpr ⟨okF3_125, List.forall_mem_cons.mpr ⟨okF3_133, fun _ h => absurd h List.not_mem_nil⟩⟩⟩⟩⟩⟩⟩⟩⟩⟩⟩⟩⟩⟩⟩
theorem okL3_21 : okL 3 (21, sX2_init) := ⟨okX2_init, ws_of 127 (by decide +kernel) (by decide +kernel)⟩
theorem okL3_41 : okL 3 (41, sX3_readToken) := ⟨okX3_readToken, ws_of 621 (by decide +kernel) (by decide +kernel)⟩
theorem okL3_44 : okL 3 (44, sX3_readHeader) := ⟨okX3_readHeader, ws_of 631 (by decide +kernel) (by decide +kernel)⟩
theorem okL3_48 : okL 3 (48, sX3_readSemicolon) := ⟨okX3_readSemicolon, ws_of 665 (by decide +kernel) (by decide +kernel)⟩
theorem okL3_51 : okL 3 (51, sX3_readCommand) := ⟨okX3_readCommand, ws_of 669 (by decide +kernel) (by decide +kernel)⟩
theorem okL3_55 : okL 3 (55, sX3_isWord) := ⟨okX3_isWord, ws_of 636 (by decide +kernel) (by decide +kernel)⟩
theorem okL3_59 : okL 3 (59, sX3_fail) := ⟨okX3_fail, ws_of 656 (by decide +kernel) (by decide +kernel)⟩
theorem okL3_63 : okL 3 (63, sX3_readNumber) := ⟨okX3_readNumber, ws_of 660 (by decide +kernel) (by decide +kernel)⟩
theorem okL3_67 : okL 3 (67, sX2_clear) := ⟨okX2_clear, ws_of 664 (by decide +kernel) (by decide +kernel)⟩
theorem okL3_71 : okL 3 (71, sX3_commandOfToken) := ⟨okX3_commandOfToken, ws_of 673 (by decide +kernel) (by decide +kernel)⟩
theorem okL3_75 : okL 3 (75, sX3_readTokens) := ⟨okX3_readTokens, ws_of 684 (by decide +kernel) (by decide +kernel)⟩
theorem okL3_78 : okL 3 (78, sX3_readCapacity) := ⟨okX3_readCapacity, ws_of 688 (by decide +kernel) (by decide +kernel)⟩
theorem okL3_85 : okL 3 (85, sX3_readArcFromPlace) := ⟨okX3_readArcFromPlace, ws_of 693 (by decide +kernel) (by decide +kernel)⟩
theorem okL3_92 : okL 3 (92, sX3_readArcFromTransition) := ⟨okX3_readArcFromTransition, ws_of 698 (by decide +kernel) (by decide +kernel)⟩
theorem okL3_98 : okL 3 (98, sX3_readFire) := ⟨okX3_readFire, ws_of 702 (by decide +kernel) (by decide +kernel)⟩
theorem okL3_101 : okL 3 (101, sX2_advance) := ⟨okX2_advance, ws_of 715 (by decide +kernel) (by decide +kernel)⟩
theorem okL3_136 : okL 3 (136, sX2_arc) := ⟨okX2_arc, ws_of 697 (by decide +kernel) (by decide +kernel)⟩
theorem okL3_139 : okL 3 (139, sX2_allows) := ⟨okX2_allows, ws_of 706 (by decide +kernel) (by decide +kernel)⟩
theorem okL3_142 : okL 3 (142, sX2_fireOnce) := ⟨okX2_fireOnce, ws_of 714 (by decide +kernel) (by decide +kernel)⟩
theorem okL3_146 : okL 3 (146, sJ0_length_8abf5) := ⟨okJ0_length_8abf5, ws_of 640 (by decide +kernel) (by decide +kernel)⟩
theorem okL3_150 : okL 3 (150, sJ0_charAt_5068e) := ⟨okJ0_charAt_5068e, ws_of 641 (by decide +kernel) (by decide +kernel)⟩
theorem okL3_154 : okL 3 (154, sX3_isLetter) := ⟨okX3_isLetter, ws_of 625 (by decide +kernel) (by decide +kernel)⟩
theorem okL3_157 : okL 3 (157, sX3_isDigit) := ⟨okX3_isDigit, ws_of 628 (by decide +kernel) (by decide +kernel)⟩
theorem okLs3 : ∀ q ∈ mL3, okL 3 q := List.forall_mem_cons.mpr ⟨okL3_21, List.forall_mem_cons.mpr ⟨okL3_41, List.forall_mem_cons.mpr ⟨okL3_44, List.forall_mem_cons.mpr ⟨okL3_48, List.forall_mem_cons.mpr ⟨okL3_51, List.forall_mem_cons.mpr ⟨okL3_55, List.forall_mem_cons.mpr ⟨okL3_59, List.forall_mem_cons.mpr ⟨okL3_63, List.forall_mem_cons.mpr ⟨okL3_67, List.forall_mem_cons.mpr ⟨okL3_71, List.forall_mem_cons.mpr ⟨okL3_75, List.forall_mem_cons.mpr ⟨okL3_78, List.forall_mem_cons.mpr ⟨okL3_85, List.forall_mem_cons.mpr ⟨okL3_92, List.forall_mem_cons.mpr ⟨okL3_98, List.forall_mem_cons.mpr ⟨okL3_101, List.forall_mem_cons.mpr ⟨okL3_136, List.forall_mem_cons.mpr ⟨okL3_139, List.forall_mem_cons.mpr ⟨okL3_142, List.forall_mem_cons.mpr ⟨okL3_146, List.forall_mem_cons.mpr ⟨okL3_150, List.forall_mem_cons.mpr ⟨okL3_154, List.forall_mem_cons.mpr ⟨okL3_157, fun _ h => absurd h List.not_mem_nil⟩⟩⟩⟩⟩⟩⟩⟩⟩⟩⟩⟩⟩⟩⟩⟩⟩⟩⟩⟩⟩⟩⟩
theorem okF4_13 : okF 4 (13, 4, 0) := ⟨by decide, by decide, ws_of 198 (by decide +kernel) (by decide +kernel)⟩
theorem okF4_20 : okF 4 (20, 4, 1) := ⟨by decide, by decide, ws_of 199 (by decide +kernel) (by decide +kernel)⟩
theorem okF4_23 : okF 4 (23, 4, 2) := ⟨by decide, by decide, ws_of 200 (by decide +kernel) (by decide +kernel)⟩
theorem okF4_26 : okF 4 (26, 4, 3) := ⟨by decide, by decide, ws_of 201 (by decide +kernel) (by decide +kernel)⟩
theorem okF4_33 : okF 4 (33, 4, 4) := ⟨by decide, by decide, ws_of 202 (by decide +kernel) (by decide +kernel)⟩
theorem okF4_40 : okF 4 (40, 4, 5) := ⟨by decide, by decide, ws_of 203 (by decide +kernel) (by decide +kernel)⟩
theorem okF4_47 : okF 4 (47, 4, 6) := ⟨by decide, by decide, ws_of 204 (by decide +kernel) (by decide +kernel)⟩
theorem okF4_51 : okF 4 (51, 4, 7) := ⟨by decide, by decide, ws_of 205 (by decide +kernel) (by decide +kernel)⟩
theorem okF4_54 : okF 4 (54, 4, 8) := ⟨by decide, by decide, ws_of 206 (by decide +kernel) (by decide +kernel)⟩
theorem okF4_58 : okF 4 (58, 4, 9) := ⟨by decide, by decide, ws_of 207 (by decide +kernel) (by decide +kernel)⟩
theorem okF4_62 : okF 4 (62, 4, 10) := ⟨by decide, by decide, ws_of 208 (by decide +kernel) (by decide +kernel)⟩
theorem okF4_70 : okF 4 (70, 2, 3) := ⟨by decide, by decide, ws_of 54 (by decide +kernel) (by decide +kernel)⟩
theorem okF4_73 : okF 4 (73, 2, 2) := ⟨by decide, by decide, ws_of 51 (by decide +kernel) (by decide +kernel)⟩
theorem okF4_76 : okF 4 (76, 2, 4) := ⟨by decide, by decide, ws_of 57 (by decide +kernel) (by decide +kernel)⟩
theorem okF4_83 : okF 4 (83, 2, 5) := ⟨by decide, by decide, ws_of 60 (by decide +kernel) (by decide +kernel)⟩
theorem okF4_86 : okF 4 (86, 2, 6) := ⟨by decide, by decide, ws_of 63 (by decide +kernel) (by decide +kernel)⟩
theorem okF4_93 : okF 4 (93, 3, 1) := ⟨by decide, by decide, ws_of 130 (by decide +kernel) (by decide +kernel)⟩
theorem okF4_106 : okF 4 (106, 3, 3) := ⟨by decide, by decide, ws_of 134 (by decide +kernel) (by decide +kernel)⟩
theorem okF4_112 : okF 4 (112, 3, 2) := ⟨by decide, by decide, ws_of 132 (by decide +kernel) (by decide +kernel)⟩
theorem okF4_143 : okF 4 (143, 2, 7) := ⟨by decide, by decide, ws_of 66 (by decide +kernel) (by decide +kernel)⟩
theorem okF4_154 : okF 4 (154, 0, 7) := ⟨by decide, by decide, ws_of 176 (by decide +kernel) (by decide +kernel)⟩
theorem okF4_160 : okF 4 (160, 0, 0) := ⟨by decide, by decide, ws_of 166 (by decide +kernel) (by decide +kernel)⟩
theorem okF4_168 : okF 4 (168, 0, 1) := ⟨by decide, by decide, ws_of 168 (by decide +kernel) (by decide +kernel)⟩
theorem okF4_185 : okF 4 (185, 1, 2) := ⟨by decide, by decide, ws_of 112 (by decide +kernel) (by decide +kernel)⟩
theorem okF4_200 : okF 4 (200, 2, 0) := ⟨by decide, by decide, ws_of 45 (by decide +kernel) (by decide +kernel)⟩
theorem okF4_203 : okF 4 (203, 2, 1) := ⟨by decide, by decide, ws_of 49 (by decide +kernel) (by decide +kernel)⟩
theorem okF4_232 : okF 4 (232, 0, 2) := ⟨by decide, by decide, ws_of 170 (by decide +kernel) (by decide +kernel)⟩
theorem okFs4 : ∀ q ∈ fL4, okF 4 q := List.forall_mem_cons.mpr ⟨okF4_13, List.forall_mem_cons.mpr ⟨okF4_20, List.forall_mem_cons.mpr ⟨okF4_23, List.forall_mem_cons.mpr ⟨okF4_26, List.forall_mem_cons.mpr ⟨okF4_33, List.forall_mem_cons.mpr ⟨okF4_40, List.forall_mem_cons.mpr ⟨okF4_47, List.forall_mem_cons.mpr ⟨okF4_51, List.forall_mem_cons.mpr ⟨okF4_54, List.forall_mem_cons.mpr ⟨okF4_58, List.forall_mem_cons.mpr ⟨okF4_62, List.forall_mem_cons.mpr ⟨okF4_70, List.forall_mem_cons.mpr ⟨okF4_73, List.forall_mem_cons.mpr ⟨okF4_76, List.forall_mem_cons.mpr ⟨okF4_83, List.forall_mem_cons.mpr ⟨okF4_86, List.forall_mem_cons.mpr ⟨okF4_93, List.forall_mem_cons.mpr ⟨okF4_106, List.forall_mem_cons.mpr ⟨okF4_112, List.forall_mem_cons.mpr ⟨okF4_143, List.forall_mem_cons.mpr ⟨okF4_154, List.forall_mem_cons.mpr ⟨okF4_160, List.forall_mem_cons.mpr ⟨okF4_168, List.forall_mem_cons.mpr ⟨okF4_185, List.forall_mem_cons.mpr ⟨okF4_200, List.forall_mem_cons.mpr ⟨okF4_203, List.forall_mem_cons.mpr ⟨okF4_232, fun _ h => absurd h List.not_mem_nil⟩⟩⟩⟩⟩⟩⟩⟩⟩⟩⟩⟩⟩⟩⟩⟩⟩⟩⟩⟩⟩⟩⟩⟩⟩⟩⟩
theorem okL4_9 : okL 4 (9, sX4_firstNet) := ⟨okX4_firstNet, ws_of 33 (by decide +kernel) (by decide +kernel)⟩
theorem okL4_19 : okL 4 (19, sX2_init) := ⟨okX2_init, ws_of 38 (by decide +kernel) (by decide +kernel)⟩
theorem okL4_32 : okL 4 (32, sX1_init) := ⟨okX1_init, ws_of 102 (by decide +kernel) (by decide +kernel)⟩
theorem okL4_39 : okL 4 (39, sX3_init) := ⟨okX3_init, ws_of 122 (by decide +kernel) (by decide +kernel)⟩
theorem okL4_46 : okL 4 (46, sX0_init) := ⟨okX0_init, ws_of 159 (by decide +kernel) (by decide +kernel)⟩
theorem okL4_66 : okL 4 (66, sX2_clear) := ⟨okX2_clear, ws_of 85 (by decide +kernel) (by decide +kernel)⟩
theorem okL4_79 : okL 4 (79, sX2_arc) := ⟨okX2_arc, ws_of 89 (by decide +kernel) (by decide +kernel)⟩
theorem okL4_89 : okL 4 (89, sX2_fireOnce) := ⟨okX2_fireOnce, ws_of 92 (by decide +kernel) (by decide +kernel)⟩
theorem okL4_96 : okL 4 (96, sX3_addFourBytes) := ⟨okX3_addFourBytes, ws_of 609 (by decide +kernel) (by decide +kernel)⟩
theorem okL4_99 : okL 4 (99, sX4_checkRange) := ⟨okX4_checkRange, ws_of 784 (by decide +kernel) (by decide +kernel)⟩
theorem okL4_103 : okL 4 (103, sX3_execute) := ⟨okX3_execute, ws_of 617 (by decide +kernel) (by decide +kernel)⟩
theorem okL4_109 : okL 4 (109, sX4_beginChange) := ⟨okX4_beginChange, ws_of 725 (by decide +kernel) (by decide +kernel)⟩
theorem okL4_113 : okL 4 (113, sX2_copyFrom) := ⟨okX2_copyFrom, ws_of 739 (by decide +kernel) (by decide +kernel)⟩
theorem okL4_117 : okL 4 (117, sX2_sumOfTokens) := ⟨okX2_sumOfTokens, ws_of 740 (by decide +kernel) (by decide +kernel)⟩
theorem okL4_121 : okL 4 (121, sX4_checkPlace) := ⟨okX4_checkPlace, ws_of 764 (by decide +kernel) (by decide +kernel)⟩
theorem okL4_131 : okL 4 (131, sX4_checkArc) := ⟨okX4_checkArc, ws_of 821 (by decide +kernel) (by decide +kernel)⟩
theorem okL4_134 : okL 4 (134, sX4_checkTransition) := ⟨okX4_checkTransition, ws_of 825 (by decide +kernel) (by decide +kernel)⟩
theorem okL4_137 : okL 4 (137, sX2_allows) := ⟨okX2_allows, ws_of 851 (by decide +kernel) (by decide +kernel)⟩
theorem okL4_146 : okL 4 (146, sX2_advance) := ⟨okX2_advance, ws_of 860 (by decide +kernel) (by decide +kernel)⟩
theorem okL4_150 : okL 4 (150, sX4_explored) := ⟨okX4_explored, ws_of 865 (by decide +kernel) (by decide +kernel)⟩
theorem okL4_157 : okL 4 (157, sX4_checkMarking) := ⟨okX4_checkMarking, ws_of 919 (by decide +kernel) (by decide +kernel)⟩
theorem okL4_164 : okL 4 (164, sX2_unpackMarking) := ⟨okX2_unpackMarking, ws_of 938 (by decide +kernel) (by decide +kernel)⟩
theorem okL4_171 : okL 4 (171, sX2_swapInputsAndOutputs) := ⟨okX2_swapInputsAndOutputs, ws_of 943 (by decide +kernel) (by decide +kernel)⟩
theorem okL4_174 : okL 4 (174, sX2_enabledSet) := ⟨okX2_enabledSet, ws_of 947 (by decide +kernel) (by decide +kernel)⟩
theorem okL4_177 : okL 4 (177, sJ6_bitCount_0f7a4) := ⟨okJ6_bitCount_0f7a4, ws_of 948 (by decide +kernel) (by decide +kernel)⟩
theorem okL4_182 : okL 4 (182, sX1_push) := ⟨okX1_push, ws_of 729 (by decide +kernel) (by decide +kernel)⟩
theorem okL4_186 : okL 4 (186, sX1_popInto) := ⟨okX1_popInto, ws_of 1073 (by decide +kernel) (by decide +kernel)⟩
theorem okL4_206 : okL 4 (206, sX2_change) := ⟨okX2_change, ws_of 1068 (by decide +kernel) (by decide +kernel)⟩
theorem okL4_213 : okL 4 (213, sX2_reasonAgainst) := ⟨okX2_reasonAgainst, ws_of 1007 (by decide +kernel) (by decide +kernel)⟩
theorem okL4_216 : okL 4 (216, sX2_firstBlocker) := ⟨okX2_firstBlocker, ws_of 1018 (by decide +kernel) (by decide +kernel)⟩
theorem okL4_219 : okL 4 (219, sX2_nextToFire) := ⟨okX2_nextToFire, ws_of 1046 (by decide +kernel) (by decide +kernel)⟩
theorem okL4_229 : okL 4 (229, sX0_tokensIn) := ⟨okX0_tokensIn, ws_of 1090 (by decide +kernel) (by decide +kernel)⟩
theorem okL4_249 : okL 4 (249, sX0_explore) := ⟨okX0_explore, ws_of 869 (by decide +kernel) (by decide +kernel)⟩
theorem okL4_255 : okL 4 (255, sX2_keepsWeightedTokens) := ⟨okX2_keepsWeightedTokens, ws_of 969 (by decide +kernel) (by decide +kernel)⟩
theorem okL4_262 : okL 4 (262, sX4_isSimpleInvariant) := ⟨okX4_isSimpleInvariant, ws_of 965 (by decide +kernel) (by decide +kernel)⟩
theorem okL4_275 : okL 4 (275, sX2_placesOutOfRange) := ⟨okX2_placesOutOfRange, ws_of 961 (by decide +kernel) (by decide +kernel)⟩
theorem okL4_278 : okL 4 (278, sX0_keepsTokensOf) := ⟨okX0_keepsTokensOf, ws_of 973 (by decide +kernel) (by decide +kernel)⟩
theorem okLs4 : ∀ q ∈ mL4, okL 4 q := List.forall_mem_cons.mpr ⟨okL4_9, List.forall_mem_cons.mpr ⟨okL4_19, List.forall_mem_cons.mpr ⟨okL4_32, List.forall_mem_cons.mpr ⟨okL4_39, List.forall_mem_cons.mpr ⟨okL4_46, List.forall_mem_cons.mpr ⟨okL4_66, List.forall_mem_cons.mpr ⟨okL4_79, List.forall_mem_cons.mpr ⟨okL4_89, List.forall_mem_cons.mpr ⟨okL4_96, List.forall_mem_cons.mpr ⟨okL4_99, List.forall_mem_cons.mpr ⟨okL4_103, List.forall_mem_cons.mpr ⟨okL4_109, List.forall_mem_cons.mpr ⟨okL4_113, List.forall_mem_cons.mpr ⟨okL4_117, List.forall_mem_cons.mpr ⟨okL4_121, List.forall_mem_cons.mpr ⟨okL4_131, List.forall_mem_cons.mpr ⟨okL4_134, List.forall_mem_cons.mpr ⟨okL4_137, List.forall_mem_cons.mpr ⟨okL4_146, List.forall_mem_cons.mpr ⟨okL4_150, List.forall_mem_cons.mpr ⟨okL4_157, List.forall_mem_cons.mpr ⟨okL4_164, List.forall_mem_cons.mpr ⟨okL4_171, List.forall_mem_cons.mpr ⟨okL4_174, List.forall_mem_cons.mpr ⟨okL4_177, List.forall_mem_cons.mpr ⟨okL4_182, List.forall_mem_cons.mpr ⟨okL4_186, List.forall_mem_cons.mpr ⟨okL4_206, List.forall_mem_cons.mpr ⟨okL4_213, List.forall_mem_cons.mpr ⟨okL4_216, List.forall_mem_cons.mpr ⟨okL4_219, List.forall_mem_cons.mpr ⟨okL4_229, List.forall_mem_cons.mpr ⟨okL4_249, List.forall_mem_cons.mpr ⟨okL4_255, List.forall_mem_cons.mpr ⟨okL4_262, List.forall_mem_cons.mpr ⟨okL4_275, List.forall_mem_cons.mpr ⟨okL4_278, fun _ h => absurd h List.not_mem_nil⟩⟩⟩⟩⟩⟩⟩⟩⟩⟩⟩⟩⟩⟩⟩⟩⟩⟩⟩⟩⟩⟩⟩⟩⟩⟩⟩⟩⟩⟩⟩⟩⟩⟩⟩⟩⟩
theorem okFs5 : ∀ q ∈ fL5, okF 5 q := fun _ h => absurd h List.not_mem_nil
theorem okL5_1 : okL 5 (1, sJ5_init_d00df) := ⟨okJ5_init_d00df, ws_of 453 (by decide +kernel) (by decide +kernel)⟩
theorem okL5_7 : okL 5 (7, sJ5_init_a7421) := ⟨okJ5_init_a7421, ws_of 250 (by decide +kernel) (by decide +kernel)⟩
theorem okL5_23 : okL 5 (23, sJ4_append_15ec4) := ⟨okJ4_append_15ec4, ws_of 280 (by decide +kernel) (by decide +kernel)⟩
theorem okL5_137 : okL 5 (137, sJ0_init_81219) := ⟨okJ0_init_81219, ws_of 465 (by decide +kernel) (by decide +kernel)⟩
theorem okLs5 : ∀ q ∈ mL5, okL 5 q := List.forall_mem_cons.mpr ⟨okL5_1, List.forall_mem_cons.mpr ⟨okL5_7, List.forall_mem_cons.mpr ⟨okL5_23, List.forall_mem_cons.mpr ⟨okL5_137, fun _ h => absurd h List.not_mem_nil⟩⟩⟩⟩
theorem okFs6 : ∀ q ∈ fL6, okF 6 q := fun _ h => absurd h List.not_mem_nil
theorem okL6_7 : okL 6 (7, sL_cell) := ⟨okL_cell, ws_of 238 (by decide +kernel) (by decide +kernel)⟩
theorem okL6_13 : okL 6 (13, sJ9_floorMod_7cf53) := ⟨okJ9_floorMod_7cf53, ws_of 241 (by decide +kernel) (by decide +kernel)⟩
theorem okL6_19 : okL 6 (19, sX4_setTokens) := ⟨okX4_setTokens, ws_of 760 (by decide +kernel) (by decide +kernel)⟩
theorem okL6_28 : okL 6 (28, sX4_setCapacity) := ⟨okX4_setCapacity, ws_of 794 (by decide +kernel) (by decide +kernel)⟩
theorem okL6_33 : okL 6 (33, sX4_setInput) := ⟨okX4_setInput, ws_of 817 (by decide +kernel) (by decide +kernel)⟩
theorem okL6_37 : okL 6 (37, sX4_setOutput) := ⟨okX4_setOutput, ws_of 833 (by decide +kernel) (by decide +kernel)⟩
theorem okL6_40 : okL 6 (40, sX4_setInhibitor) := ⟨okX4_setInhibitor, ws_of 840 (by decide +kernel) (by decide +kernel)⟩
theorem okL6_43 : okL 6 (43, sX4_fire) := ⟨okX4_fire, ws_of 847 (by decide +kernel) (by decide +kernel)⟩
theorem okL6_47 : okL 6 (47, sX4_run) := ⟨okX4_run, ws_of 856 (by decide +kernel) (by decide +kernel)⟩
theorem okL6_50 : okL 6 (50, sX4_moveToMarking) := ⟨okX4_moveToMarking, ws_of 915 (by decide +kernel) (by decide +kernel)⟩
theorem okL6_55 : okL 6 (55, sX4_tokens) := ⟨okX4_tokens, ws_of 989 (by decide +kernel) (by decide +kernel)⟩
theorem okL6_58 : okL 6 (58, sX4_capacity) := ⟨okX4_capacity, ws_of 996 (by decide +kernel) (by decide +kernel)⟩
theorem okL6_70 : okL 6 (70, sX4_effect) := ⟨okX4_effect, ws_of 1064 (by decide +kernel) (by decide +kernel)⟩
theorem okL6_79 : okL 6 (79, sX4_whyNotEnabled) := ⟨okX4_whyNotEnabled, ws_of 1003 (by decide +kernel) (by decide +kernel)⟩
theorem okL6_82 : okL 6 (82, sX4_blockingPlace) := ⟨okX4_blockingPlace, ws_of 1014 (by decide +kernel) (by decide +kernel)⟩
theorem okL6_85 : okL 6 (85, sX4_firings) := ⟨okX4_firings, ws_of 1053 (by decide +kernel) (by decide +kernel)⟩
theorem okL6_88 : okL 6 (88, sX4_firesInRow) := ⟨okX4_firesInRow, ws_of 1026 (by decide +kernel) (by decide +kernel)⟩
theorem okL6_99 : okL 6 (99, sX4_markingTokens) := ⟨okX4_markingTokens, ws_of 1086 (by decide +kernel) (by decide +kernel)⟩
theorem okL6_102 : okL 6 (102, sX4_markingDistance) := ⟨okX4_markingDistance, ws_of 1094 (by decide +kernel) (by decide +kernel)⟩
theorem okL6_105 : okL 6 (105, sX4_markingTransition) := ⟨okX4_markingTransition, ws_of 1101 (by decide +kernel) (by decide +kernel)⟩
theorem okL6_120 : okL 6 (120, sL_of) := ⟨okL_of, ws_of 235 (by decide +kernel) (by decide +kernel)⟩
theorem okL6_128 : okL 6 (128, sJ4_init_a7421) := ⟨okJ4_init_a7421, ws_of 247 (by decide +kernel) (by decide +kernel)⟩
theorem okL6_131 : okL 6 (131, sJ4_append_bf812) := ⟨okJ4_append_bf812, ws_of 402 (by decide +kernel) (by decide +kernel)⟩
theorem okL6_135 : okL 6 (135, sJ4_append_cf468) := ⟨okJ4_append_cf468, ws_of 427 (by decide +kernel) (by decide +kernel)⟩
theorem okL6_139 : okL 6 (139, sJ4_init_da8c8) := ⟨okJ4_init_da8c8, ws_of 450 (by decide +kernel) (by decide +kernel)⟩
theorem okL6_142 : okL 6 (142, sJ4_append_15ec4) := ⟨okJ4_append_15ec4, ws_of 457 (by decide +kernel) (by decide +kernel)⟩
theorem okL6_147 : okL 6 (147, sJ4_toString_0e30d) := ⟨okJ4_toString_0e30d, ws_of 459 (by decide +kernel) (by decide +kernel)⟩
theorem okL6_155 : okL 6 (155, sJ4_length_8abf5) := ⟨okJ4_length_8abf5, ws_of 594 (by decide +kernel) (by decide +kernel)⟩
theorem okL6_159 : okL 6 (159, sJ4_charAt_5068e) := ⟨okJ4_charAt_5068e, ws_of 595 (by decide +kernel) (by decide +kernel)⟩
theorem okL6_163 : okL 6 (163, sX4_append) := ⟨okX4_append, ws_of 605 (by decide +kernel) (by decide +kernel)⟩
theorem okL6_166 : okL 6 (166, sX4_runScript) := ⟨okX4_runScript, ws_of 613 (by decide +kernel) (by decide +kernel)⟩
theorem okL6_169 : okL 6 (169, sX4_placeCount) := ⟨okX4_placeCount, ws_of 747 (by decide +kernel) (by decide +kernel)⟩
theorem okL6_172 : okL 6 (172, sX4_transitionCount) := ⟨okX4_transitionCount, ws_of 751 (by decide +kernel) (by decide +kernel)⟩
theorem okL6_192 : okL 6 (192, sX4_markingCount) := ⟨okX4_markingCount, ws_of 861 (by decide +kernel) (by decide +kernel)⟩
theorem okL6_200 : okL 6 (200, sX4_reverseNet) := ⟨okX4_reverseNet, ws_of 939 (by decide +kernel) (by decide +kernel)⟩
theorem okL6_203 : okL 6 (203, sX4_violations) := ⟨okX4_violations, ws_of 957 (by decide +kernel) (by decide +kernel)⟩
theorem okL6_216 : okL 6 (216, sX4_totalTokens) := ⟨okX4_totalTokens, ws_of 1030 (by decide +kernel) (by decide +kernel)⟩
theorem okL6_219 : okL 6 (219, sX4_enabledTransitions) := ⟨okX4_enabledTransitions, ws_of 1034 (by decide +kernel) (by decide +kernel)⟩
theorem okL6_222 : okL 6 (222, sX4_isDead) := ⟨okX4_isDead, ws_of 1038 (by decide +kernel) (by decide +kernel)⟩
theorem okL6_226 : okL 6 (226, sX4_nextOfRun) := ⟨okX4_nextOfRun, ws_of 1042 (by decide +kernel) (by decide +kernel)⟩
theorem okL6_231 : okL 6 (231, sX4_undoCount) := ⟨okX4_undoCount, ws_of 1057 (by decide +kernel) (by decide +kernel)⟩
theorem okL6_236 : okL 6 (236, sX4_undo) := ⟨okX4_undo, ws_of 1069 (by decide +kernel) (by decide +kernel)⟩
theorem okL6_250 : okL 6 (250, sX4_init) := ⟨okX4_init, ws_of 27 (by decide +kernel) (by decide +kernel)⟩
theorem okL6_251 : okL 6 (251, sL_isSound) := ⟨okL_isSound, ws_of 954 (by decide +kernel) (by decide +kernel)⟩
theorem okL6_255 : okL 6 (255, sL_areEffects) := ⟨okL_areEffects, ws_of 1047 (by decide +kernel) (by decide +kernel)⟩
theorem okL6_258 : okL 6 (258, sL_areMarkings) := ⟨okL_areMarkings, ws_of 1077 (by decide +kernel) (by decide +kernel)⟩
theorem okL6_261 : okL 6 (261, sL_began) := ⟨okL_began, ws_of 232 (by decide +kernel) (by decide +kernel)⟩
theorem okL6_265 : okL 6 (265, sL_act) := ⟨okL_act, ws_of 744 (by decide +kernel) (by decide +kernel)⟩
theorem okLs6 : ∀ q ∈ mL6, okL 6 q := List.forall_mem_cons.mpr ⟨okL6_7, List.forall_mem_cons.mpr ⟨okL6_13, List.forall_mem_cons.mpr ⟨okL6_19, List.forall_mem_cons.mpr ⟨okL6_28, List.forall_mem_cons.mpr ⟨okL6_33, List.forall_mem_cons.mpr ⟨okL6_37, List.forall_mem_cons.mpr ⟨okL6_40, List.forall_mem_cons.mpr ⟨okL6_43, List.forall_mem_cons.mpr ⟨okL6_47, List.forall_mem_cons.mpr ⟨okL6_50, List.forall_mem_cons.mpr ⟨okL6_55, List.forall_mem_cons.mpr ⟨okL6_58, List.forall_mem_cons.mpr ⟨okL6_70, List.forall_mem_cons.mpr ⟨okL6_79, List.forall_mem_cons.mpr ⟨okL6_82, List.forall_mem_cons.mpr ⟨okL6_85, List.forall_mem_cons.mpr ⟨okL6_88, List.forall_mem_cons.mpr ⟨okL6_99, List.forall_mem_cons.mpr ⟨okL6_102, List.forall_mem_cons.mpr ⟨okL6_105, List.forall_mem_cons.mpr ⟨okL6_120, List.forall_mem_cons.mpr ⟨okL6_128, List.forall_mem_cons.mpr ⟨okL6_131, List.forall_mem_cons.mpr ⟨okL6_135, List.forall_mem_cons.mpr ⟨okL6_139, List.forall_mem_cons.mpr ⟨okL6_142, List.forall_mem_cons.mpr ⟨okL6_147, List.forall_mem_cons.mpr ⟨okL6_155, List.forall_mem_cons.mpr ⟨okL6_159, List.forall_mem_cons.mpr ⟨okL6_163, List.forall_mem_cons.mpr ⟨okL6_166, List.forall_mem_cons.mpr ⟨okL6_169, List.forall_mem_cons.mpr ⟨okL6_172, List.forall_mem_cons.mpr ⟨okL6_192, List.forall_mem_cons.mpr ⟨okL6_200, List.forall_mem_cons.mpr ⟨okL6_203, List.forall_mem_cons.mpr ⟨okL6_216, List.forall_mem_cons.mpr ⟨okL6_219, List.forall_mem_cons.mpr ⟨okL6_222, List.forall_mem_cons.mpr ⟨okL6_226, List.forall_mem_cons.mpr ⟨okL6_231, List.forall_mem_cons.mpr ⟨okL6_236, List.forall_mem_cons.mpr ⟨okL6_250, List.forall_mem_cons.mpr ⟨okL6_251, List.forall_mem_cons.mpr ⟨okL6_255, List.forall_mem_cons.mpr ⟨okL6_258, List.forall_mem_cons.mpr ⟨okL6_261, List.forall_mem_cons.mpr ⟨okL6_265, fun _ h => absurd h List.not_mem_nil⟩⟩⟩⟩⟩⟩⟩⟩⟩⟩⟩⟩⟩⟩⟩⟩⟩⟩⟩⟩⟩⟩⟩⟩⟩⟩⟩⟩⟩⟩⟩⟩⟩⟩⟩⟩⟩⟩⟩⟩⟩⟩⟩⟩⟩⟩⟩⟩
theorem okFs7 : ∀ q ∈ fL7, okF 7 q := fun _ h => absurd h List.not_mem_nil
theorem okLs7 : ∀ q ∈ mL7, okL 7 q := fun _ h => absurd h List.not_mem_nil
theorem okF8_9 : okF 8 (9, 6, 0) := ⟨by decide, by decide, ws_of 581 (by decide +kernel) (by decide +kernel)⟩
theorem okF8_15 : okF 8 (15, 6, 1) := ⟨by decide, by decide, ws_of 582 (by decide +kernel) (by decide +kernel)⟩
theorem okF8_1048 : okF 8 (1048, 5, 2) := ⟨by decide, by decide, ws_of 392 (by decide +kernel) (by decide +kernel)⟩
theorem okFs8 : ∀ q ∈ fL8, okF 8 q := List.forall_mem_cons.mpr ⟨okF8_9, List.forall_mem_cons.mpr ⟨okF8_15, List.forall_mem_cons.mpr ⟨okF8_1048, fun _ h => absurd h List.not_mem_nil⟩⟩⟩
theorem okL8_54 : okL 8 (54, sJ7_copyOfRange_39247) := ⟨okJ7_copyOfRange_39247, ws_of 486 (by decide +kernel) (by decide +kernel)⟩
theorem okL8_335 : okL 8 (335, sJ0_coder_7d493) := ⟨okJ0_coder_7d493, ws_of 258 (by decide +kernel) (by decide +kernel)⟩
theorem okL8_489 : okL 8 (489, sJ0_init_db425) := ⟨okJ0_init_db425, ws_of 468 (by decide +kernel) (by decide +kernel)⟩
theorem okL8_492 : okL 8 (492, sJ0_isLatin1_aae02) := ⟨okJ0_isLatin1_aae02, ws_of 645 (by decide +kernel) (by decide +kernel)⟩
theorem okL8_495 : okL 8 (495, sJ1_charAt_3b067) := ⟨okJ1_charAt_3b067, ws_of 649 (by decide +kernel) (by decide +kernel)⟩
theorem okL8_552 : okL 8 (552, sJ5_getValue_6d5f1) := ⟨okJ5_getValue_6d5f1, ws_of 472 (by decide +kernel) (by decide +kernel)⟩
theorem okL8_1047 : okL 8 (1047, sJ5_isLatin1_aae02) := ⟨okJ5_isLatin1_aae02, ws_of 485 (by decide +kernel) (by decide +kernel)⟩
theorem okL8_1059 : okL 8 (1059, sJ3_checkIndex_8e157) := ⟨okJ3_checkIndex_8e157, ws_of 446 (by decide +kernel) (by decide +kernel)⟩
theorem okLs8 : ∀ q ∈ mL8, okL 8 q := List.forall_mem_cons.mpr ⟨okL8_54, List.forall_mem_cons.mpr ⟨okL8_335, List.forall_mem_cons.mpr ⟨okL8_489, List.forall_mem_cons.mpr ⟨okL8_492, List.forall_mem_cons.mpr ⟨okL8_495, List.forall_mem_cons.mpr ⟨okL8_552, List.forall_mem_cons.mpr ⟨okL8_1047, List.forall_mem_cons.mpr ⟨okL8_1059, fun _ h => absurd h List.not_mem_nil⟩⟩⟩⟩⟩⟩⟩⟩
theorem okFs9 : ∀ q ∈ fL9, okF 9 q := fun _ h => absurd h List.not_mem_nil
theorem okL9_9 : okL 9 (9, sJ0_checkIndex_df160) := ⟨okJ0_checkIndex_df160, ws_of 652 (by decide +kernel) (by decide +kernel)⟩
theorem okLs9 : ∀ q ∈ mL9, okL 9 q := List.forall_mem_cons.mpr ⟨okL9_9, fun _ h => absurd h List.not_mem_nil⟩
theorem okFs10 : ∀ q ∈ fL10, okF 10 q := fun _ h => absurd h List.not_mem_nil
theorem okLs10 : ∀ q ∈ mL10, okL 10 q := fun _ h => absurd h List.not_mem_nil
theorem okF11_15 : okF 11 (15, 5, 0) := ⟨by decide, by decide, ws_of 390 (by decide +kernel) (by decide +kernel)⟩
theorem okF11_22 : okF 11 (22, 5, 1) := ⟨by decide, by decide, ws_of 391 (by decide +kernel) (by decide +kernel)⟩
theorem okF11_79 : okF 11 (79, 5, 3) := ⟨by decide, by decide, ws_of 393 (by decide +kernel) (by decide +kernel)⟩
theorem okFs11 : ∀ q ∈ fL11, okF 11 q := List.forall_mem_cons.mpr ⟨okF11_15, List.forall_mem_cons.mpr ⟨okF11_22, List.forall_mem_cons.mpr ⟨okF11_79, fun _ h => absurd h List.not_mem_nil⟩⟩⟩
theorem okL11_32 : okL 11 (32, sJ0_length_8abf5) := ⟨okJ0_length_8abf5, ws_of 254 (by decide +kernel) (by decide +kernel)⟩
theorem okL11_40 : okL 11 (40, sJ0_coder_7d493) := ⟨okJ0_coder_7d493, ws_of 266 (by decide +kernel) (by decide +kernel)⟩
theorem okL11_83 : okL 11 (83, sJ5_isLatin1_aae02) := ⟨okJ5_isLatin1_aae02, ws_of 325 (by decide +kernel) (by decide +kernel)⟩
theorem okL11_100 : okL 11 (100, sJ5_ensureCapacityInternal_d00df) := ⟨okJ5_ensureCapacityInternal_d00df, ws_of 291 (by decide +kernel) (by decide +kernel)⟩
theorem okL11_104 : okL 11 (104, sJ5_newCapacity_0f7a4) := ⟨okJ5_newCapacity_0f7a4, ws_of 295 (by decide +kernel) (by decide +kernel)⟩
theorem okL11_108 : okL 11 (108, sJ7_copyOf_9075b) := ⟨okJ7_copyOf_9075b, ws_of 309 (by decide +kernel) (by decide +kernel)⟩
theorem okL11_114 : okL 11 (114, sJ8_newLength_cabcc) := ⟨okJ8_newLength_cabcc, ws_of 299 (by decide +kernel) (by decide +kernel)⟩
theorem okL11_144 : okL 11 (144, sJ0_checkIndex_df160) := ⟨okJ0_checkIndex_df160, ws_of 603 (by decide +kernel) (by decide +kernel)⟩
theorem okL11_191 : okL 11 (191, sJ1_canEncode_fc78d) := ⟨okJ1_canEncode_fc78d, ws_of 434 (by decide +kernel) (by decide +kernel)⟩
theorem okL11_208 : okL 11 (208, sJ5_putStringAt_47b60) := ⟨okJ5_putStringAt_47b60, ws_of 357 (by decide +kernel) (by decide +kernel)⟩
theorem okL11_245 : okL 11 (245, sJ6_stringSize_0f7a4) := ⟨okJ6_stringSize_0f7a4, ws_of 409 (by decide +kernel) (by decide +kernel)⟩
theorem okL11_248 : okL 11 (248, sJ6_getChars_ba4f3) := ⟨okJ6_getChars_ba4f3, ws_of 412 (by decide +kernel) (by decide +kernel)⟩
theorem okL11_397 : okL 11 (397, sJ5_inflateIfNeededFor_a7421) := ⟨okJ5_inflateIfNeededFor_a7421, ws_of 361 (by decide +kernel) (by decide +kernel)⟩
theorem okL11_399 : okL 11 (399, sJ0_getBytes_840e7) := ⟨okJ0_getBytes_840e7, ws_of 384 (by decide +kernel) (by decide +kernel)⟩
theorem okLs11 : ∀ q ∈ mL11, okL 11 q := List.forall_mem_cons.mpr ⟨okL11_32, List.forall_mem_cons.mpr ⟨okL11_40, List.forall_mem_cons.mpr ⟨okL11_83, List.forall_mem_cons.mpr ⟨okL11_100, List.forall_mem_cons.mpr ⟨okL11_104, List.forall_mem_cons.mpr ⟨okL11_108, List.forall_mem_cons.mpr ⟨okL11_114, List.forall_mem_cons.mpr ⟨okL11_144, List.forall_mem_cons.mpr ⟨okL11_191, List.forall_mem_cons.mpr ⟨okL11_208, List.forall_mem_cons.mpr ⟨okL11_245, List.forall_mem_cons.mpr ⟨okL11_248, List.forall_mem_cons.mpr ⟨okL11_397, List.forall_mem_cons.mpr ⟨okL11_399, fun _ h => absurd h List.not_mem_nil⟩⟩⟩⟩⟩⟩⟩⟩⟩⟩⟩⟩⟩⟩
theorem okFs12 : ∀ q ∈ fL12, okF 12 q := fun _ h => absurd h List.not_mem_nil
theorem okL12_47 : okL 12 (47, sJ4_init_da8c8) := ⟨okJ4_init_da8c8, ws_of 538 (by decide +kernel) (by decide +kernel)⟩
theorem okL12_50 : okL 12 (50, sJ4_append_15ec4) := ⟨okJ4_append_15ec4, ws_of 541 (by decide +kernel) (by decide +kernel)⟩
theorem okL12_54 : okL 12 (54, sJ4_append_bf812) := ⟨okJ4_append_bf812, ws_of 539 (by decide +kernel) (by decide +kernel)⟩
theorem okL12_61 : okL 12 (61, sJ4_toString_0e30d) := ⟨okJ4_toString_0e30d, ws_of 542 (by decide +kernel) (by decide +kernel)⟩
theorem okL12_339 : okL 12 (339, sJ7_copyOfRangeByte_39247) := ⟨okJ7_copyOfRangeByte_39247, ws_of 489 (by decide +kernel) (by decide +kernel)⟩
theorem okL12_343 : okL 12 (343, sJ7_checkLength_df160) := ⟨okJ7_checkLength_df160, ws_of 492 (by decide +kernel) (by decide +kernel)⟩
theorem okLs12 : ∀ q ∈ mL12, okL 12 q := List.forall_mem_cons.mpr ⟨okL12_47, List.forall_mem_cons.mpr ⟨okL12_50, List.forall_mem_cons.mpr ⟨okL12_54, List.forall_mem_cons.mpr ⟨okL12_61, List.forall_mem_cons.mpr ⟨okL12_339, List.forall_mem_cons.mpr ⟨okL12_343, fun _ h => absurd h List.not_mem_nil⟩⟩⟩⟩⟩⟩
theorem okFs13 : ∀ q ∈ fL13, okF 13 q := fun _ h => absurd h List.not_mem_nil
theorem okLs13 : ∀ q ∈ mL13, okL 13 q := fun _ h => absurd h List.not_mem_nil
theorem okFs14 : ∀ q ∈ fL14, okF 14 q := fun _ h => absurd h List.not_mem_nil
theorem okLs14 : ∀ q ∈ mL14, okL 14 q := fun _ h => absurd h List.not_mem_nil
theorem fT_ok {o k : Nat} {v : Nat × Nat} (h : fT o k = some v) : okF o (k, v) := by
  have h2 := tfind_mem h
  match o, h2 with
  | 0, h2 => exact okFs0 _ h2
  | 1, h2 => exact okFs1 _ h2
  | 2, h2 => exact okFs2 _ h2
  | 3, h2 => exact okFs3 _ h2
  | 4, h2 => exact okFs4 _ h2
  | 5, h2 => exact okFs5 _ h2
  | 6, h2 => exact okFs6 _ h2
  | 7, h2 => exact okFs7 _ h2
  | 8, h2 => exact okFs8 _ h2
  | 9, h2 => exact okFs9 _ h2
  | 10, h2 => exact okFs10 _ h2
  | 11, h2 => exact okFs11 _ h2
  | 12, h2 => exact okFs12 _ h2
  | 13, h2 => exact okFs13 _ h2
  | (u + 14), h2 => exact absurd h2 (by simp [fLs, fL14])
theorem mT_ok {o k : Nat} {v : MS} (h : mT o k = some v) : okL (min o 14) (k, v) := by
  have h2 := tfind_mem h
  match o, h2 with
  | 0, h2 => exact okLs0 _ h2
  | 1, h2 => exact okLs1 _ h2
  | 2, h2 => exact okLs2 _ h2
  | 3, h2 => exact okLs3 _ h2
  | 4, h2 => exact okLs4 _ h2
  | 5, h2 => exact okLs5 _ h2
  | 6, h2 => exact okLs6 _ h2
  | 7, h2 => exact okLs7 _ h2
  | 8, h2 => exact okLs8 _ h2
  | 9, h2 => exact okLs9 _ h2
  | 10, h2 => exact okLs10 _ h2
  | 11, h2 => exact okLs11 _ h2
  | 12, h2 => exact okLs12 _ h2
  | 13, h2 => exact okLs13 _ h2
  | (u + 14), h2 => rw [show min (u + 14) 14 = 14 by omega]; exact okLs14 _ h2
theorem fT0_9 : fT 0 9 = some (0, 0) := rfl
theorem fT0_15 : fT 0 15 = some (0, 1) := rfl
theorem fT0_19 : fT 0 19 = some (0, 2) := rfl
theorem fT0_22 : fT 0 22 = some (0, 3) := rfl
theorem fT0_25 : fT 0 25 = some (0, 4) := rfl
theorem fT0_28 : fT 0 28 = some (0, 5) := rfl
theorem fT0_34 : fT 0 34 = some (0, 6) := rfl
theorem fT0_38 : fT 0 38 = some (0, 7) := rfl
theorem fT0_42 : fT 0 42 = some (0, 8) := rfl
theorem fT0_58 : fT 0 58 = some (2, 1) := rfl
theorem fT0_94 : fT 0 94 = some (2, 0) := rfl
theorem mT0_33 : mT 0 33 = some sX2_init := rfl
theorem mT0_46 : mT 0 46 = some sX0_start := rfl
theorem mT0_50 : mT 0 50 = some sX2_packMarking := rfl
theorem mT0_54 : mT 0 54 = some sX0_visit := rfl
theorem mT0_61 : mT 0 61 = some sX0_isEnabledIn := rfl
theorem mT0_65 : mT 0 65 = some sX2_copyFrom := rfl
theorem mT0_68 : mT 0 68 = some sX2_packChange := rfl
theorem mT0_72 : mT 0 72 = some sX0_slotOf := rfl
theorem mT0_76 : mT 0 76 = some sX2_unpackMarking := rfl
theorem mT0_80 : mT 0 80 = some sX2_enabledSet := rfl
theorem mT0_86 : mT 0 86 = some sX2_unpackTokens := rfl
theorem mT0_90 : mT 0 90 = some sX0_tokensOf := rfl
theorem mT0_97 : mT 0 97 = some sX0_tokensIn := rfl
theorem fT1_11 : fT 1 11 = some (1, 0) := rfl
theorem fT1_18 : fT 1 18 = some (1, 1) := rfl
theorem fT1_22 : fT 1 22 = some (1, 2) := rfl
theorem mT1_17 : mT 1 17 = some sX2_init := rfl
theorem mT1_25 : mT 1 25 = some sX2_copyFrom := rfl
theorem fT2_9 : fT 2 9 = some (2, 0) := rfl
theorem fT2_15 : fT 2 15 = some (2, 1) := rfl
theorem fT2_18 : fT 2 18 = some (2, 2) := rfl
theorem fT2_22 : fT 2 22 = some (2, 3) := rfl
theorem fT2_25 : fT 2 25 = some (2, 4) := rfl
theorem fT2_28 : fT 2 28 = some (2, 5) := rfl
theorem fT2_31 : fT 2 31 = some (2, 6) := rfl
theorem fT2_34 : fT 2 34 = some (2, 7) := rfl
theorem mT2_47 : mT 2 47 = some sX2_reasonAt := rfl
theorem mT2_50 : mT 2 50 = some sX2_reasonAgainst := rfl
theorem mT2_54 : mT 2 54 = some sX2_allows := rfl
theorem mT2_58 : mT 2 58 = some sX2_change := rfl
theorem mT2_61 : mT 2 61 = some sX2_nextToFire := rfl
theorem mT2_65 : mT 2 65 = some sX2_fireOnce := rfl
theorem mT2_69 : mT 2 69 = some sX2_unpackTokens := rfl
theorem fT3_9 : fT 3 9 = some (3, 0) := rfl
theorem fT3_15 : fT 3 15 = some (3, 1) := rfl
theorem fT3_22 : fT 3 22 = some (3, 2) := rfl
theorem fT3_26 : fT 3 26 = some (3, 3) := rfl
theorem fT3_29 : fT 3 29 = some (3, 4) := rfl
theorem fT3_32 : fT 3 32 = some (3, 5) := rfl
theorem fT3_35 : fT 3 35 = some (3, 6) := rfl
theorem fT3_38 : fT 3 38 = some (3, 7) := rfl
theorem fT3_81 : fT 3 81 = some (2, 4) := rfl
theorem fT3_89 : fT 3 89 = some (2, 5) := rfl
theorem fT3_95 : fT 3 95 = some (2, 6) := rfl
theorem fT3_119 : fT 3 119 = some (2, 0) := rfl
theorem fT3_122 : fT 3 122 = some (2, 3) := rfl
theorem fT3_125 : fT 3 125 = some (2, 2) := rfl
theorem fT3_133 : fT 3 133 = some (2, 1) := rfl
theorem mT3_21 : mT 3 21 = some sX2_init := rfl
theorem mT3_41 : mT 3 41 = some sX3_readToken := rfl
theorem mT3_44 : mT 3 44 = some sX3_readHeader := rfl
theorem mT3_48 : mT 3 48 = some sX3_readSemicolon := rfl
theorem mT3_51 : mT 3 51 = some sX3_readCommand := rfl
theorem mT3_55 : mT 3 55 = some sX3_isWord := rfl
theorem mT3_59 : mT 3 59 = some sX3_fail := rfl
theorem mT3_63 : mT 3 63 = some sX3_readNumber := rfl
theorem mT3_67 : mT 3 67 = some sX2_clear := rfl
theorem mT3_71 : mT 3 71 = some sX3_commandOfToken := rfl
theorem mT3_75 : mT 3 75 = some sX3_readTokens := rfl
theorem mT3_78 : mT 3 78 = some sX3_readCapacity := rfl
theorem mT3_85 : mT 3 85 = some sX3_readArcFromPlace := rfl
theorem mT3_92 : mT 3 92 = some sX3_readArcFromTransition := rfl
theorem mT3_98 : mT 3 98 = some sX3_readFire := rfl
theorem mT3_101 : mT 3 101 = some sX2_advance := rfl
theorem mT3_136 : mT 3 136 = some sX2_arc := rfl
theorem mT3_139 : mT 3 139 = some sX2_allows := rfl
theorem mT3_142 : mT 3 142 = some sX2_fireOnce := rfl
theorem mT3_146 : mT 3 146 = some sJ0_length_8abf5 := rfl
theorem mT3_150 : mT 3 150 = some sJ0_charAt_5068e := rfl
theorem mT3_154 : mT 3 154 = some sX3_isLetter := rfl
theorem mT3_157 : mT 3 157 = some sX3_isDigit := rfl
theorem fT4_13 : fT 4 13 = some (4, 0) := rfl
theorem fT4_20 : fT 4 20 = some (4, 1) := rfl
theorem fT4_23 : fT 4 23 = some (4, 2) := rfl
theorem fT4_26 : fT 4 26 = some (4, 3) := rfl
theorem fT4_33 : fT 4 33 = some (4, 4) := rfl
theorem fT4_40 : fT 4 40 = some (4, 5) := rfl
theorem fT4_47 : fT 4 47 = some (4, 6) := rfl
theorem fT4_51 : fT 4 51 = some (4, 7) := rfl
theorem fT4_54 : fT 4 54 = some (4, 8) := rfl
theorem fT4_58 : fT 4 58 = some (4, 9) := rfl
theorem fT4_62 : fT 4 62 = some (4, 10) := rfl
theorem fT4_70 : fT 4 70 = some (2, 3) := rfl
theorem fT4_73 : fT 4 73 = some (2, 2) := rfl
theorem fT4_76 : fT 4 76 = some (2, 4) := rfl
theorem fT4_83 : fT 4 83 = some (2, 5) := rfl
theorem fT4_86 : fT 4 86 = some (2, 6) := rfl
theorem fT4_93 : fT 4 93 = some (3, 1) := rfl
theorem fT4_106 : fT 4 106 = some (3, 3) := rfl
theorem fT4_112 : fT 4 112 = some (3, 2) := rfl
theorem fT4_143 : fT 4 143 = some (2, 7) := rfl
theorem fT4_154 : fT 4 154 = some (0, 7) := rfl
theorem fT4_160 : fT 4 160 = some (0, 0) := rfl
theorem fT4_168 : fT 4 168 = some (0, 1) := rfl
theorem fT4_185 : fT 4 185 = some (1, 2) := rfl
theorem fT4_200 : fT 4 200 = some (2, 0) := rfl
theorem fT4_203 : fT 4 203 = some (2, 1) := rfl
theorem fT4_232 : fT 4 232 = some (0, 2) := rfl
theorem mT4_9 : mT 4 9 = some sX4_firstNet := rfl
theorem mT4_19 : mT 4 19 = some sX2_init := rfl
theorem mT4_32 : mT 4 32 = some sX1_init := rfl
theorem mT4_39 : mT 4 39 = some sX3_init := rfl
theorem mT4_46 : mT 4 46 = some sX0_init := rfl
theorem mT4_66 : mT 4 66 = some sX2_clear := rfl
theorem mT4_79 : mT 4 79 = some sX2_arc := rfl
theorem mT4_89 : mT 4 89 = some sX2_fireOnce := rfl
theorem mT4_96 : mT 4 96 = some sX3_addFourBytes := rfl
theorem mT4_99 : mT 4 99 = some sX4_checkRange := rfl
theorem mT4_103 : mT 4 103 = some sX3_execute := rfl
theorem mT4_109 : mT 4 109 = some sX4_beginChange := rfl
theorem mT4_113 : mT 4 113 = some sX2_copyFrom := rfl
theorem mT4_117 : mT 4 117 = some sX2_sumOfTokens := rfl
theorem mT4_121 : mT 4 121 = some sX4_checkPlace := rfl
theorem mT4_131 : mT 4 131 = some sX4_checkArc := rfl
theorem mT4_134 : mT 4 134 = some sX4_checkTransition := rfl
theorem mT4_137 : mT 4 137 = some sX2_allows := rfl
theorem mT4_146 : mT 4 146 = some sX2_advance := rfl
theorem mT4_150 : mT 4 150 = some sX4_explored := rfl
theorem mT4_157 : mT 4 157 = some sX4_checkMarking := rfl
theorem mT4_164 : mT 4 164 = some sX2_unpackMarking := rfl
theorem mT4_171 : mT 4 171 = some sX2_swapInputsAndOutputs := rfl
theorem mT4_174 : mT 4 174 = some sX2_enabledSet := rfl
theorem mT4_177 : mT 4 177 = some sJ6_bitCount_0f7a4 := rfl
theorem mT4_182 : mT 4 182 = some sX1_push := rfl
theorem mT4_186 : mT 4 186 = some sX1_popInto := rfl
theorem mT4_206 : mT 4 206 = some sX2_change := rfl
theorem mT4_213 : mT 4 213 = some sX2_reasonAgainst := rfl
theorem mT4_216 : mT 4 216 = some sX2_firstBlocker := rfl
theorem mT4_219 : mT 4 219 = some sX2_nextToFire := rfl
theorem mT4_229 : mT 4 229 = some sX0_tokensIn := rfl
theorem mT4_249 : mT 4 249 = some sX0_explore := rfl
theorem mT4_255 : mT 4 255 = some sX2_keepsWeightedTokens := rfl
theorem mT4_262 : mT 4 262 = some sX4_isSimpleInvariant := rfl
theorem mT4_275 : mT 4 275 = some sX2_placesOutOfRange := rfl
theorem mT4_278 : mT 4 278 = some sX0_keepsTokensOf := rfl
theorem mT5_1 : mT 5 1 = some sJ5_init_d00df := rfl
theorem mT5_7 : mT 5 7 = some sJ5_init_a7421 := rfl
theorem mT5_23 : mT 5 23 = some sJ4_append_15ec4 := rfl
theorem mT5_137 : mT 5 137 = some sJ0_init_81219 := rfl
theorem mT6_7 : mT 6 7 = some sL_cell := rfl
theorem mT6_13 : mT 6 13 = some sJ9_floorMod_7cf53 := rfl
theorem mT6_19 : mT 6 19 = some sX4_setTokens := rfl
theorem mT6_28 : mT 6 28 = some sX4_setCapacity := rfl
theorem mT6_33 : mT 6 33 = some sX4_setInput := rfl
theorem mT6_37 : mT 6 37 = some sX4_setOutput := rfl
theorem mT6_40 : mT 6 40 = some sX4_setInhibitor := rfl
theorem mT6_43 : mT 6 43 = some sX4_fire := rfl
theorem mT6_47 : mT 6 47 = some sX4_run := rfl
theorem mT6_50 : mT 6 50 = some sX4_moveToMarking := rfl
theorem mT6_55 : mT 6 55 = some sX4_tokens := rfl
theorem mT6_58 : mT 6 58 = some sX4_capacity := rfl
theorem mT6_70 : mT 6 70 = some sX4_effect := rfl
theorem mT6_79 : mT 6 79 = some sX4_whyNotEnabled := rfl
theorem mT6_82 : mT 6 82 = some sX4_blockingPlace := rfl
theorem mT6_85 : mT 6 85 = some sX4_firings := rfl
theorem mT6_88 : mT 6 88 = some sX4_firesInRow := rfl
theorem mT6_99 : mT 6 99 = some sX4_markingTokens := rfl
theorem mT6_102 : mT 6 102 = some sX4_markingDistance := rfl
theorem mT6_105 : mT 6 105 = some sX4_markingTransition := rfl
theorem mT6_120 : mT 6 120 = some sL_of := rfl
theorem mT6_128 : mT 6 128 = some sJ4_init_a7421 := rfl
theorem mT6_131 : mT 6 131 = some sJ4_append_bf812 := rfl
theorem mT6_135 : mT 6 135 = some sJ4_append_cf468 := rfl
theorem mT6_139 : mT 6 139 = some sJ4_init_da8c8 := rfl
theorem mT6_142 : mT 6 142 = some sJ4_append_15ec4 := rfl
theorem mT6_147 : mT 6 147 = some sJ4_toString_0e30d := rfl
theorem mT6_155 : mT 6 155 = some sJ4_length_8abf5 := rfl
theorem mT6_159 : mT 6 159 = some sJ4_charAt_5068e := rfl
theorem mT6_163 : mT 6 163 = some sX4_append := rfl
theorem mT6_166 : mT 6 166 = some sX4_runScript := rfl
theorem mT6_169 : mT 6 169 = some sX4_placeCount := rfl
theorem mT6_172 : mT 6 172 = some sX4_transitionCount := rfl
theorem mT6_192 : mT 6 192 = some sX4_markingCount := rfl
theorem mT6_200 : mT 6 200 = some sX4_reverseNet := rfl
theorem mT6_203 : mT 6 203 = some sX4_violations := rfl
theorem mT6_216 : mT 6 216 = some sX4_totalTokens := rfl
theorem mT6_219 : mT 6 219 = some sX4_enabledTransitions := rfl
theorem mT6_222 : mT 6 222 = some sX4_isDead := rfl
theorem mT6_226 : mT 6 226 = some sX4_nextOfRun := rfl
theorem mT6_231 : mT 6 231 = some sX4_undoCount := rfl
theorem mT6_236 : mT 6 236 = some sX4_undo := rfl
theorem mT6_250 : mT 6 250 = some sX4_init := rfl
theorem mT6_251 : mT 6 251 = some sL_isSound := rfl
theorem mT6_255 : mT 6 255 = some sL_areEffects := rfl
theorem mT6_258 : mT 6 258 = some sL_areMarkings := rfl
theorem mT6_261 : mT 6 261 = some sL_began := rfl
theorem mT6_265 : mT 6 265 = some sL_act := rfl
theorem fT8_9 : fT 8 9 = some (6, 0) := rfl
theorem fT8_15 : fT 8 15 = some (6, 1) := rfl
theorem fT8_1048 : fT 8 1048 = some (5, 2) := rfl
theorem mT8_54 : mT 8 54 = some sJ7_copyOfRange_39247 := rfl
theorem mT8_335 : mT 8 335 = some sJ0_coder_7d493 := rfl
theorem mT8_489 : mT 8 489 = some sJ0_init_db425 := rfl
theorem mT8_492 : mT 8 492 = some sJ0_isLatin1_aae02 := rfl
theorem mT8_495 : mT 8 495 = some sJ1_charAt_3b067 := rfl
theorem mT8_552 : mT 8 552 = some sJ5_getValue_6d5f1 := rfl
theorem mT8_1047 : mT 8 1047 = some sJ5_isLatin1_aae02 := rfl
theorem mT8_1059 : mT 8 1059 = some sJ3_checkIndex_8e157 := rfl
theorem mT9_9 : mT 9 9 = some sJ0_checkIndex_df160 := rfl
theorem fT11_15 : fT 11 15 = some (5, 0) := rfl
theorem fT11_22 : fT 11 22 = some (5, 1) := rfl
theorem fT11_79 : fT 11 79 = some (5, 3) := rfl
theorem mT11_32 : mT 11 32 = some sJ0_length_8abf5 := rfl
theorem mT11_40 : mT 11 40 = some sJ0_coder_7d493 := rfl
theorem mT11_83 : mT 11 83 = some sJ5_isLatin1_aae02 := rfl
theorem mT11_100 : mT 11 100 = some sJ5_ensureCapacityInternal_d00df := rfl
theorem mT11_104 : mT 11 104 = some sJ5_newCapacity_0f7a4 := rfl
theorem mT11_108 : mT 11 108 = some sJ7_copyOf_9075b := rfl
theorem mT11_114 : mT 11 114 = some sJ8_newLength_cabcc := rfl
theorem mT11_144 : mT 11 144 = some sJ0_checkIndex_df160 := rfl
theorem mT11_191 : mT 11 191 = some sJ1_canEncode_fc78d := rfl
theorem mT11_208 : mT 11 208 = some sJ5_putStringAt_47b60 := rfl
theorem mT11_245 : mT 11 245 = some sJ6_stringSize_0f7a4 := rfl
theorem mT11_248 : mT 11 248 = some sJ6_getChars_ba4f3 := rfl
theorem mT11_397 : mT 11 397 = some sJ5_inflateIfNeededFor_a7421 := rfl
theorem mT11_399 : mT 11 399 = some sJ0_getBytes_840e7 := rfl
theorem mT12_47 : mT 12 47 = some sJ4_init_da8c8 := rfl
theorem mT12_50 : mT 12 50 = some sJ4_append_15ec4 := rfl
theorem mT12_54 : mT 12 54 = some sJ4_append_bf812 := rfl
theorem mT12_61 : mT 12 61 = some sJ4_toString_0e30d := rfl
theorem mT12_339 : mT 12 339 = some sJ7_copyOfRangeByte_39247 := rfl
theorem mT12_343 : mT 12 343 = some sJ7_checkLength_df160 := rfl
