-- ===== PART A: goes FIRST, ahead of the names: the tables' words, and 'selects' of the private methods out of them =====
/-- a private method of a class that the tables say can be made, by its rows of tables_1 -/
def lw_okq (q : MethodName × Nat) : Prop := (q.1.cls ≠ "java/lang/invoke/MethodHandle" ∧ q.1.cls ≠ "java/lang/invoke/VarHandle") ∧ Cond.instantiable q.1.cls q.2 ∈ tables_1 ∧ Cond.privateMethod q.1 ∈ tables_1 ∧ Cond.instanceMethod q.1 ∈ tables_1
theorem lw_p0 : lw_okq (⟨"PairGrammars$Tally", "sumRules", "(LPairGrammars$Grammar;)V"⟩, 4) := ⟨⟨by decide +kernel, by decide +kernel⟩, List.mem_of_getElem? (i := 130) (by decide +kernel), List.mem_of_getElem? (i := 290) (by decide +kernel), List.mem_of_getElem? (i := 291) (by decide +kernel)⟩
theorem lw_p1 : lw_okq (⟨"PairGrammars$Tally", "sumRow", "(LPairGrammars$Row;I)V"⟩, 4) := ⟨⟨by decide +kernel, by decide +kernel⟩, List.mem_of_getElem? (i := 130) (by decide +kernel), List.mem_of_getElem? (i := 296) (by decide +kernel), List.mem_of_getElem? (i := 297) (by decide +kernel)⟩
theorem lw_p2 : lw_okq (⟨"PairGrammars$Grammar", "depthOfRow", "(LPairGrammars$Row;)I"⟩, 7) := ⟨⟨by decide +kernel, by decide +kernel⟩, List.mem_of_getElem? (i := 23) (by decide +kernel), List.mem_of_getElem? (i := 379) (by decide +kernel), List.mem_of_getElem? (i := 380) (by decide +kernel)⟩
theorem lw_p3 : lw_okq (⟨"PairGrammars$Grammar", "noteUses", "(LPairGrammars$Row;)V"⟩, 7) := ⟨⟨by decide +kernel, by decide +kernel⟩, List.mem_of_getElem? (i := 23) (by decide +kernel), List.mem_of_getElem? (i := 383) (by decide +kernel), List.mem_of_getElem? (i := 384) (by decide +kernel)⟩
theorem lw_p4 : lw_okq (⟨"PairGrammars$Reader", "next", "(IILPairGrammars$Grammar;)I"⟩, 1) := ⟨⟨by decide +kernel, by decide +kernel⟩, List.mem_of_getElem? (i := 98) (by decide +kernel), List.mem_of_getElem? (i := 392) (by decide +kernel), List.mem_of_getElem? (i := 393) (by decide +kernel)⟩
theorem lw_p5 : lw_okq (⟨"PairGrammars$Reader", "startRow", "(ILPairGrammars$Grammar;)I"⟩, 1) := ⟨⟨by decide +kernel, by decide +kernel⟩, List.mem_of_getElem? (i := 98) (by decide +kernel), List.mem_of_getElem? (i := 396) (by decide +kernel), List.mem_of_getElem? (i := 397) (by decide +kernel)⟩
theorem lw_p6 : lw_okq (⟨"PairGrammars$Reader", "grow", "(LPairGrammars$Row;ILPairGrammars$Grammar;I)I"⟩, 1) := ⟨⟨by decide +kernel, by decide +kernel⟩, List.mem_of_getElem? (i := 98) (by decide +kernel), List.mem_of_getElem? (i := 406) (by decide +kernel), List.mem_of_getElem? (i := 407) (by decide +kernel)⟩
theorem lw_p7 : lw_okq (⟨"PairGrammars$Reader", "endRule", "(LPairGrammars$Grammar;)I"⟩, 1) := ⟨⟨by decide +kernel, by decide +kernel⟩, List.mem_of_getElem? (i := 98) (by decide +kernel), List.mem_of_getElem? (i := 425) (by decide +kernel), List.mem_of_getElem? (i := 426) (by decide +kernel)⟩
theorem lw_p8 : lw_okq (⟨"PairGrammars", "accept", "(I)I"⟩, 12) := ⟨⟨by decide +kernel, by decide +kernel⟩, List.mem_of_getElem? (i := 15) (by decide +kernel), List.mem_of_getElem? (i := 449) (by decide +kernel), List.mem_of_getElem? (i := 450) (by decide +kernel)⟩
theorem lw_p9 : lw_okq (⟨"PairGrammars$Pairs", "countAll", "(LPairGrammars$Row;)V"⟩, 4) := ⟨⟨by decide +kernel, by decide +kernel⟩, List.mem_of_getElem? (i := 111) (by decide +kernel), List.mem_of_getElem? (i := 473) (by decide +kernel), List.mem_of_getElem? (i := 474) (by decide +kernel)⟩
theorem lw_p10 : lw_okq (⟨"PairGrammars$Pairs", "keyAt", "(LPairGrammars$Row;I)I"⟩, 4) := ⟨⟨by decide +kernel, by decide +kernel⟩, List.mem_of_getElem? (i := 111) (by decide +kernel), List.mem_of_getElem? (i := 478) (by decide +kernel), List.mem_of_getElem? (i := 479) (by decide +kernel)⟩
theorem lw_p11 : lw_okq (⟨"PairGrammars$Row", "hasPair", "(III)Z"⟩, 2) := ⟨⟨by decide +kernel, by decide +kernel⟩, List.mem_of_getElem? (i := 30) (by decide +kernel), List.mem_of_getElem? (i := 513) (by decide +kernel), List.mem_of_getElem? (i := 514) (by decide +kernel)⟩
theorem lw_p12 : lw_okq (⟨"PairGrammars$Row", "shift", "(II)Z"⟩, 2) := ⟨⟨by decide +kernel, by decide +kernel⟩, List.mem_of_getElem? (i := 30) (by decide +kernel), List.mem_of_getElem? (i := 555) (by decide +kernel), List.mem_of_getElem? (i := 556) (by decide +kernel)⟩
theorem lw_p13 : lw_okq (⟨"PairGrammars$Grammar", "lowestSeldomUsed", "()I"⟩, 7) := ⟨⟨by decide +kernel, by decide +kernel⟩, List.mem_of_getElem? (i := 23) (by decide +kernel), List.mem_of_getElem? (i := 567) (by decide +kernel), List.mem_of_getElem? (i := 568) (by decide +kernel)⟩
theorem lw_p14 : lw_okq (⟨"PairGrammars", "isSlot", "(I)Z"⟩, 12) := ⟨⟨by decide +kernel, by decide +kernel⟩, List.mem_of_getElem? (i := 15) (by decide +kernel), List.mem_of_getElem? (i := 674) (by decide +kernel), List.mem_of_getElem? (i := 675) (by decide +kernel)⟩
theorem lw_p15 : lw_okq (⟨"PairGrammars$Walk", "enter", "(I)V"⟩, 3) := ⟨⟨by decide +kernel, by decide +kernel⟩, List.mem_of_getElem? (i := 162) (by decide +kernel), List.mem_of_getElem? (i := 682) (by decide +kernel), List.mem_of_getElem? (i := 683) (by decide +kernel)⟩
def lw_privs_1 : List (MethodName × Nat) := [(⟨"PairGrammars$Tally", "sumRules", "(LPairGrammars$Grammar;)V"⟩, 4), (⟨"PairGrammars$Tally", "sumRow", "(LPairGrammars$Row;I)V"⟩, 4), (⟨"PairGrammars$Grammar", "depthOfRow", "(LPairGrammars$Row;)I"⟩, 7), (⟨"PairGrammars$Grammar", "noteUses", "(LPairGrammars$Row;)V"⟩, 7), (⟨"PairGrammars$Reader", "next", "(IILPairGrammars$Grammar;)I"⟩, 1), (⟨"PairGrammars$Reader", "startRow", "(ILPairGrammars$Grammar;)I"⟩, 1), (⟨"PairGrammars$Reader", "grow", "(LPairGrammars$Row;ILPairGrammars$Grammar;I)I"⟩, 1), (⟨"PairGrammars$Reader", "endRule", "(LPairGrammars$Grammar;)I"⟩, 1), (⟨"PairGrammars", "accept", "(I)I"⟩, 12), (⟨"PairGrammars$Pairs", "countAll", "(LPairGrammars$Row;)V"⟩, 4), (⟨"PairGrammars$Pairs", "keyAt", "(LPairGrammars$Row;I)I"⟩, 4), (⟨"PairGrammars$Row", "hasPair", "(III)Z"⟩, 2), (⟨"PairGrammars$Row", "shift", "(II)Z"⟩, 2), (⟨"PairGrammars$Grammar", "lowestSeldomUsed", "()I"⟩, 7), (⟨"PairGrammars", "isSlot", "(I)Z"⟩, 12), (⟨"PairGrammars$Walk", "enter", "(I)V"⟩, 3)]
theorem lw_r1 : ∀ q ∈ lw_privs_1, lw_okq q := List.forall_mem_cons.mpr ⟨lw_p0, List.forall_mem_cons.mpr ⟨lw_p1, List.forall_mem_cons.mpr ⟨lw_p2, List.forall_mem_cons.mpr ⟨lw_p3, List.forall_mem_cons.mpr ⟨lw_p4, List.forall_mem_cons.mpr ⟨lw_p5, List.forall_mem_cons.mpr ⟨lw_p6, List.forall_mem_cons.mpr ⟨lw_p7, List.forall_mem_cons.mpr ⟨lw_p8, List.forall_mem_cons.mpr ⟨lw_p9, List.forall_mem_cons.mpr ⟨lw_p10, List.forall_mem_cons.mpr ⟨lw_p11, List.forall_mem_cons.mpr ⟨lw_p12, List.forall_mem_cons.mpr ⟨lw_p13, List.forall_mem_cons.mpr ⟨lw_p14, List.forall_mem_cons.mpr ⟨lw_p15, fun _ h => absurd h List.not_mem_nil⟩⟩⟩⟩⟩⟩⟩⟩⟩⟩⟩⟩⟩⟩⟩⟩
def lw_privs : List (MethodName × Nat) := lw_privs_1
def lw_tbl : List Cond := k2_sels lw_privs ++ tables_1
theorem lw_privs_ok : ∀ q ∈ lw_privs, lw_okq q := lw_r1
/-- the streams that the claim lets the run draw from -/
abbrev lw_cs : List Choice := [Jvm.Choice.named "NaN.bits"]
theorem lw_bits : nanBits ∈ lw_cs := by first | decide | exact List.mem_cons_self | simp [lw_cs, nanBits]
def RX0 : String := "PairGrammars$Grammar"
def TX0 : u_T := fun k => match k with
  | 0 => ("PairGrammars$Grammar", "rows", "[LPairGrammars$Row;", true)
  | 1 => ("PairGrammars$Grammar", "main", "LPairGrammars$Row;", true)
  | 2 => ("PairGrammars$Grammar", "rules", "I", false)
  | 3 => ("PairGrammars$Grammar", "letters", "[I", true)
  | 4 => ("PairGrammars$Grammar", "depths", "[I", true)
  | 5 => ("PairGrammars$Grammar", "uses", "[I", true)
  | _ => ("PairGrammars$Grammar", "wordLetters", "I", false)
def tyX0 : Nat → FieldType := fun k => match k with
  | 0 => .array (.object "PairGrammars$Row")
  | 1 => .object "PairGrammars$Row"
  | 2 => .int
  | 3 => .array .int
  | 4 => .array .int
  | 5 => .array .int
  | _ => .int
abbrev wsX00 : List Cond := u_ws RX0 TX0 7
theorem nmX0 : ∀ a, a < 7 → ∀ b, b < 7 → a ≠ b → (TX0 a).2.1 ≠ (TX0 b).2.1 := by decide +kernel
theorem tyX0_ok : ∀ k, k < 7 → parseFieldDescriptor (TX0 k).2.2.1 = some (tyX0 k) := by decide +kernel
abbrev cX0_init : ByteArray := prog_2_method_1_code
def yX0_init : MethodName := ⟨RX0, "<init>", "()V"⟩
abbrev cX0_clear : ByteArray := prog_2_method_2_code
def yX0_clear : MethodName := ⟨RX0, "clear", "()V"⟩
abbrev cX0_copy : ByteArray := prog_2_method_3_code
def yX0_copy : MethodName := ⟨RX0, "copy", "(LPairGrammars$Grammar;)V"⟩
abbrev cX0_ruleCount : ByteArray := prog_2_method_4_code
def yX0_ruleCount : MethodName := ⟨RX0, "ruleCount", "()I"⟩
abbrev cX0_hasRule : ByteArray := prog_2_method_5_code
def yX0_hasRule : MethodName := ⟨RX0, "hasRule", "(I)Z"⟩
abbrev cX0_hasSymbol : ByteArray := prog_2_method_6_code
def yX0_hasSymbol : MethodName := ⟨RX0, "hasSymbol", "(I)Z"⟩
abbrev cX0_isRule : ByteArray := prog_2_method_7_code
def yX0_isRule : MethodName := ⟨RX0, "isRule", "(I)Z"⟩
abbrev cX0_hasPlace : ByteArray := prog_2_method_8_code
def yX0_hasPlace : MethodName := ⟨RX0, "hasPlace", "(I)Z"⟩
abbrev cX0_mainRow : ByteArray := prog_2_method_9_code
def yX0_mainRow : MethodName := ⟨RX0, "mainRow", "()LPairGrammars$Row;"⟩
abbrev cX0_ruleRow : ByteArray := prog_2_method_10_code
def yX0_ruleRow : MethodName := ⟨RX0, "ruleRow", "(I)LPairGrammars$Row;"⟩
abbrev cX0_mainSymbol : ByteArray := prog_2_method_11_code
def yX0_mainSymbol : MethodName := ⟨RX0, "mainSymbol", "(I)I"⟩
abbrev cX0_wordLetters : ByteArray := prog_2_method_12_code
def yX0_wordLetters : MethodName := ⟨RX0, "wordLetters", "()I"⟩
abbrev cX0_lettersOfRule : ByteArray := prog_2_method_13_code
def yX0_lettersOfRule : MethodName := ⟨RX0, "lettersOfRule", "(I)I"⟩
abbrev cX0_depthOfRule : ByteArray := prog_2_method_14_code
def yX0_depthOfRule : MethodName := ⟨RX0, "depthOfRule", "(I)I"⟩
abbrev cX0_usesOf : ByteArray := prog_2_method_15_code
def yX0_usesOf : MethodName := ⟨RX0, "usesOf", "(I)I"⟩
abbrev cX0_lettersOfSymbol : ByteArray := prog_2_method_16_code
def yX0_lettersOfSymbol : MethodName := ⟨RX0, "lettersOfSymbol", "(I)I"⟩
abbrev cX0_totalSize : ByteArray := prog_2_method_17_code
def yX0_totalSize : MethodName := ⟨RX0, "totalSize", "()I"⟩
abbrev cX0_deepest : ByteArray := prog_2_method_18_code
def yX0_deepest : MethodName := ⟨RX0, "deepest", "()I"⟩
abbrev cX0_unusedRules : ByteArray := prog_2_method_19_code
def yX0_unusedRules : MethodName := ⟨RX0, "unusedRules", "()I"⟩
abbrev cX0_tellsTooMuch : ByteArray := prog_2_method_20_code
def yX0_tellsTooMuch : MethodName := ⟨RX0, "tellsTooMuch", "()Z"⟩
abbrev cX0_measure : ByteArray := prog_2_method_21_code
def yX0_measure : MethodName := ⟨RX0, "measure", "()V"⟩
abbrev cX0_depthOfRow : ByteArray := prog_2_method_22_code
def yX0_depthOfRow : MethodName := ⟨RX0, "depthOfRow", "(LPairGrammars$Row;)I"⟩
abbrev cX0_noteUses : ByteArray := prog_2_method_23_code
def yX0_noteUses : MethodName := ⟨RX0, "noteUses", "(LPairGrammars$Row;)V"⟩
abbrev cX0_lettersAhead : ByteArray := prog_2_method_24_code
def yX0_lettersAhead : MethodName := ⟨RX0, "lettersAhead", "(LPairGrammars$Row;I)I"⟩
abbrev cX0_positionOf : ByteArray := prog_2_method_25_code
def yX0_positionOf : MethodName := ⟨RX0, "positionOf", "(LPairGrammars$Row;I)I"⟩
abbrev cX0_positionInMain : ByteArray := prog_2_method_26_code
def yX0_positionInMain : MethodName := ⟨RX0, "positionInMain", "(I)I"⟩
abbrev cX0_isBoundary : ByteArray := prog_2_method_27_code
def yX0_isBoundary : MethodName := ⟨RX0, "isBoundary", "(I)Z"⟩
abbrev cX0_openTo : ByteArray := prog_2_method_28_code
def yX0_openTo : MethodName := ⟨RX0, "openTo", "(I)I"⟩
abbrev cX0_setInMain : ByteArray := prog_2_method_29_code
def yX0_setInMain : MethodName := ⟨RX0, "setInMain", "(II)V"⟩
abbrev cX0_putIntoMain : ByteArray := prog_2_method_30_code
def yX0_putIntoMain : MethodName := ⟨RX0, "putIntoMain", "(II)Z"⟩
abbrev cX0_takeFromMain : ByteArray := prog_2_method_31_code
def yX0_takeFromMain : MethodName := ⟨RX0, "takeFromMain", "(I)V"⟩
abbrev cX0_addRule : ByteArray := prog_2_method_32_code
def yX0_addRule : MethodName := ⟨RX0, "addRule", "()LPairGrammars$Row;"⟩
abbrev cX0_foldUpTo : ByteArray := prog_2_method_33_code
def yX0_foldUpTo : MethodName := ⟨RX0, "foldUpTo", "(ILPairGrammars$Pairs;)I"⟩
abbrev cX0_canUnroll : ByteArray := prog_2_method_34_code
def yX0_canUnroll : MethodName := ⟨RX0, "canUnroll", "(I)Z"⟩
abbrev cX0_unrollRule : ByteArray := prog_2_method_35_code
def yX0_unrollRule : MethodName := ⟨RX0, "unrollRule", "(I)V"⟩
abbrev cX0_unrollSeldomUsed : ByteArray := prog_2_method_36_code
def yX0_unrollSeldomUsed : MethodName := ⟨RX0, "unrollSeldomUsed", "()I"⟩
abbrev cX0_lowestSeldomUsed : ByteArray := prog_2_method_37_code
def yX0_lowestSeldomUsed : MethodName := ⟨RX0, "lowestSeldomUsed", "()I"⟩
def RX1 : String := "PairGrammars$History"
def TX1 : u_T := fun k => match k with
  | 0 => ("PairGrammars$History", "states", "[LPairGrammars$Grammar;", true)
  | 1 => ("PairGrammars$History", "next", "I", false)
  | _ => ("PairGrammars$History", "kept", "I", false)
def tyX1 : Nat → FieldType := fun k => match k with
  | 0 => .array (.object "PairGrammars$Grammar")
  | 1 => .int
  | _ => .int
abbrev wsX10 : List Cond := u_ws RX1 TX1 3
theorem nmX1 : ∀ a, a < 3 → ∀ b, b < 3 → a ≠ b → (TX1 a).2.1 ≠ (TX1 b).2.1 := by decide +kernel
theorem tyX1_ok : ∀ k, k < 3 → parseFieldDescriptor (TX1 k).2.2.1 = some (tyX1 k) := by decide +kernel
abbrev cX1_init : ByteArray := prog_3_method_1_code
def yX1_init : MethodName := ⟨RX1, "<init>", "()V"⟩
abbrev cX1_size : ByteArray := prog_3_method_2_code
def yX1_size : MethodName := ⟨RX1, "size", "()I"⟩
abbrev cX1_record : ByteArray := prog_3_method_3_code
def yX1_record : MethodName := ⟨RX1, "record", "(LPairGrammars$Grammar;)V"⟩
abbrev cX1_takeBack : ByteArray := prog_3_method_4_code
def yX1_takeBack : MethodName := ⟨RX1, "takeBack", "(LPairGrammars$Grammar;)V"⟩
def RX2 : String := "PairGrammars$Pad"
def TX2 : u_T := fun k => match k with
  | 0 => ("PairGrammars$Pad", "codes", "[I", true)
  | _ => ("PairGrammars$Pad", "length", "I", false)
def tyX2 : Nat → FieldType := fun k => match k with
  | 0 => .array .int
  | _ => .int
abbrev wsX20 : List Cond := u_ws RX2 TX2 2
theorem nmX2 : ∀ a, a < 2 → ∀ b, b < 2 → a ≠ b → (TX2 a).2.1 ≠ (TX2 b).2.1 := by decide +kernel
theorem tyX2_ok : ∀ k, k < 2 → parseFieldDescriptor (TX2 k).2.2.1 = some (tyX2 k) := by decide +kernel
abbrev cX2_init : ByteArray := prog_4_method_1_code
def yX2_init : MethodName := ⟨RX2, "<init>", "()V"⟩
abbrev cX2_size : ByteArray := prog_4_method_2_code
def yX2_size : MethodName := ⟨RX2, "size", "()I"⟩
abbrev cX2_at : ByteArray := prog_4_method_3_code
def yX2_at : MethodName := ⟨RX2, "at", "(I)I"⟩
abbrev cX2_add : ByteArray := prog_4_method_4_code
def yX2_add : MethodName := ⟨RX2, "add", "(I)V"⟩
abbrev cX2_clear : ByteArray := prog_4_method_5_code
def yX2_clear : MethodName := ⟨RX2, "clear", "()V"⟩
def RX3 : String := "PairGrammars$Pairs"
def TX3 : u_T := fun k => match k with
  | 0 => ("PairGrammars$Pairs", "times", "[I", true)
  | 1 => ("PairGrammars$Pairs", "bestFirst", "I", false)
  | 2 => ("PairGrammars$Pairs", "bestSecond", "I", false)
  | _ => ("PairGrammars$Pairs", "bestTimes", "I", false)
def tyX3 : Nat → FieldType := fun k => match k with
  | 0 => .array .int
  | 1 => .int
  | 2 => .int
  | _ => .int
abbrev wsX30 : List Cond := u_ws RX3 TX3 4
theorem nmX3 : ∀ a, a < 4 → ∀ b, b < 4 → a ≠ b → (TX3 a).2.1 ≠ (TX3 b).2.1 := by decide +kernel
theorem tyX3_ok : ∀ k, k < 4 → parseFieldDescriptor (TX3 k).2.2.1 = some (tyX3 k) := by decide +kernel
abbrev cX3_init : ByteArray := prog_5_method_1_code
def yX3_init : MethodName := ⟨RX3, "<init>", "()V"⟩
abbrev cX3_bestFirst : ByteArray := prog_5_method_2_code
def yX3_bestFirst : MethodName := ⟨RX3, "bestFirst", "()I"⟩
abbrev cX3_bestSecond : ByteArray := prog_5_method_3_code
def yX3_bestSecond : MethodName := ⟨RX3, "bestSecond", "()I"⟩
abbrev cX3_bestTimes : ByteArray := prog_5_method_4_code
def yX3_bestTimes : MethodName := ⟨RX3, "bestTimes", "()I"⟩
abbrev cX3_findBest : ByteArray := prog_5_method_5_code
def yX3_findBest : MethodName := ⟨RX3, "findBest", "(LPairGrammars$Row;)Z"⟩
abbrev cX3_countAll : ByteArray := prog_5_method_6_code
def yX3_countAll : MethodName := ⟨RX3, "countAll", "(LPairGrammars$Row;)V"⟩
abbrev cX3_keyAt : ByteArray := prog_5_method_7_code
def yX3_keyAt : MethodName := ⟨RX3, "keyAt", "(LPairGrammars$Row;I)I"⟩
def RX4 : String := "PairGrammars$Path"
def TX4 : u_T := fun k => match k with
  | 0 => ("PairGrammars$Path", "foundLetter", "I", false)
  | _ => ("PairGrammars$Path", "rulesPassed", "I", false)
def tyX4 : Nat → FieldType := fun k => match k with
  | 0 => .int
  | _ => .int
abbrev wsX40 : List Cond := u_ws RX4 TX4 2
theorem nmX4 : ∀ a, a < 2 → ∀ b, b < 2 → a ≠ b → (TX4 a).2.1 ≠ (TX4 b).2.1 := by decide +kernel
theorem tyX4_ok : ∀ k, k < 2 → parseFieldDescriptor (TX4 k).2.2.1 = some (tyX4 k) := by decide +kernel
abbrev cX4_init : ByteArray := prog_6_method_1_code
def yX4_init : MethodName := ⟨RX4, "<init>", "()V"⟩
abbrev cX4_foundLetter : ByteArray := prog_6_method_2_code
def yX4_foundLetter : MethodName := ⟨RX4, "foundLetter", "()I"⟩
abbrev cX4_rulesPassed : ByteArray := prog_6_method_3_code
def yX4_rulesPassed : MethodName := ⟨RX4, "rulesPassed", "()I"⟩
abbrev cX4_follow : ByteArray := prog_6_method_4_code
def yX4_follow : MethodName := ⟨RX4, "follow", "(LPairGrammars$Grammar;I)V"⟩
def RX5 : String := "PairGrammars$Reader"
def TX5 : u_T := fun k => match k with
  | _ => ("PairGrammars$Reader", "rule", "LPairGrammars$Row;", true)
def tyX5 : Nat → FieldType := fun k => match k with
  | _ => .object "PairGrammars$Row"
abbrev wsX50 : List Cond := u_ws RX5 TX5 1
theorem nmX5 : ∀ a, a < 1 → ∀ b, b < 1 → a ≠ b → (TX5 a).2.1 ≠ (TX5 b).2.1 := by decide +kernel
theorem tyX5_ok : ∀ k, k < 1 → parseFieldDescriptor (TX5 k).2.2.1 = some (tyX5 k) := by decide +kernel
abbrev cX5_init : ByteArray := prog_7_method_1_code
def yX5_init : MethodName := ⟨RX5, "<init>", "()V"⟩
abbrev cX5_read : ByteArray := prog_7_method_2_code
def yX5_read : MethodName := ⟨RX5, "read", "(LPairGrammars$Pad;LPairGrammars$Grammar;)I"⟩
abbrev cX5_next : ByteArray := prog_7_method_3_code
def yX5_next : MethodName := ⟨RX5, "next", "(IILPairGrammars$Grammar;)I"⟩
abbrev cX5_startRow : ByteArray := prog_7_method_4_code
def yX5_startRow : MethodName := ⟨RX5, "startRow", "(ILPairGrammars$Grammar;)I"⟩
abbrev cX5_endRule : ByteArray := prog_7_method_5_code
def yX5_endRule : MethodName := ⟨RX5, "endRule", "(LPairGrammars$Grammar;)I"⟩
abbrev cX5_grow : ByteArray := prog_7_method_6_code
def yX5_grow : MethodName := ⟨RX5, "grow", "(LPairGrammars$Row;ILPairGrammars$Grammar;I)I"⟩
abbrev cX5_symbolOf : ByteArray := prog_7_method_7_code
def yX5_symbolOf : MethodName := ⟨RX5, "symbolOf", "(I)I"⟩
def RX6 : String := "PairGrammars$Row"
def TX6 : u_T := fun k => match k with
  | 0 => ("PairGrammars$Row", "symbols", "[I", true)
  | _ => ("PairGrammars$Row", "length", "I", false)
def tyX6 : Nat → FieldType := fun k => match k with
  | 0 => .array .int
  | _ => .int
abbrev wsX60 : List Cond := u_ws RX6 TX6 2
theorem nmX6 : ∀ a, a < 2 → ∀ b, b < 2 → a ≠ b → (TX6 a).2.1 ≠ (TX6 b).2.1 := by decide +kernel
theorem tyX6_ok : ∀ k, k < 2 → parseFieldDescriptor (TX6 k).2.2.1 = some (tyX6 k) := by decide +kernel
abbrev cX6_init : ByteArray := prog_8_method_1_code
def yX6_init : MethodName := ⟨RX6, "<init>", "()V"⟩
abbrev cX6_size : ByteArray := prog_8_method_2_code
def yX6_size : MethodName := ⟨RX6, "size", "()I"⟩
abbrev cX6_has : ByteArray := prog_8_method_3_code
def yX6_has : MethodName := ⟨RX6, "has", "(I)Z"⟩
abbrev cX6_at : ByteArray := prog_8_method_4_code
def yX6_at : MethodName := ⟨RX6, "at", "(I)I"⟩
abbrev cX6_set : ByteArray := prog_8_method_5_code
def yX6_set : MethodName := ⟨RX6, "set", "(II)V"⟩
abbrev cX6_clear : ByteArray := prog_8_method_6_code
def yX6_clear : MethodName := ⟨RX6, "clear", "()V"⟩
abbrev cX6_copy : ByteArray := prog_8_method_7_code
def yX6_copy : MethodName := ⟨RX6, "copy", "(LPairGrammars$Row;)V"⟩
abbrev cX6_add : ByteArray := prog_8_method_8_code
def yX6_add : MethodName := ⟨RX6, "add", "(I)Z"⟩
abbrev cX6_putIn : ByteArray := prog_8_method_9_code
def yX6_putIn : MethodName := ⟨RX6, "putIn", "(II)Z"⟩
abbrev cX6_takeOut : ByteArray := prog_8_method_10_code
def yX6_takeOut : MethodName := ⟨RX6, "takeOut", "(I)V"⟩
abbrev cX6_open : ByteArray := prog_8_method_11_code
def yX6_open : MethodName := ⟨RX6, "open", "(ILPairGrammars$Row;)Z"⟩
abbrev cX6_shift : ByteArray := prog_8_method_12_code
def yX6_shift : MethodName := ⟨RX6, "shift", "(II)Z"⟩
abbrev cX6_hasPair : ByteArray := prog_8_method_13_code
def yX6_hasPair : MethodName := ⟨RX6, "hasPair", "(III)Z"⟩
abbrev cX6_timesOfPair : ByteArray := prog_8_method_14_code
def yX6_timesOfPair : MethodName := ⟨RX6, "timesOfPair", "(II)I"⟩
abbrev cX6_foldPair : ByteArray := prog_8_method_15_code
def yX6_foldPair : MethodName := ⟨RX6, "foldPair", "(III)V"⟩
abbrev cX6_canUnroll : ByteArray := prog_8_method_16_code
def yX6_canUnroll : MethodName := ⟨RX6, "canUnroll", "(ILPairGrammars$Row;)Z"⟩
abbrev cX6_unrollSymbol : ByteArray := prog_8_method_17_code
def yX6_unrollSymbol : MethodName := ⟨RX6, "unrollSymbol", "(ILPairGrammars$Row;)V"⟩
def RX7 : String := "PairGrammars$Tally"
def TX7 : u_T := fun k => match k with
  | 0 => ("PairGrammars$Tally", "factors", "[I", true)
  | 1 => ("PairGrammars$Tally", "sums", "[I", true)
  | 2 => ("PairGrammars$Tally", "factor", "I", false)
  | _ => ("PairGrammars$Tally", "sum", "I", false)
def tyX7 : Nat → FieldType := fun k => match k with
  | 0 => .array .int
  | 1 => .array .int
  | 2 => .int
  | _ => .int
abbrev wsX70 : List Cond := u_ws RX7 TX7 4
theorem nmX7 : ∀ a, a < 4 → ∀ b, b < 4 → a ≠ b → (TX7 a).2.1 ≠ (TX7 b).2.1 := by decide +kernel
theorem tyX7_ok : ∀ k, k < 4 → parseFieldDescriptor (TX7 k).2.2.1 = some (tyX7 k) := by decide +kernel
abbrev cX7_init : ByteArray := prog_9_method_1_code
def yX7_init : MethodName := ⟨RX7, "<init>", "()V"⟩
abbrev cX7_markOfWord : ByteArray := prog_9_method_2_code
def yX7_markOfWord : MethodName := ⟨RX7, "markOfWord", "(LPairGrammars$Grammar;)I"⟩
abbrev cX7_timesOfLetter : ByteArray := prog_9_method_3_code
def yX7_timesOfLetter : MethodName := ⟨RX7, "timesOfLetter", "(LPairGrammars$Grammar;I)I"⟩
abbrev cX7_sumRules : ByteArray := prog_9_method_4_code
def yX7_sumRules : MethodName := ⟨RX7, "sumRules", "(LPairGrammars$Grammar;)V"⟩
abbrev cX7_sumRow : ByteArray := prog_9_method_5_code
def yX7_sumRow : MethodName := ⟨RX7, "sumRow", "(LPairGrammars$Row;I)V"⟩
def RX8 : String := "PairGrammars$Walk"
def TX8 : u_T := fun k => match k with
  | 0 => ("PairGrammars$Walk", "rows", "[I", true)
  | 1 => ("PairGrammars$Walk", "positions", "[I", true)
  | _ => ("PairGrammars$Walk", "open", "I", false)
def tyX8 : Nat → FieldType := fun k => match k with
  | 0 => .array .int
  | 1 => .array .int
  | _ => .int
abbrev wsX80 : List Cond := u_ws RX8 TX8 3
theorem nmX8 : ∀ a, a < 3 → ∀ b, b < 3 → a ≠ b → (TX8 a).2.1 ≠ (TX8 b).2.1 := by decide +kernel
theorem tyX8_ok : ∀ k, k < 3 → parseFieldDescriptor (TX8 k).2.2.1 = some (tyX8 k) := by decide +kernel
abbrev cX8_init : ByteArray := prog_10_method_1_code
def yX8_init : MethodName := ⟨RX8, "<init>", "()V"⟩
abbrev cX8_start : ByteArray := prog_10_method_2_code
def yX8_start : MethodName := ⟨RX8, "start", "()V"⟩
abbrev cX8_next : ByteArray := prog_10_method_3_code
def yX8_next : MethodName := ⟨RX8, "next", "(LPairGrammars$Grammar;)I"⟩
abbrev cX8_enter : ByteArray := prog_10_method_4_code
def yX8_enter : MethodName := ⟨RX8, "enter", "(I)V"⟩
def RX9 : String := "PairGrammars"
def TX9 : u_T := fun k => match k with
  | 0 => ("PairGrammars", "now", "LPairGrammars$Grammar;", true)
  | 1 => ("PairGrammars", "trial", "LPairGrammars$Grammar;", true)
  | 2 => ("PairGrammars", "pad", "LPairGrammars$Pad;", true)
  | 3 => ("PairGrammars", "history", "LPairGrammars$History;", true)
  | 4 => ("PairGrammars", "slots", "[LPairGrammars$Grammar;", true)
  | 5 => ("PairGrammars", "saved", "[Z", true)
  | 6 => ("PairGrammars", "reader", "LPairGrammars$Reader;", true)
  | 7 => ("PairGrammars", "pairs", "LPairGrammars$Pairs;", true)
  | 8 => ("PairGrammars", "tally", "LPairGrammars$Tally;", true)
  | 9 => ("PairGrammars", "path", "LPairGrammars$Path;", true)
  | 10 => ("PairGrammars", "walk", "LPairGrammars$Walk;", true)
  | _ => ("PairGrammars", "otherWalk", "LPairGrammars$Walk;", true)
def tyX9 : Nat → FieldType := fun k => match k with
  | 0 => .object "PairGrammars$Grammar"
  | 1 => .object "PairGrammars$Grammar"
  | 2 => .object "PairGrammars$Pad"
  | 3 => .object "PairGrammars$History"
  | 4 => .array (.object "PairGrammars$Grammar")
  | 5 => .array .boolean
  | 6 => .object "PairGrammars$Reader"
  | 7 => .object "PairGrammars$Pairs"
  | 8 => .object "PairGrammars$Tally"
  | 9 => .object "PairGrammars$Path"
  | 10 => .object "PairGrammars$Walk"
  | _ => .object "PairGrammars$Walk"
abbrev wsX90 : List Cond := u_ws RX9 TX9 12
theorem nmX9 : ∀ a, a < 12 → ∀ b, b < 12 → a ≠ b → (TX9 a).2.1 ≠ (TX9 b).2.1 := by decide +kernel
theorem tyX9_ok : ∀ k, k < 12 → parseFieldDescriptor (TX9 k).2.2.1 = some (tyX9 k) := by decide +kernel
abbrev cX9_init : ByteArray := prog_1_method_1_code
def yX9_init : MethodName := ⟨RX9, "<init>", "()V"⟩
abbrev cX9_tell : ByteArray := prog_1_method_2_code
def yX9_tell : MethodName := ⟨RX9, "tell", "()I"⟩
abbrev cX9_fold : ByteArray := prog_1_method_3_code
def yX9_fold : MethodName := ⟨RX9, "fold", "(I)I"⟩
abbrev cX9_unroll : ByteArray := prog_1_method_4_code
def yX9_unroll : MethodName := ⟨RX9, "unroll", "(I)I"⟩
abbrev cX9_prune : ByteArray := prog_1_method_5_code
def yX9_prune : MethodName := ⟨RX9, "prune", "()I"⟩
abbrev cX9_edit : ByteArray := prog_1_method_6_code
def yX9_edit : MethodName := ⟨RX9, "edit", "(II)I"⟩
abbrev cX9_insert : ByteArray := prog_1_method_7_code
def yX9_insert : MethodName := ⟨RX9, "insert", "(II)I"⟩
abbrev cX9_delete : ByteArray := prog_1_method_8_code
def yX9_delete : MethodName := ⟨RX9, "delete", "(I)I"⟩
abbrev cX9_letter : ByteArray := prog_1_method_9_code
def yX9_letter : MethodName := ⟨RX9, "letter", "(I)I"⟩
abbrev cX9_symbol : ByteArray := prog_1_method_10_code
def yX9_symbol : MethodName := ⟨RX9, "symbol", "(II)I"⟩
abbrev cX9_ofRule : ByteArray := prog_1_method_11_code
def yX9_ofRule : MethodName := ⟨RX9, "ofRule", "(II)I"⟩
abbrev cX9_count : ByteArray := prog_1_method_12_code
def yX9_count : MethodName := ⟨RX9, "count", "(I)I"⟩
abbrev cX9_pair : ByteArray := prog_1_method_13_code
def yX9_pair : MethodName := ⟨RX9, "pair", "(II)I"⟩
abbrev cX9_best : ByteArray := prog_1_method_14_code
def yX9_best : MethodName := ⟨RX9, "best", "(I)I"⟩
abbrev cX9_ratio : ByteArray := prog_1_method_15_code
def yX9_ratio : MethodName := ⟨RX9, "ratio", "()J"⟩
abbrev cX9_share : ByteArray := prog_1_method_16_code
def yX9_share : MethodName := ⟨RX9, "share", "(I)I"⟩
abbrev cX9_mark : ByteArray := prog_1_method_17_code
def yX9_mark : MethodName := ⟨RX9, "mark", "()I"⟩
abbrev cX9_couldBe : ByteArray := prog_1_method_18_code
def yX9_couldBe : MethodName := ⟨RX9, "couldBe", "()I"⟩
abbrev cX9_unlike : ByteArray := prog_1_method_19_code
def yX9_unlike : MethodName := ⟨RX9, "unlike", "(I)I"⟩
abbrev cX9_opens : ByteArray := prog_1_method_20_code
def yX9_opens : MethodName := ⟨RX9, "opens", "(I)I"⟩
abbrev cX9_put : ByteArray := prog_1_method_21_code
def yX9_put : MethodName := ⟨RX9, "put", "(J)I"⟩
abbrev cX9_wipe : ByteArray := prog_1_method_22_code
def yX9_wipe : MethodName := ⟨RX9, "wipe", "()I"⟩
abbrev cX9_undo : ByteArray := prog_1_method_24_code
def yX9_undo : MethodName := ⟨RX9, "undo", "()I"⟩
abbrev cX9_save : ByteArray := prog_1_method_25_code
def yX9_save : MethodName := ⟨RX9, "save", "(I)I"⟩
abbrev cX9_restore : ByteArray := prog_1_method_26_code
def yX9_restore : MethodName := ⟨RX9, "restore", "(I)I"⟩
abbrev cX9_accept : ByteArray := prog_1_method_27_code
def yX9_accept : MethodName := ⟨RX9, "accept", "(I)I"⟩
abbrev cX9_isLetter : ByteArray := prog_1_method_28_code
def yX9_isLetter : MethodName := ⟨RX9, "isLetter", "(I)Z"⟩
abbrev cX9_isSlot : ByteArray := prog_1_method_29_code
def yX9_isSlot : MethodName := ⟨RX9, "isSlot", "(I)Z"⟩
abbrev cX9_codeIn : ByteArray := prog_1_method_30_code
def yX9_codeIn : MethodName := ⟨RX9, "codeIn", "(JI)I"⟩
abbrev cX9_lengthOf : ByteArray := prog_1_method_31_code
def yX9_lengthOf : MethodName := ⟨RX9, "lengthOf", "(J)I"⟩
abbrev cX9_bitsOf : ByteArray := prog_1_method_32_code
def yX9_bitsOf : MethodName := ⟨RX9, "bitsOf", "(DII)J"⟩
def RX10 : String := "PairGrammarsModel"
def TX10 : u_T := fun k => match k with
  | _ => ("", "", "", false)
def tyX10 : Nat → FieldType := fun k => match k with
  | _ => .int
abbrev wsX100 : List Cond := u_ws RX10 TX10 0
theorem nmX10 : ∀ a, a < 0 → ∀ b, b < 0 → a ≠ b → (TX10 a).2.1 ≠ (TX10 b).2.1 := by decide +kernel
theorem tyX10_ok : ∀ k, k < 0 → parseFieldDescriptor (TX10 k).2.2.1 = some (tyX10 k) := by decide +kernel
def RJ9 : String := "java/lang/Math"
def TJ9 : u_T := fun k => match k with
  | _ => ("", "", "", false)
def tyJ9 : Nat → FieldType := fun k => match k with
  | _ => .int
abbrev wsJ90 : List Cond := u_ws RJ9 TJ9 0
theorem nmJ9 : ∀ a, a < 0 → ∀ b, b < 0 → a ≠ b → (TJ9 a).2.1 ≠ (TJ9 b).2.1 := by decide +kernel
theorem tyJ9_ok : ∀ k, k < 0 → parseFieldDescriptor (TJ9 k).2.2.1 = some (tyJ9 k) := by decide +kernel
abbrev cJ9_max_7cf53 : ByteArray := prog_13_method_65_code
def yJ9_max_7cf53 : MethodName := ⟨RJ9, "max", "(II)I"⟩
abbrev cJ9_min_7cf53 : ByteArray := prog_13_method_69_code
def yJ9_min_7cf53 : MethodName := ⟨RJ9, "min", "(II)I"⟩
def RJ10 : String := "java/lang/System"
def TJ10 : u_T := fun k => match k with
  | _ => ("", "", "", false)
def tyJ10 : Nat → FieldType := fun k => match k with
  | _ => .int
abbrev wsJ100 : List Cond := u_ws RJ10 TJ10 0
theorem nmJ10 : ∀ a, a < 0 → ∀ b, b < 0 → a ≠ b → (TJ10 a).2.1 ≠ (TJ10 b).2.1 := by decide +kernel
theorem tyJ10_ok : ∀ k, k < 0 → parseFieldDescriptor (TJ10 k).2.2.1 = some (tyJ10 k) := by decide +kernel
def RJ7 : String := "java/util/Arrays"
def TJ7 : u_T := fun k => match k with
  | _ => ("", "", "", false)
def tyJ7 : Nat → FieldType := fun k => match k with
  | _ => .int
abbrev wsJ70 : List Cond := u_ws RJ7 TJ7 0
theorem nmJ7 : ∀ a, a < 0 → ∀ b, b < 0 → a ≠ b → (TJ7 a).2.1 ≠ (TJ7 b).2.1 := by decide +kernel
theorem tyJ7_ok : ∀ k, k < 0 → parseFieldDescriptor (TJ7 k).2.2.1 = some (tyJ7 k) := by decide +kernel
abbrev cJ7_fill_53178 : ByteArray := prog_15_method_103_code
def yJ7_fill_53178 : MethodName := ⟨RJ7, "fill", "([II)V"⟩
def RL : String := "PairGrammarsLaw"
abbrev cL_cell : ByteArray := method_2_code
def yL_cell : MethodName := ⟨RL, "cell", "([II)I"⟩
abbrev cL_up : ByteArray := method_3_code
def yL_up : MethodName := ⟨RL, "up", "(II)I"⟩
abbrev cL_there : ByteArray := method_4_code
def yL_there : MethodName := ⟨RL, "there", "(I)I"⟩
abbrev cL_isGrammar : ByteArray := method_5_code
def yL_isGrammar : MethodName := ⟨RL, "isGrammar", "(LPairGrammars;LPairGrammars;II)Z"⟩
abbrev cL_puts : ByteArray := method_6_code
def yL_puts : MethodName := ⟨RL, "puts", "(LPairGrammars;LPairGrammars;I)Z"⟩
abbrev cL_isStep : ByteArray := method_7_code
def yL_isStep : MethodName := ⟨RL, "isStep", "(LPairGrammars;LPairGrammars;II)Z"⟩
abbrev cL_areAlike : ByteArray := method_8_code
def yL_areAlike : MethodName := ⟨RL, "areAlike", "(LPairGrammars;LPairGrammars;)Z"⟩
abbrev cL_isWell : ByteArray := method_9_code
def yL_isWell : MethodName := ⟨RL, "isWell", "(LPairGrammars;)Z"⟩
abbrev cL_law : ByteArray := code
def yL_law : MethodName := ⟨RL, "law", "([I)Z"⟩
abbrev vwCl : List vw_C := [(RX0, TX0, 7), (RX1, TX1, 3), (RX2, TX2, 2), (RX3, TX3, 4), (RX4, TX4, 2), (RX5, TX5, 1), (RX6, TX6, 2), (RX7, TX7, 4), (RX8, TX8, 3), (RX9, TX9, 12)]
theorem inw {ws : List Cond} (h : ws.all (fun w => lw_tbl.any (fun v => decide (v = w))) = true) : ∀ w ∈ ws, w ∈ lw_tbl := by
  intro w hw
  have h1 := List.all_eq_true.mp h w hw
  obtain ⟨v, hv, e⟩ := List.any_eq_true.mp h1
  rw [decide_eq_true_eq] at e
  rw [← e]; exact hv
theorem inX0 : ∀ w ∈ wsX00, w ∈ lw_tbl := by decide +kernel
theorem inX1 : ∀ w ∈ wsX10, w ∈ lw_tbl := by decide +kernel
theorem inX2 : ∀ w ∈ wsX20, w ∈ lw_tbl := by decide +kernel
theorem inX3 : ∀ w ∈ wsX30, w ∈ lw_tbl := by decide +kernel
theorem inX4 : ∀ w ∈ wsX40, w ∈ lw_tbl := by decide +kernel
theorem inX5 : ∀ w ∈ wsX50, w ∈ lw_tbl := by decide +kernel
theorem inX6 : ∀ w ∈ wsX60, w ∈ lw_tbl := by decide +kernel
theorem inX7 : ∀ w ∈ wsX70, w ∈ lw_tbl := by decide +kernel
theorem inX8 : ∀ w ∈ wsX80, w ∈ lw_tbl := by decide +kernel
theorem inX9 : ∀ w ∈ wsX90, w ∈ lw_tbl := by decide +kernel
